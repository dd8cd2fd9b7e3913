/-! the reference, second part -/
theorem in_X5_lay_X5 : ∀ w ∈ wsX50, w ∈ wsX5_lay := by decide +kernel
theorem in_X5_reverse_X5 : ∀ w ∈ wsX50, w ∈ wsX5_reverse := by decide +kernel
theorem in_X5_rotate_X5 : ∀ w ∈ wsX50, w ∈ wsX5_rotate := by decide +kernel
theorem in_X5_repeat_X5 : ∀ w ∈ wsX50, w ∈ wsX5_repeat := by decide +kernel
theorem in_X5_cut_X5 : ∀ w ∈ wsX50, w ∈ wsX5_cut := by decide +kernel
theorem in_X5_above_X5 : ∀ w ∈ wsX50, w ∈ wsX5_above := by decide +kernel
theorem in_X5_isPlace_X5 : ∀ w ∈ wsX50, w ∈ wsX5_isPlace := by decide +kernel
theorem in_X5_isWarpOnTop_X5 : ∀ w ∈ wsX50, w ∈ wsX5_isWarpOnTop := by decide +kernel
theorem in_X5_colour_X5 : ∀ w ∈ wsX50, w ∈ wsX5_colour := by decide +kernel
abbrev rm_m_lay0 : Room := { frames := 1, cells := 2, slots := 80, locals := 14 }
set_option maxRecDepth 100000 in
set_option maxHeartbeats 4000000 in
theorem c_m_lay0 (l : Launch) (D : va_G) (tys : List (ClassId × FieldType)) (cI cJ cA : ClassId) (hI : tys[0]? = some (cI, .int)) (hJ : tys[1]? = some (cJ, .long)) (hR : tys[2]? = some (cA, .array .int)) (yo : Nat) (thr : Int32) (ri : Int32) (yt : Nat) (ys : Nat) (yf : Nat) (yc : Nat) (co : Nat) (dn : Nat) (yd : Nat) (nw : Nat) (np : Nat) (g0 : Nat) (g1 : Nat) (bw : Nat → Int32) (bp : Nat → Int32) (k0 : Nat) (k1 : Nat) (cw : Nat → Int32) (cp : Nat → Int32) (q : Nat) (n0 : Nat) (gm : Nat → Nat) (hn0 : n0 ≤ 40) (hg : ∀ k, k < n0 → gm k < 40) : MI l yX5_lay wsX5_lay rm_m_lay0 D tys [.ref yo, .int (nI 0), .ref q] [(yo, OB 5 [.int thr, .int ri, .ref yt, .ref ys, .ref yf, .ref yc, .int (nI co), .int (nI dn), .ref yd]), (ys, AI cI 2 (sz2 nw np)), (yf, AR cA 2 (gr2 g0 g1)), (g0, AI cI 40 bw), (g1, AI cI 40 bp), (yc, AR cA 2 (gr2 k0 k1)), (k0, AI cI 40 cw), (k1, AI cI 40 cp), (q, AI cI n0 (flG gm n0))] Unit (fun r (_ : Unit) => r = nI n0) (fun (_ : Unit) => [(yo, OB 5 [.int thr, .int ri, .ref yt, .ref ys, .ref yf, .ref yc, .int (nI co), .int (nI dn), .ref yd]), (ys, AI cI 2 (sz2 n0 np)), (yf, AR cA 2 (gr2 g0 g1)), (g0, AI cI 40 (lyF bw gm n0)), (g1, AI cI 40 bp), (yc, AR cA 2 (gr2 k0 k1)), (k0, AI cI 40 (lyF cw gm n0)), (k1, AI cI 40 cp), (q, AI cI n0 (flG gm n0))]) 2 80 := by
  intro sz
  refine x_met (cc := cX5_lay) (maxL := 6) (ret := (some .int)) (by decide +kernel) rfl (by show _ ≤ _; simp [lg_sl, Value.category]) [(0, .ref yo), (1, .int (nI 0)), (2, .ref q)] rfl ?_
  intro p e s m args below meth c Q A H0 C hK hNW hlk hrt hnm hQ hH0 hAA hA
  refine x_aload_n C dX5_lay_0 rfl 0 rfl ?_
  refine x_get C hK in_X5_lay_X5 0 rfl rfl 4 (by decide) (by decide +kernel) rfl rfl dX5_lay_1 ?_
  refine x_iload_n C dX5_lay_4 rfl 1 rfl ?_
  refine x_aald C hK (r := g0) 2 2 rfl hR rfl (by omega) (by omega) (by rfl) dX5_lay_5 ?_
  refine x_clone C hK hNW hA (by decide +kernel) (by decide +kernel) (by decide +kernel) (by decide +kernel) (by decide +kernel) 46 rfl 3 0 rfl hI (by decide) (by decide) (by first | decide | omega | exact (show _ ≤ 2 by omega)) (by first | decide | omega | exact (show _ ≤ 80 by omega)) dX5_lay_6 (fun q_1 => ?_)
  refine x_castI C hK (ix := 56) (by decide +kernel) 9 0 rfl hI dX5_lay_9 ?_
  refine x_astore_n C [(3, .ref q_1), (0, .ref yo), (1, .int (nI 0)), (2, .ref q)] dX5_lay_12 rfl (by decide) rfl ?_
  refine x_aload_n C dX5_lay_13 rfl 1 rfl ?_
  refine x_get C hK in_X5_lay_X5 0 rfl rfl 5 (by decide) (by decide +kernel) rfl rfl dX5_lay_14 ?_
  refine x_iload_n C dX5_lay_17 rfl 2 rfl ?_
  refine x_aald C hK (r := k0) 5 2 rfl hR rfl (by omega) (by omega) (by rfl) dX5_lay_18 ?_
  refine x_clone C hK hNW hA (by decide +kernel) (by decide +kernel) (by decide +kernel) (by decide +kernel) (by decide +kernel) 46 rfl 6 0 rfl hI (by decide) (by decide) (by first | decide | omega | exact (show _ ≤ 2 by omega)) (by first | decide | omega | exact (show _ ≤ 80 by omega)) dX5_lay_19 (fun q_2 => ?_)
  refine x_castI C hK (ix := 56) (by decide +kernel) 10 0 rfl hI dX5_lay_22 ?_
  refine x_astore C [(4, .ref q_2), (3, .ref q_1), (0, .ref yo), (1, .int (nI 0)), (2, .ref q)] dX5_lay_25 (by decide) rfl ?_
  refine x_aload_n C dX5_lay_27 rfl 2 rfl ?_
  refine x_get C hK in_X5_lay_X5 0 rfl rfl 3 (by decide) (by decide +kernel) rfl rfl dX5_lay_28 ?_
  refine x_iload_n C dX5_lay_31 rfl 3 rfl ?_
  refine x_aload_n C dX5_lay_32 rfl 4 rfl ?_
  refine x_alen C hK 8 0 rfl hI dX5_lay_33 ?_
  refine x_iast C hK 1 0 rfl hI (by omega) (by omega) [(yo, OB 5 [.int thr, .int ri, .ref yt, .ref ys, .ref yf, .ref yc, .int (nI co), .int (nI dn), .ref yd]), (ys, AI cI 2 (upd (sz2 nw np) 0 (nI n0))), (yf, AR cA 2 (gr2 g0 g1)), (g0, AI cI 40 bw), (g1, AI cI 40 bp), (yc, AR cA 2 (gr2 k0 k1)), (k0, AI cI 40 cw), (k1, AI cI 40 cp), (q, AI cI n0 (flG gm n0)), (q_1, AI cI 40 bw), (q_2, AI cI 40 cw)] rfl dX5_lay_34 ?_
  refine x_ws [(yo, OB 5 [.int thr, .int ri, .ref yt, .ref ys, .ref yf, .ref yc, .int (nI co), .int (nI dn), .ref yd]), (ys, AI cI 2 (sz2 n0 np)), (yf, AR cA 2 (gr2 g0 g1)), (g0, AI cI 40 bw), (g1, AI cI 40 bp), (yc, AR cA 2 (gr2 k0 k1)), (k0, AI cI 40 cw), (k1, AI cI 40 cp), (q, AI cI n0 (flG gm n0)), (q_1, AI cI 40 bw), (q_2, AI cI 40 cw)] (by rw [sz2_u0]) ?_
  refine x_iconst C (nI 0) dX5_lay_35 (by decide +kernel) ?_
  refine x_istore C [(5, .int (nI 0)), (4, .ref q_2), (3, .ref q_1), (0, .ref yo), (1, .int (nI 0)), (2, .ref q)] dX5_lay_36 (by decide) rfl ?_
  have K_3 : ∀ (fuel : Nat) (i : Nat), (i ≤ n0) → n0 - i < fuel → X_ p l e rm_m_lay0 s m args below meth c Q D A H0 6 2 80 [(yo, OB 5 [.int thr, .int ri, .ref yt, .ref ys, .ref yf, .ref yc, .int (nI co), .int (nI dn), .ref yd]), (ys, AI cI 2 (sz2 n0 np)), (yf, AR cA 2 (gr2 g0 g1)), (g0, AI cI 40 (lyF bw gm i)), (g1, AI cI 40 bp), (yc, AR cA 2 (gr2 k0 k1)), (k0, AI cI 40 (lyF cw gm i)), (k1, AI cI 40 cp), (q, AI cI n0 (flG gm n0)), (q_1, AI cI 40 bw), (q_2, AI cI 40 cw)] [(0, .ref yo), (1, .int (nI 0)), (2, .ref q), (3, .ref q_1), (4, .ref q_2), (5, .int (nI i))] 38 [] := by
    intro fuel
    induction fuel with
    | zero =>
      intros
      exact absurd (by assumption) (Nat.not_lt_zero _)
    | succ fuel ih_K_3 =>
      intro i hi hm_4
      refine x_iload C dX5_lay_38 5 rfl ?_
      refine x_aload_n C dX5_lay_40 rfl 2 rfl ?_
      refine x_alen C hK 8 0 rfl hI dX5_lay_41 ?_
      refine xn_icmp_ge C 82 (by omega) (by omega) dX5_lay_42 (by decide) (fun h_5 => ?_) (fun h_5 => ?_)
      ·
        have heq_i : n0 = i := by omega
        subst heq_i
        refine x_aload_n C dX5_lay_82 rfl 2 rfl ?_
        refine x_alen C hK 8 0 rfl hI dX5_lay_83 ?_
        refine x_iret C hK hlk hrt hQ hH0 hAA () ?_ [0, 1, 2, 3, 4, 5, 6, 7, 8] (by decide) rfl (by first | decide | omega) (by first | decide | omega) dX5_lay_84
        first | rfl | (exact ⟨rfl, rfl⟩) | trivial | assumption | omega
      ·
        have hgi := hg i (by omega)
        refine x_aload_n C dX5_lay_45 rfl 0 rfl ?_
        refine x_get C hK in_X5_lay_X5 0 rfl rfl 4 (by decide) (by decide +kernel) rfl rfl dX5_lay_46 ?_
        refine x_iload_n C dX5_lay_49 rfl 1 rfl ?_
        refine x_aald C hK (r := g0) 2 2 rfl hR rfl (by omega) (by omega) (by rfl) dX5_lay_50 ?_
        refine x_iload C dX5_lay_51 5 rfl ?_
        refine x_aload_n C dX5_lay_53 rfl 3 rfl ?_
        refine x_aload_n C dX5_lay_54 rfl 2 rfl ?_
        refine x_iload C dX5_lay_55 5 rfl ?_
        refine x_iald C hK 8 0 rfl hI (by omega) (by omega) dX5_lay_57 ?_
        refine x_topi (nI (gm i)) (by exact flG_at (by omega)) ?_
        refine x_iald C hK 9 0 rfl hI (by omega) (by omega) dX5_lay_58 ?_
        refine x_iast C hK 3 0 rfl hI (by omega) (by omega) [(yo, OB 5 [.int thr, .int ri, .ref yt, .ref ys, .ref yf, .ref yc, .int (nI co), .int (nI dn), .ref yd]), (ys, AI cI 2 (sz2 n0 np)), (yf, AR cA 2 (gr2 g0 g1)), (g0, AI cI 40 (upd (lyF bw gm i) i (bw (gm i)))), (g1, AI cI 40 bp), (yc, AR cA 2 (gr2 k0 k1)), (k0, AI cI 40 (lyF cw gm i)), (k1, AI cI 40 cp), (q, AI cI n0 (flG gm n0)), (q_1, AI cI 40 bw), (q_2, AI cI 40 cw)] rfl dX5_lay_59 ?_
        refine x_aload_n C dX5_lay_60 rfl 0 rfl ?_
        refine x_get C hK in_X5_lay_X5 0 rfl rfl 5 (by decide) (by decide +kernel) rfl rfl dX5_lay_61 ?_
        refine x_iload_n C dX5_lay_64 rfl 1 rfl ?_
        refine x_aald C hK (r := k0) 5 2 rfl hR rfl (by omega) (by omega) (by rfl) dX5_lay_65 ?_
        refine x_iload C dX5_lay_66 5 rfl ?_
        refine x_aload C dX5_lay_68 4 rfl ?_
        refine x_aload_n C dX5_lay_70 rfl 2 rfl ?_
        refine x_iload C dX5_lay_71 5 rfl ?_
        refine x_iald C hK 8 0 rfl hI (by omega) (by omega) dX5_lay_73 ?_
        refine x_topi (nI (gm i)) (by exact flG_at (by omega)) ?_
        refine x_iald C hK 10 0 rfl hI (by omega) (by omega) dX5_lay_74 ?_
        refine x_iast C hK 6 0 rfl hI (by omega) (by omega) [(yo, OB 5 [.int thr, .int ri, .ref yt, .ref ys, .ref yf, .ref yc, .int (nI co), .int (nI dn), .ref yd]), (ys, AI cI 2 (sz2 n0 np)), (yf, AR cA 2 (gr2 g0 g1)), (g0, AI cI 40 (upd (lyF bw gm i) i (bw (gm i)))), (g1, AI cI 40 bp), (yc, AR cA 2 (gr2 k0 k1)), (k0, AI cI 40 (upd (lyF cw gm i) i (cw (gm i)))), (k1, AI cI 40 cp), (q, AI cI n0 (flG gm n0)), (q_1, AI cI 40 bw), (q_2, AI cI 40 cw)] rfl dX5_lay_75 ?_
        refine xn_iinc C (i + 1) [(5, .int (nI (i + 1))), (0, .ref yo), (1, .int (nI 0)), (2, .ref q), (3, .ref q_1), (4, .ref q_2)] dX5_lay_76 5 rfl (by rw [show Int32.ofInt 1 = nI 1 from by decide +kernel]; exact nI_add _ _) (by decide) rfl ?_
        refine x_goto C 38 dX5_lay_79 (by decide) ?_
        refine x_lv [(0, .ref yo), (1, .int (nI 0)), (2, .ref q), (3, .ref q_1), (4, .ref q_2), (5, .int (nI (i + 1)))] [1, 2, 3, 4, 5, 0] rfl ?_
        refine x_ws [(yo, OB 5 [.int thr, .int ri, .ref yt, .ref ys, .ref yf, .ref yc, .int (nI co), .int (nI dn), .ref yd]), (ys, AI cI 2 (sz2 n0 np)), (yf, AR cA 2 (gr2 g0 g1)), (g0, AI cI 40 (lyF bw gm (i + 1))), (g1, AI cI 40 bp), (yc, AR cA 2 (gr2 k0 k1)), (k0, AI cI 40 (lyF cw gm (i + 1))), (k1, AI cI 40 cp), (q, AI cI n0 (flG gm n0)), (q_1, AI cI 40 bw), (q_2, AI cI 40 cw)] (by rw [lyF_s, lyF_s]; try rfl) ?_
        exact ih_K_3 (i + 1) (by first | assumption | omega) (by omega)
  refine x_lv [(0, .ref yo), (1, .int (nI 0)), (2, .ref q), (3, .ref q_1), (4, .ref q_2), (5, .int (nI 0))] [3, 4, 5, 2, 1, 0] rfl ?_
  refine x_ws [(yo, OB 5 [.int thr, .int ri, .ref yt, .ref ys, .ref yf, .ref yc, .int (nI co), .int (nI dn), .ref yd]), (ys, AI cI 2 (sz2 n0 np)), (yf, AR cA 2 (gr2 g0 g1)), (g0, AI cI 40 (lyF bw gm 0)), (g1, AI cI 40 bp), (yc, AR cA 2 (gr2 k0 k1)), (k0, AI cI 40 (lyF cw gm 0)), (k1, AI cI 40 cp), (q, AI cI n0 (flG gm n0)), (q_1, AI cI 40 bw), (q_2, AI cI 40 cw)] (by rw [lyF_0, lyF_0]; try rfl) ?_
  exact K_3 (n0 - 0 + 1) 0 (by first | assumption | omega) (Nat.lt_succ_self _)
abbrev rm_m_lay1 : Room := { frames := 1, cells := 2, slots := 80, locals := 14 }
set_option maxRecDepth 100000 in
set_option maxHeartbeats 4000000 in
theorem c_m_lay1 (l : Launch) (D : va_G) (tys : List (ClassId × FieldType)) (cI cJ cA : ClassId) (hI : tys[0]? = some (cI, .int)) (hJ : tys[1]? = some (cJ, .long)) (hR : tys[2]? = some (cA, .array .int)) (yo : Nat) (thr : Int32) (ri : Int32) (yt : Nat) (ys : Nat) (yf : Nat) (yc : Nat) (co : Nat) (dn : Nat) (yd : Nat) (nw : Nat) (np : Nat) (g0 : Nat) (g1 : Nat) (bw : Nat → Int32) (bp : Nat → Int32) (k0 : Nat) (k1 : Nat) (cw : Nat → Int32) (cp : Nat → Int32) (q : Nat) (n0 : Nat) (gm : Nat → Nat) (hn0 : n0 ≤ 40) (hg : ∀ k, k < n0 → gm k < 40) : MI l yX5_lay wsX5_lay rm_m_lay1 D tys [.ref yo, .int (nI 1), .ref q] [(yo, OB 5 [.int thr, .int ri, .ref yt, .ref ys, .ref yf, .ref yc, .int (nI co), .int (nI dn), .ref yd]), (ys, AI cI 2 (sz2 nw np)), (yf, AR cA 2 (gr2 g0 g1)), (g0, AI cI 40 bw), (g1, AI cI 40 bp), (yc, AR cA 2 (gr2 k0 k1)), (k0, AI cI 40 cw), (k1, AI cI 40 cp), (q, AI cI n0 (flG gm n0))] Unit (fun r (_ : Unit) => r = nI n0) (fun (_ : Unit) => [(yo, OB 5 [.int thr, .int ri, .ref yt, .ref ys, .ref yf, .ref yc, .int (nI co), .int (nI dn), .ref yd]), (ys, AI cI 2 (sz2 nw n0)), (yf, AR cA 2 (gr2 g0 g1)), (g0, AI cI 40 bw), (g1, AI cI 40 (lyF bp gm n0)), (yc, AR cA 2 (gr2 k0 k1)), (k0, AI cI 40 cw), (k1, AI cI 40 (lyF cp gm n0)), (q, AI cI n0 (flG gm n0))]) 2 80 := by
  intro sz
  refine x_met (cc := cX5_lay) (maxL := 6) (ret := (some .int)) (by decide +kernel) rfl (by show _ ≤ _; simp [lg_sl, Value.category]) [(0, .ref yo), (1, .int (nI 1)), (2, .ref q)] rfl ?_
  intro p e s m args below meth c Q A H0 C hK hNW hlk hrt hnm hQ hH0 hAA hA
  refine x_aload_n C dX5_lay_0 rfl 0 rfl ?_
  refine x_get C hK in_X5_lay_X5 0 rfl rfl 4 (by decide) (by decide +kernel) rfl rfl dX5_lay_1 ?_
  refine x_iload_n C dX5_lay_4 rfl 1 rfl ?_
  refine x_aald C hK (r := g1) 2 2 rfl hR rfl (by omega) (by omega) (by rfl) dX5_lay_5 ?_
  refine x_clone C hK hNW hA (by decide +kernel) (by decide +kernel) (by decide +kernel) (by decide +kernel) (by decide +kernel) 46 rfl 4 0 rfl hI (by decide) (by decide) (by first | decide | omega | exact (show _ ≤ 2 by omega)) (by first | decide | omega | exact (show _ ≤ 80 by omega)) dX5_lay_6 (fun q_1 => ?_)
  refine x_castI C hK (ix := 56) (by decide +kernel) 9 0 rfl hI dX5_lay_9 ?_
  refine x_astore_n C [(3, .ref q_1), (0, .ref yo), (1, .int (nI 1)), (2, .ref q)] dX5_lay_12 rfl (by decide) rfl ?_
  refine x_aload_n C dX5_lay_13 rfl 1 rfl ?_
  refine x_get C hK in_X5_lay_X5 0 rfl rfl 5 (by decide) (by decide +kernel) rfl rfl dX5_lay_14 ?_
  refine x_iload_n C dX5_lay_17 rfl 2 rfl ?_
  refine x_aald C hK (r := k1) 5 2 rfl hR rfl (by omega) (by omega) (by rfl) dX5_lay_18 ?_
  refine x_clone C hK hNW hA (by decide +kernel) (by decide +kernel) (by decide +kernel) (by decide +kernel) (by decide +kernel) 46 rfl 7 0 rfl hI (by decide) (by decide) (by first | decide | omega | exact (show _ ≤ 2 by omega)) (by first | decide | omega | exact (show _ ≤ 80 by omega)) dX5_lay_19 (fun q_2 => ?_)
  refine x_castI C hK (ix := 56) (by decide +kernel) 10 0 rfl hI dX5_lay_22 ?_
  refine x_astore C [(4, .ref q_2), (3, .ref q_1), (0, .ref yo), (1, .int (nI 1)), (2, .ref q)] dX5_lay_25 (by decide) rfl ?_
  refine x_aload_n C dX5_lay_27 rfl 2 rfl ?_
  refine x_get C hK in_X5_lay_X5 0 rfl rfl 3 (by decide) (by decide +kernel) rfl rfl dX5_lay_28 ?_
  refine x_iload_n C dX5_lay_31 rfl 3 rfl ?_
  refine x_aload_n C dX5_lay_32 rfl 4 rfl ?_
  refine x_alen C hK 8 0 rfl hI dX5_lay_33 ?_
  refine x_iast C hK 1 0 rfl hI (by omega) (by omega) [(yo, OB 5 [.int thr, .int ri, .ref yt, .ref ys, .ref yf, .ref yc, .int (nI co), .int (nI dn), .ref yd]), (ys, AI cI 2 (upd (sz2 nw np) 1 (nI n0))), (yf, AR cA 2 (gr2 g0 g1)), (g0, AI cI 40 bw), (g1, AI cI 40 bp), (yc, AR cA 2 (gr2 k0 k1)), (k0, AI cI 40 cw), (k1, AI cI 40 cp), (q, AI cI n0 (flG gm n0)), (q_1, AI cI 40 bp), (q_2, AI cI 40 cp)] rfl dX5_lay_34 ?_
  refine x_ws [(yo, OB 5 [.int thr, .int ri, .ref yt, .ref ys, .ref yf, .ref yc, .int (nI co), .int (nI dn), .ref yd]), (ys, AI cI 2 (sz2 nw n0)), (yf, AR cA 2 (gr2 g0 g1)), (g0, AI cI 40 bw), (g1, AI cI 40 bp), (yc, AR cA 2 (gr2 k0 k1)), (k0, AI cI 40 cw), (k1, AI cI 40 cp), (q, AI cI n0 (flG gm n0)), (q_1, AI cI 40 bp), (q_2, AI cI 40 cp)] (by rw [sz2_u1]) ?_
  refine x_iconst C (nI 0) dX5_lay_35 (by decide +kernel) ?_
  refine x_istore C [(5, .int (nI 0)), (4, .ref q_2), (3, .ref q_1), (0, .ref yo), (1, .int (nI 1)), (2, .ref q)] dX5_lay_36 (by decide) rfl ?_
  have K_3 : ∀ (fuel : Nat) (i : Nat), (i ≤ n0) → n0 - i < fuel → X_ p l e rm_m_lay1 s m args below meth c Q D A H0 6 2 80 [(yo, OB 5 [.int thr, .int ri, .ref yt, .ref ys, .ref yf, .ref yc, .int (nI co), .int (nI dn), .ref yd]), (ys, AI cI 2 (sz2 nw n0)), (yf, AR cA 2 (gr2 g0 g1)), (g0, AI cI 40 bw), (g1, AI cI 40 (lyF bp gm i)), (yc, AR cA 2 (gr2 k0 k1)), (k0, AI cI 40 cw), (k1, AI cI 40 (lyF cp gm i)), (q, AI cI n0 (flG gm n0)), (q_1, AI cI 40 bp), (q_2, AI cI 40 cp)] [(0, .ref yo), (1, .int (nI 1)), (2, .ref q), (3, .ref q_1), (4, .ref q_2), (5, .int (nI i))] 38 [] := by
    intro fuel
    induction fuel with
    | zero =>
      intros
      exact absurd (by assumption) (Nat.not_lt_zero _)
    | succ fuel ih_K_3 =>
      intro i hi hm_4
      refine x_iload C dX5_lay_38 5 rfl ?_
      refine x_aload_n C dX5_lay_40 rfl 2 rfl ?_
      refine x_alen C hK 8 0 rfl hI dX5_lay_41 ?_
      refine xn_icmp_ge C 82 (by omega) (by omega) dX5_lay_42 (by decide) (fun h_5 => ?_) (fun h_5 => ?_)
      ·
        have heq_i : n0 = i := by omega
        subst heq_i
        refine x_aload_n C dX5_lay_82 rfl 2 rfl ?_
        refine x_alen C hK 8 0 rfl hI dX5_lay_83 ?_
        refine x_iret C hK hlk hrt hQ hH0 hAA () ?_ [0, 1, 2, 3, 4, 5, 6, 7, 8] (by decide) rfl (by first | decide | omega) (by first | decide | omega) dX5_lay_84
        first | rfl | (exact ⟨rfl, rfl⟩) | trivial | assumption | omega
      ·
        have hgi := hg i (by omega)
        refine x_aload_n C dX5_lay_45 rfl 0 rfl ?_
        refine x_get C hK in_X5_lay_X5 0 rfl rfl 4 (by decide) (by decide +kernel) rfl rfl dX5_lay_46 ?_
        refine x_iload_n C dX5_lay_49 rfl 1 rfl ?_
        refine x_aald C hK (r := g1) 2 2 rfl hR rfl (by omega) (by omega) (by rfl) dX5_lay_50 ?_
        refine x_iload C dX5_lay_51 5 rfl ?_
        refine x_aload_n C dX5_lay_53 rfl 3 rfl ?_
        refine x_aload_n C dX5_lay_54 rfl 2 rfl ?_
        refine x_iload C dX5_lay_55 5 rfl ?_
        refine x_iald C hK 8 0 rfl hI (by omega) (by omega) dX5_lay_57 ?_
        refine x_topi (nI (gm i)) (by exact flG_at (by omega)) ?_
        refine x_iald C hK 9 0 rfl hI (by omega) (by omega) dX5_lay_58 ?_
        refine x_iast C hK 4 0 rfl hI (by omega) (by omega) [(yo, OB 5 [.int thr, .int ri, .ref yt, .ref ys, .ref yf, .ref yc, .int (nI co), .int (nI dn), .ref yd]), (ys, AI cI 2 (sz2 nw n0)), (yf, AR cA 2 (gr2 g0 g1)), (g0, AI cI 40 bw), (g1, AI cI 40 (upd (lyF bp gm i) i (bp (gm i)))), (yc, AR cA 2 (gr2 k0 k1)), (k0, AI cI 40 cw), (k1, AI cI 40 (lyF cp gm i)), (q, AI cI n0 (flG gm n0)), (q_1, AI cI 40 bp), (q_2, AI cI 40 cp)] rfl dX5_lay_59 ?_
        refine x_aload_n C dX5_lay_60 rfl 0 rfl ?_
        refine x_get C hK in_X5_lay_X5 0 rfl rfl 5 (by decide) (by decide +kernel) rfl rfl dX5_lay_61 ?_
        refine x_iload_n C dX5_lay_64 rfl 1 rfl ?_
        refine x_aald C hK (r := k1) 5 2 rfl hR rfl (by omega) (by omega) (by rfl) dX5_lay_65 ?_
        refine x_iload C dX5_lay_66 5 rfl ?_
        refine x_aload C dX5_lay_68 4 rfl ?_
        refine x_aload_n C dX5_lay_70 rfl 2 rfl ?_
        refine x_iload C dX5_lay_71 5 rfl ?_
        refine x_iald C hK 8 0 rfl hI (by omega) (by omega) dX5_lay_73 ?_
        refine x_topi (nI (gm i)) (by exact flG_at (by omega)) ?_
        refine x_iald C hK 10 0 rfl hI (by omega) (by omega) dX5_lay_74 ?_
        refine x_iast C hK 7 0 rfl hI (by omega) (by omega) [(yo, OB 5 [.int thr, .int ri, .ref yt, .ref ys, .ref yf, .ref yc, .int (nI co), .int (nI dn), .ref yd]), (ys, AI cI 2 (sz2 nw n0)), (yf, AR cA 2 (gr2 g0 g1)), (g0, AI cI 40 bw), (g1, AI cI 40 (upd (lyF bp gm i) i (bp (gm i)))), (yc, AR cA 2 (gr2 k0 k1)), (k0, AI cI 40 cw), (k1, AI cI 40 (upd (lyF cp gm i) i (cp (gm i)))), (q, AI cI n0 (flG gm n0)), (q_1, AI cI 40 bp), (q_2, AI cI 40 cp)] rfl dX5_lay_75 ?_
        refine xn_iinc C (i + 1) [(5, .int (nI (i + 1))), (0, .ref yo), (1, .int (nI 1)), (2, .ref q), (3, .ref q_1), (4, .ref q_2)] dX5_lay_76 5 rfl (by rw [show Int32.ofInt 1 = nI 1 from by decide +kernel]; exact nI_add _ _) (by decide) rfl ?_
        refine x_goto C 38 dX5_lay_79 (by decide) ?_
        refine x_lv [(0, .ref yo), (1, .int (nI 1)), (2, .ref q), (3, .ref q_1), (4, .ref q_2), (5, .int (nI (i + 1)))] [1, 2, 3, 4, 5, 0] rfl ?_
        refine x_ws [(yo, OB 5 [.int thr, .int ri, .ref yt, .ref ys, .ref yf, .ref yc, .int (nI co), .int (nI dn), .ref yd]), (ys, AI cI 2 (sz2 nw n0)), (yf, AR cA 2 (gr2 g0 g1)), (g0, AI cI 40 bw), (g1, AI cI 40 (lyF bp gm (i + 1))), (yc, AR cA 2 (gr2 k0 k1)), (k0, AI cI 40 cw), (k1, AI cI 40 (lyF cp gm (i + 1))), (q, AI cI n0 (flG gm n0)), (q_1, AI cI 40 bp), (q_2, AI cI 40 cp)] (by rw [lyF_s, lyF_s]; try rfl) ?_
        exact ih_K_3 (i + 1) (by first | assumption | omega) (by omega)
  refine x_lv [(0, .ref yo), (1, .int (nI 1)), (2, .ref q), (3, .ref q_1), (4, .ref q_2), (5, .int (nI 0))] [3, 4, 5, 2, 1, 0] rfl ?_
  refine x_ws [(yo, OB 5 [.int thr, .int ri, .ref yt, .ref ys, .ref yf, .ref yc, .int (nI co), .int (nI dn), .ref yd]), (ys, AI cI 2 (sz2 nw n0)), (yf, AR cA 2 (gr2 g0 g1)), (g0, AI cI 40 bw), (g1, AI cI 40 (lyF bp gm 0)), (yc, AR cA 2 (gr2 k0 k1)), (k0, AI cI 40 cw), (k1, AI cI 40 (lyF cp gm 0)), (q, AI cI n0 (flG gm n0)), (q_1, AI cI 40 bp), (q_2, AI cI 40 cp)] (by rw [lyF_0, lyF_0]; try rfl) ?_
  exact K_3 (n0 - 0 + 1) 0 (by first | assumption | omega) (Nat.lt_succ_self _)
abbrev rm_m_reverse1 : Room := { frames := 2, cells := 3, slots := 120, locals := 39 }
set_option maxRecDepth 100000 in
set_option maxHeartbeats 4000000 in
theorem c_m_reverse1 (l : Launch) (D : va_G) (tys : List (ClassId × FieldType)) (cI cJ cA : ClassId) (hI : tys[0]? = some (cI, .int)) (hJ : tys[1]? = some (cJ, .long)) (hR : tys[2]? = some (cA, .array .int)) (yo : Nat) (thr : Int32) (ri : Int32) (yt : Nat) (ys : Nat) (yf : Nat) (yc : Nat) (co : Nat) (dn : Nat) (yd : Nat) (nw : Nat) (np : Nat) (g0 : Nat) (g1 : Nat) (bw : Nat → Int32) (bp : Nat → Int32) (k0 : Nat) (k1 : Nat) (cw : Nat → Int32) (cp : Nat → Int32) (hnw : nw ≤ 40) : MI l yX5_reverse wsX5_reverse rm_m_reverse1 D tys [.ref yo, .int (nI 1)] [(yo, OB 5 [.int thr, .int ri, .ref yt, .ref ys, .ref yf, .ref yc, .int (nI co), .int (nI dn), .ref yd]), (ys, AI cI 2 (sz2 nw np)), (yf, AR cA 2 (gr2 g0 g1)), (g0, AI cI 40 bw), (g1, AI cI 40 bp), (yc, AR cA 2 (gr2 k0 k1)), (k0, AI cI 40 cw), (k1, AI cI 40 cp)] Unit (fun r (_ : Unit) => r = nI nw) (fun (_ : Unit) => [(yo, OB 5 [.int (nI 0), .int ri, .ref yt, .ref ys, .ref yf, .ref yc, .int (nI co), .int (nI dn), .ref yd]), (ys, AI cI 2 (sz2 nw np)), (yf, AR cA 2 (gr2 g0 g1)), (g0, AI cI 40 (rvF bw 0 nw)), (g1, AI cI 40 bp), (yc, AR cA 2 (gr2 k0 k1)), (k0, AI cI 40 (rvF cw 0 nw)), (k1, AI cI 40 cp)]) 3 120 := by
  intro sz
  refine x_met (cc := cX5_reverse) (maxL := 5) (ret := (some .int)) (by decide +kernel) rfl (by show _ ≤ _; simp [lg_sl, Value.category]) [(0, .ref yo), (1, .int (nI 1))] rfl ?_
  intro p e s m args below meth c Q A H0 C hK hNW hlk hrt hnm hQ hH0 hAA hA
  refine x_aload_n C dX5_reverse_0 rfl 0 rfl ?_
  refine x_iconst C (nI 0) dX5_reverse_1 (by decide +kernel) ?_
  refine x_put C hK in_X5_reverse_X5 tyX5 tyX5_ok nmX5 0 rfl rfl 0 (by decide) (by decide +kernel) rfl rfl (tyX5_ok 0 (by decide)) rfl rfl (Nat.le_of_ble_eq_true rfl) [(yo, OB 5 [.int (nI 0), .int ri, .ref yt, .ref ys, .ref yf, .ref yc, .int (nI co), .int (nI dn), .ref yd]), (ys, AI cI 2 (sz2 nw np)), (yf, AR cA 2 (gr2 g0 g1)), (g0, AI cI 40 bw), (g1, AI cI 40 bp), (yc, AR cA 2 (gr2 k0 k1)), (k0, AI cI 40 cw), (k1, AI cI 40 cp)] rfl dX5_reverse_2 ?_
  refine x_aload_n C dX5_reverse_5 rfl 0 rfl ?_
  refine x_get C hK in_X5_reverse_X5 0 rfl rfl 3 (by decide) (by decide +kernel) rfl rfl dX5_reverse_6 ?_
  refine x_iload_n C dX5_reverse_9 rfl 1 rfl ?_
  refine x_calli (x_runS C hK hNW (c_m_of1 l D tys cI cJ cA hI hJ hR  ) (va_cwS 1 C.2.2.2.2 gX5_reverse_X5_of rfl rfl rfl (by decide +kernel) ⟨by decide, by decide⟩) [] rfl (by decide) (st := [.ref ys]) rfl rfl (Nat.le_of_ble_eq_true rfl) dX5_reverse_10 ⟨by first | decide | omega | exact (show _ ≤ 3 by omega), by first | decide | omega | exact (show _ ≤ 120 by omega)⟩) hA [] rfl [0, 1, 2, 3, 4, 5, 6, 7] [(yo, OB 5 [.int (nI 0), .int ri, .ref yt, .ref ys, .ref yf, .ref yc, .int (nI co), .int (nI dn), .ref yd]), (ys, AI cI 2 (sz2 nw np)), (yf, AR cA 2 (gr2 g0 g1)), (g0, AI cI 40 bw), (g1, AI cI 40 bp), (yc, AR cA 2 (gr2 k0 k1)), (k0, AI cI 40 cw), (k1, AI cI 40 cp)] rfl (by decide) (by decide) [0, 1, 2, 3, 4, 5, 6, 7] (by decide) (wf := (fun (u : Unit) => [(yo, OB 5 [.int (nI 0), .int ri, .ref yt, .ref ys, .ref yf, .ref yc, .int (nI co), .int (nI dn), .ref yd]), (ys, AI cI 2 (sz2 nw np)), (yf, AR cA 2 (gr2 g0 g1)), (g0, AI cI 40 bw), (g1, AI cI 40 bp), (yc, AR cA 2 (gr2 k0 k1)), (k0, AI cI 40 cw), (k1, AI cI 40 cp)])) (fun _ => rfl) (fun r_1 u h_2 => ?_)
  subst h_2
  refine x_iald C hK 1 0 rfl hI (by omega) (by omega) dX5_reverse_13 ?_
  refine x_topi (nI nw) rfl ?_
  refine x_istore_n C [(2, .int (nI nw)), (0, .ref yo), (1, .int (nI 1))] dX5_reverse_14 rfl (by decide) rfl ?_
  refine x_iload_n C dX5_reverse_15 rfl 0 rfl ?_
  refine x_new_int C hK hA (by decide +kernel) 0 hI (by omega) (by first | decide | omega | exact (show _ ≤ 3 by omega)) (by first | decide | omega | exact (show _ ≤ 120 by omega)) dX5_reverse_16 (fun q_3 => ?_)
  refine x_widen 1 nw (by first | decide | omega) (by first | decide | omega) ?_
  refine x_astore_n C [(3, .ref q_3), (2, .int (nI nw)), (0, .ref yo), (1, .int (nI 1))] dX5_reverse_18 rfl (by decide) rfl ?_
  refine x_iconst C (nI 0) dX5_reverse_19 (by decide +kernel) ?_
  refine x_istore C [(4, .int (nI 0)), (3, .ref q_3), (2, .int (nI nw)), (0, .ref yo), (1, .int (nI 1))] dX5_reverse_20 (by decide) rfl ?_
  have K_4 : ∀ (fuel : Nat) (i : Nat), (i ≤ nw) → nw - i < fuel → X_ p l e rm_m_reverse1 s m args below meth c Q D A H0 5 1 nw [(yo, OB 5 [.int (nI 0), .int ri, .ref yt, .ref ys, .ref yf, .ref yc, .int (nI co), .int (nI dn), .ref yd]), (ys, AI cI 2 (sz2 nw np)), (yf, AR cA 2 (gr2 g0 g1)), (g0, AI cI 40 bw), (g1, AI cI 40 bp), (yc, AR cA 2 (gr2 k0 k1)), (k0, AI cI 40 cw), (k1, AI cI 40 cp), (q_3, AI cI nw (flG (rvG nw) i))] [(0, .ref yo), (1, .int (nI 1)), (2, .int (nI nw)), (3, .ref q_3), (4, .int (nI i))] 22 [] := by
    intro fuel
    induction fuel with
    | zero =>
      intros
      exact absurd (by assumption) (Nat.not_lt_zero _)
    | succ fuel ih_K_4 =>
      intro i hi hm_5
      refine x_iload C dX5_reverse_22 4 rfl ?_
      refine x_iload_n C dX5_reverse_24 rfl 2 rfl ?_
      refine xn_icmp_ge C 44 (by omega) (by omega) dX5_reverse_25 (by decide) (fun h_6 => ?_) (fun h_6 => ?_)
      ·
        have heq_i : nw = i := by omega
        subst heq_i
        refine x_aload_n C dX5_reverse_44 rfl 0 rfl ?_
        refine x_iload_n C dX5_reverse_45 rfl 1 rfl ?_
        refine x_calli (x_runS C hK hNW (c_m_of1 l D tys cI cJ cA hI hJ hR  ) (va_cwS 1 C.2.2.2.2 gX5_reverse_X5_of rfl rfl rfl (by decide +kernel) ⟨by decide, by decide⟩) [] rfl (by decide) (st := [.ref yo]) rfl rfl (Nat.le_of_ble_eq_true rfl) dX5_reverse_46 ⟨by first | decide | omega | exact (show _ ≤ 3 by omega), by first | decide | omega | exact (show _ ≤ 120 by omega)⟩) hA [] rfl [0, 1, 2, 3, 4, 5, 6, 7, 8] [(yo, OB 5 [.int (nI 0), .int ri, .ref yt, .ref ys, .ref yf, .ref yc, .int (nI co), .int (nI dn), .ref yd]), (ys, AI cI 2 (sz2 nw np)), (yf, AR cA 2 (gr2 g0 g1)), (g0, AI cI 40 bw), (g1, AI cI 40 bp), (yc, AR cA 2 (gr2 k0 k1)), (k0, AI cI 40 cw), (k1, AI cI 40 cp), (q_3, AI cI nw (flG (rvG nw) nw))] rfl (by decide) (by decide) [0, 1, 2, 3, 4, 5, 6, 7, 8] (by decide) (wf := (fun (u : Unit) => [(yo, OB 5 [.int (nI 0), .int ri, .ref yt, .ref ys, .ref yf, .ref yc, .int (nI co), .int (nI dn), .ref yd]), (ys, AI cI 2 (sz2 nw np)), (yf, AR cA 2 (gr2 g0 g1)), (g0, AI cI 40 bw), (g1, AI cI 40 bp), (yc, AR cA 2 (gr2 k0 k1)), (k0, AI cI 40 cw), (k1, AI cI 40 cp), (q_3, AI cI nw (flG (rvG nw) nw))])) (fun _ => rfl) (fun r_7 u h_8 => ?_)
        refine x_widen 1 (nw + 0) (by first | decide | omega) (by first | decide | omega) ?_
        subst h_8
        refine x_aload_n C dX5_reverse_49 rfl 3 rfl ?_
        refine x_calli (x_runV C hK hNW (c_m_lay0 l D tys cI cJ cA hI hJ hR yo (nI 0) ri yt ys yf yc co dn yd nw np g0 g1 bw bp k0 k1 cw cp q_3 nw (rvG nw) (by first | omega | assumption) (by intro k hk; unfold rvG; omega)) (cwV 2 C.2.2.2.2 gX5_reverse_X5_lay rfl rfl rfl (by decide +kernel) ⟨by decide, by decide⟩) [0, 1, 2, 3, 4, 5, 6, 7, 8] rfl (by decide) 0 5 rfl rfl rfl (st := []) rfl rfl (Nat.le_of_ble_eq_true rfl) dX5_reverse_50 ⟨by first | decide | omega | exact (show _ ≤ 3 by omega), by first | decide | omega | exact (show _ ≤ 120 by omega)⟩) hA [0, 1, 2, 3, 4, 5, 6, 7, 8] rfl [] [] rfl (by decide) (by decide) [0, 1, 2, 3, 4, 5, 6, 7, 8] (by decide) (wf := (fun (u : Unit) => [(yo, OB 5 [.int (nI 0), .int ri, .ref yt, .ref ys, .ref yf, .ref yc, .int (nI co), .int (nI dn), .ref yd]), (ys, AI cI 2 (sz2 nw np)), (yf, AR cA 2 (gr2 g0 g1)), (g0, AI cI 40 (lyF bw (rvG nw) nw)), (g1, AI cI 40 bp), (yc, AR cA 2 (gr2 k0 k1)), (k0, AI cI 40 (lyF cw (rvG nw) nw)), (k1, AI cI 40 cp), (q_3, AI cI nw (flG (rvG nw) nw))])) (fun _ => rfl) (fun r_9 u h_10 => ?_)
        refine x_widen 3 ((nw + 0) + 80) (by first | decide | omega) (by first | decide | omega) ?_
        subst h_10
        refine x_ws [(yo, OB 5 [.int (nI 0), .int ri, .ref yt, .ref ys, .ref yf, .ref yc, .int (nI co), .int (nI dn), .ref yd]), (ys, AI cI 2 (sz2 nw np)), (yf, AR cA 2 (gr2 g0 g1)), (g0, AI cI 40 (rvF bw 0 nw)), (g1, AI cI 40 bp), (yc, AR cA 2 (gr2 k0 k1)), (k0, AI cI 40 (rvF cw 0 nw)), (k1, AI cI 40 cp), (q_3, AI cI nw (flG (rvG nw) nw))] (by rw [lyF_rv, lyF_rv]) ?_
        refine x_iret C hK hlk hrt hQ hH0 hAA () ?_ [0, 1, 2, 3, 4, 5, 6, 7] (by decide) rfl (by first | decide | omega) (by first | decide | omega) dX5_reverse_53
        first | rfl | (exact ⟨rfl, rfl⟩) | trivial | assumption | omega
      ·
        refine x_aload_n C dX5_reverse_28 rfl 3 rfl ?_
        refine x_iload C dX5_reverse_29 4 rfl ?_
        refine x_iload_n C dX5_reverse_31 rfl 2 rfl ?_
        refine x_iconst C (nI 1) dX5_reverse_32 (by decide +kernel) ?_
        refine xn_isub C (by omega) dX5_reverse_33 ?_
        refine x_iload C dX5_reverse_34 4 rfl ?_
        refine xn_isub C (by omega) dX5_reverse_36 ?_
        refine x_iast C hK 8 0 rfl hI (by omega) (by omega) [(yo, OB 5 [.int (nI 0), .int ri, .ref yt, .ref ys, .ref yf, .ref yc, .int (nI co), .int (nI dn), .ref yd]), (ys, AI cI 2 (sz2 nw np)), (yf, AR cA 2 (gr2 g0 g1)), (g0, AI cI 40 bw), (g1, AI cI 40 bp), (yc, AR cA 2 (gr2 k0 k1)), (k0, AI cI 40 cw), (k1, AI cI 40 cp), (q_3, AI cI nw (upd (flG (rvG nw) i) i (nI ((nw - 1) - i))))] rfl dX5_reverse_37 ?_
        refine xn_iinc C (i + 1) [(4, .int (nI (i + 1))), (0, .ref yo), (1, .int (nI 1)), (2, .int (nI nw)), (3, .ref q_3)] dX5_reverse_38 4 rfl (by rw [show Int32.ofInt 1 = nI 1 from by decide +kernel]; exact nI_add _ _) (by decide) rfl ?_
        refine x_goto C 22 dX5_reverse_41 (by decide) ?_
        refine x_lv [(0, .ref yo), (1, .int (nI 1)), (2, .int (nI nw)), (3, .ref q_3), (4, .int (nI (i + 1)))] [1, 2, 3, 4, 0] rfl ?_
        refine x_ws [(yo, OB 5 [.int (nI 0), .int ri, .ref yt, .ref ys, .ref yf, .ref yc, .int (nI co), .int (nI dn), .ref yd]), (ys, AI cI 2 (sz2 nw np)), (yf, AR cA 2 (gr2 g0 g1)), (g0, AI cI 40 bw), (g1, AI cI 40 bp), (yc, AR cA 2 (gr2 k0 k1)), (k0, AI cI 40 cw), (k1, AI cI 40 cp), (q_3, AI cI nw (flG (rvG nw) (i + 1)))] (by rw [← flG_s]; try rfl) ?_
        exact ih_K_4 (i + 1) (by first | assumption | omega) (by omega)
  refine x_lv [(0, .ref yo), (1, .int (nI 1)), (2, .int (nI nw)), (3, .ref q_3), (4, .int (nI 0))] [3, 4, 2, 1, 0] rfl ?_
  refine x_ws [(yo, OB 5 [.int (nI 0), .int ri, .ref yt, .ref ys, .ref yf, .ref yc, .int (nI co), .int (nI dn), .ref yd]), (ys, AI cI 2 (sz2 nw np)), (yf, AR cA 2 (gr2 g0 g1)), (g0, AI cI 40 bw), (g1, AI cI 40 bp), (yc, AR cA 2 (gr2 k0 k1)), (k0, AI cI 40 cw), (k1, AI cI 40 cp), (q_3, AI cI nw (flG (rvG nw) 0))] (by rw [flG_0]; try rfl) ?_
  exact K_4 (nw - 0 + 1) 0 (by first | assumption | omega) (Nat.lt_succ_self _)
abbrev rm_m_reverseZ1 : Room := { frames := 2, cells := 3, slots := 120, locals := 39 }
set_option maxRecDepth 100000 in
set_option maxHeartbeats 4000000 in
theorem c_m_reverseZ1 (l : Launch) (D : va_G) (tys : List (ClassId × FieldType)) (cI cJ cA : ClassId) (hI : tys[0]? = some (cI, .int)) (hJ : tys[1]? = some (cJ, .long)) (hR : tys[2]? = some (cA, .array .int)) (yo : Nat) (thr : Int32) (ri : Int32) (yt : Nat) (ys : Nat) (yf : Nat) (yc : Nat) (co : Nat) (dn : Nat) (yd : Nat) (np : Nat) (g0 : Nat) (g1 : Nat) (bw : Nat → Int32) (bp : Nat → Int32) (k0 : Nat) (k1 : Nat) (cw : Nat → Int32) (cp : Nat → Int32)  : MI l yX5_reverse wsX5_reverse rm_m_reverseZ1 D tys [.ref yo, .int (nI 1)] [(yo, OB 5 [.int thr, .int ri, .ref yt, .ref ys, .ref yf, .ref yc, .int (nI co), .int (nI dn), .ref yd]), (ys, AI cI 2 (sz2 0 np)), (yf, AR cA 2 (gr2 g0 g1)), (g0, AI cI 40 bw), (g1, AI cI 40 bp), (yc, AR cA 2 (gr2 k0 k1)), (k0, AI cI 40 cw), (k1, AI cI 40 cp)] Unit (fun r (_ : Unit) => r = nI 0) (fun (_ : Unit) => [(yo, OB 5 [.int (nI 0), .int ri, .ref yt, .ref ys, .ref yf, .ref yc, .int (nI co), .int (nI dn), .ref yd]), (ys, AI cI 2 (sz2 0 np)), (yf, AR cA 2 (gr2 g0 g1)), (g0, AI cI 40 bw), (g1, AI cI 40 bp), (yc, AR cA 2 (gr2 k0 k1)), (k0, AI cI 40 cw), (k1, AI cI 40 cp)]) 3 120 := by
  intro sz
  refine x_met (cc := cX5_reverse) (maxL := 5) (ret := (some .int)) (by decide +kernel) rfl (by show _ ≤ _; simp [lg_sl, Value.category]) [(0, .ref yo), (1, .int (nI 1))] rfl ?_
  intro p e s m args below meth c Q A H0 C hK hNW hlk hrt hnm hQ hH0 hAA hA
  refine x_aload_n C dX5_reverse_0 rfl 0 rfl ?_
  refine x_iconst C (nI 0) dX5_reverse_1 (by decide +kernel) ?_
  refine x_put C hK in_X5_reverse_X5 tyX5 tyX5_ok nmX5 0 rfl rfl 0 (by decide) (by decide +kernel) rfl rfl (tyX5_ok 0 (by decide)) rfl rfl (Nat.le_of_ble_eq_true rfl) [(yo, OB 5 [.int (nI 0), .int ri, .ref yt, .ref ys, .ref yf, .ref yc, .int (nI co), .int (nI dn), .ref yd]), (ys, AI cI 2 (sz2 0 np)), (yf, AR cA 2 (gr2 g0 g1)), (g0, AI cI 40 bw), (g1, AI cI 40 bp), (yc, AR cA 2 (gr2 k0 k1)), (k0, AI cI 40 cw), (k1, AI cI 40 cp)] rfl dX5_reverse_2 ?_
  refine x_aload_n C dX5_reverse_5 rfl 0 rfl ?_
  refine x_get C hK in_X5_reverse_X5 0 rfl rfl 3 (by decide) (by decide +kernel) rfl rfl dX5_reverse_6 ?_
  refine x_iload_n C dX5_reverse_9 rfl 1 rfl ?_
  refine x_calli (x_runS C hK hNW (c_m_of1 l D tys cI cJ cA hI hJ hR  ) (va_cwS 1 C.2.2.2.2 gX5_reverse_X5_of rfl rfl rfl (by decide +kernel) ⟨by decide, by decide⟩) [] rfl (by decide) (st := [.ref ys]) rfl rfl (Nat.le_of_ble_eq_true rfl) dX5_reverse_10 ⟨by first | decide | omega | exact (show _ ≤ 3 by omega), by first | decide | omega | exact (show _ ≤ 120 by omega)⟩) hA [] rfl [0, 1, 2, 3, 4, 5, 6, 7] [(yo, OB 5 [.int (nI 0), .int ri, .ref yt, .ref ys, .ref yf, .ref yc, .int (nI co), .int (nI dn), .ref yd]), (ys, AI cI 2 (sz2 0 np)), (yf, AR cA 2 (gr2 g0 g1)), (g0, AI cI 40 bw), (g1, AI cI 40 bp), (yc, AR cA 2 (gr2 k0 k1)), (k0, AI cI 40 cw), (k1, AI cI 40 cp)] rfl (by decide) (by decide) [0, 1, 2, 3, 4, 5, 6, 7] (by decide) (wf := (fun (u : Unit) => [(yo, OB 5 [.int (nI 0), .int ri, .ref yt, .ref ys, .ref yf, .ref yc, .int (nI co), .int (nI dn), .ref yd]), (ys, AI cI 2 (sz2 0 np)), (yf, AR cA 2 (gr2 g0 g1)), (g0, AI cI 40 bw), (g1, AI cI 40 bp), (yc, AR cA 2 (gr2 k0 k1)), (k0, AI cI 40 cw), (k1, AI cI 40 cp)])) (fun _ => rfl) (fun r_1 u h_2 => ?_)
  subst h_2
  refine x_iald C hK 1 0 rfl hI (by omega) (by omega) dX5_reverse_13 ?_
  refine x_topi (nI 0) rfl ?_
  refine x_istore_n C [(2, .int (nI 0)), (0, .ref yo), (1, .int (nI 1))] dX5_reverse_14 rfl (by decide) rfl ?_
  refine x_iload_n C dX5_reverse_15 rfl 0 rfl ?_
  refine x_new_int C hK hA (by decide +kernel) 0 hI (by omega) (by first | decide | omega | exact (show _ ≤ 3 by omega)) (by first | decide | omega | exact (show _ ≤ 120 by omega)) dX5_reverse_16 (fun q_3 => ?_)
  refine x_astore_n C [(3, .ref q_3), (2, .int (nI 0)), (0, .ref yo), (1, .int (nI 1))] dX5_reverse_18 rfl (by decide) rfl ?_
  refine x_iconst C (nI 0) dX5_reverse_19 (by decide +kernel) ?_
  refine x_istore C [(4, .int (nI 0)), (3, .ref q_3), (2, .int (nI 0)), (0, .ref yo), (1, .int (nI 1))] dX5_reverse_20 (by decide) rfl ?_
  have K_4 : ∀ (fuel : Nat) (i : Nat), (i ≤ 0) → 0 - i < fuel → X_ p l e rm_m_reverseZ1 s m args below meth c Q D A H0 5 1 0 [(yo, OB 5 [.int (nI 0), .int ri, .ref yt, .ref ys, .ref yf, .ref yc, .int (nI co), .int (nI dn), .ref yd]), (ys, AI cI 2 (sz2 0 np)), (yf, AR cA 2 (gr2 g0 g1)), (g0, AI cI 40 bw), (g1, AI cI 40 bp), (yc, AR cA 2 (gr2 k0 k1)), (k0, AI cI 40 cw), (k1, AI cI 40 cp), (q_3, AI cI 0 (flG (rvG 0) i))] [(0, .ref yo), (1, .int (nI 1)), (2, .int (nI 0)), (3, .ref q_3), (4, .int (nI i))] 22 [] := by
    intro fuel
    induction fuel with
    | zero =>
      intros
      exact absurd (by assumption) (Nat.not_lt_zero _)
    | succ fuel ih_K_4 =>
      intro i hi hm_5
      refine x_iload C dX5_reverse_22 4 rfl ?_
      refine x_iload_n C dX5_reverse_24 rfl 2 rfl ?_
      refine xn_icmp_ge C 44 (by omega) (by omega) dX5_reverse_25 (by decide) (fun h_6 => ?_) (fun h_6 => ?_)
      ·
        have heq_i : i = 0 := by omega
        subst heq_i
        refine x_aload_n C dX5_reverse_44 rfl 0 rfl ?_
        refine x_iload_n C dX5_reverse_45 rfl 1 rfl ?_
        refine x_calli (x_runS C hK hNW (c_m_of1 l D tys cI cJ cA hI hJ hR  ) (va_cwS 1 C.2.2.2.2 gX5_reverse_X5_of rfl rfl rfl (by decide +kernel) ⟨by decide, by decide⟩) [] rfl (by decide) (st := [.ref yo]) rfl rfl (Nat.le_of_ble_eq_true rfl) dX5_reverse_46 ⟨by first | decide | omega | exact (show _ ≤ 3 by omega), by first | decide | omega | exact (show _ ≤ 120 by omega)⟩) hA [] rfl [0, 1, 2, 3, 4, 5, 6, 7, 8] [(yo, OB 5 [.int (nI 0), .int ri, .ref yt, .ref ys, .ref yf, .ref yc, .int (nI co), .int (nI dn), .ref yd]), (ys, AI cI 2 (sz2 0 np)), (yf, AR cA 2 (gr2 g0 g1)), (g0, AI cI 40 bw), (g1, AI cI 40 bp), (yc, AR cA 2 (gr2 k0 k1)), (k0, AI cI 40 cw), (k1, AI cI 40 cp), (q_3, AI cI 0 (flG (rvG 0) 0))] rfl (by decide) (by decide) [0, 1, 2, 3, 4, 5, 6, 7, 8] (by decide) (wf := (fun (u : Unit) => [(yo, OB 5 [.int (nI 0), .int ri, .ref yt, .ref ys, .ref yf, .ref yc, .int (nI co), .int (nI dn), .ref yd]), (ys, AI cI 2 (sz2 0 np)), (yf, AR cA 2 (gr2 g0 g1)), (g0, AI cI 40 bw), (g1, AI cI 40 bp), (yc, AR cA 2 (gr2 k0 k1)), (k0, AI cI 40 cw), (k1, AI cI 40 cp), (q_3, AI cI 0 (flG (rvG 0) 0))])) (fun _ => rfl) (fun r_7 u h_8 => ?_)
        subst h_8
        refine x_aload_n C dX5_reverse_49 rfl 3 rfl ?_
        refine x_calli (x_runV C hK hNW (c_m_lay0 l D tys cI cJ cA hI hJ hR yo (nI 0) ri yt ys yf yc co dn yd 0 np g0 g1 bw bp k0 k1 cw cp q_3 0 (rvG 0) (by first | omega | assumption) (by intro k hk; unfold rvG; omega)) (cwV 2 C.2.2.2.2 gX5_reverse_X5_lay rfl rfl rfl (by decide +kernel) ⟨by decide, by decide⟩) [0, 1, 2, 3, 4, 5, 6, 7, 8] rfl (by decide) 0 5 rfl rfl rfl (st := []) rfl rfl (Nat.le_of_ble_eq_true rfl) dX5_reverse_50 ⟨by first | decide | omega | exact (show _ ≤ 3 by omega), by first | decide | omega | exact (show _ ≤ 120 by omega)⟩) hA [0, 1, 2, 3, 4, 5, 6, 7, 8] rfl [] [] rfl (by decide) (by decide) [0, 1, 2, 3, 4, 5, 6, 7, 8] (by decide) (wf := (fun (u : Unit) => [(yo, OB 5 [.int (nI 0), .int ri, .ref yt, .ref ys, .ref yf, .ref yc, .int (nI co), .int (nI dn), .ref yd]), (ys, AI cI 2 (sz2 0 np)), (yf, AR cA 2 (gr2 g0 g1)), (g0, AI cI 40 (lyF bw (rvG 0) 0)), (g1, AI cI 40 bp), (yc, AR cA 2 (gr2 k0 k1)), (k0, AI cI 40 (lyF cw (rvG 0) 0)), (k1, AI cI 40 cp), (q_3, AI cI 0 (flG (rvG 0) 0))])) (fun _ => rfl) (fun r_9 u h_10 => ?_)
        subst h_10
        refine x_ws [(yo, OB 5 [.int (nI 0), .int ri, .ref yt, .ref ys, .ref yf, .ref yc, .int (nI co), .int (nI dn), .ref yd]), (ys, AI cI 2 (sz2 0 np)), (yf, AR cA 2 (gr2 g0 g1)), (g0, AI cI 40 bw), (g1, AI cI 40 bp), (yc, AR cA 2 (gr2 k0 k1)), (k0, AI cI 40 cw), (k1, AI cI 40 cp), (q_3, AI cI 0 (flG (rvG 0) 0))] (by rw [lyF_0, lyF_0]) ?_
        refine x_iret C hK hlk hrt hQ hH0 hAA () ?_ [0, 1, 2, 3, 4, 5, 6, 7] (by decide) rfl (by first | decide | omega) (by first | decide | omega) dX5_reverse_53
        first | rfl | (exact ⟨rfl, rfl⟩) | trivial | assumption | omega
      ·
        exact False.elim (by omega)
  refine x_lv [(0, .ref yo), (1, .int (nI 1)), (2, .int (nI 0)), (3, .ref q_3), (4, .int (nI 0))] [3, 4, 2, 1, 0] rfl ?_
  refine x_ws [(yo, OB 5 [.int (nI 0), .int ri, .ref yt, .ref ys, .ref yf, .ref yc, .int (nI co), .int (nI dn), .ref yd]), (ys, AI cI 2 (sz2 0 np)), (yf, AR cA 2 (gr2 g0 g1)), (g0, AI cI 40 bw), (g1, AI cI 40 bp), (yc, AR cA 2 (gr2 k0 k1)), (k0, AI cI 40 cw), (k1, AI cI 40 cp), (q_3, AI cI 0 (flG (rvG 0) 0))] (by rw [flG_0]; try rfl) ?_
  exact K_4 (0 - 0 + 1) 0 (by first | assumption | omega) (Nat.lt_succ_self _)
abbrev rm_m_reverse0 : Room := { frames := 2, cells := 3, slots := 120, locals := 39 }
set_option maxRecDepth 100000 in
set_option maxHeartbeats 4000000 in
theorem c_m_reverse0 (l : Launch) (D : va_G) (tys : List (ClassId × FieldType)) (cI cJ cA : ClassId) (hI : tys[0]? = some (cI, .int)) (hJ : tys[1]? = some (cJ, .long)) (hR : tys[2]? = some (cA, .array .int)) (yo : Nat) (thr : Int32) (ri : Int32) (yt : Nat) (ys : Nat) (yf : Nat) (yc : Nat) (co : Nat) (dn : Nat) (yd : Nat) (nw : Nat) (np : Nat) (g0 : Nat) (g1 : Nat) (bw : Nat → Int32) (bp : Nat → Int32) (k0 : Nat) (k1 : Nat) (cw : Nat → Int32) (cp : Nat → Int32) (hnp : np ≤ 40) : MI l yX5_reverse wsX5_reverse rm_m_reverse0 D tys [.ref yo, .int (nI 0)] [(yo, OB 5 [.int thr, .int ri, .ref yt, .ref ys, .ref yf, .ref yc, .int (nI co), .int (nI dn), .ref yd]), (ys, AI cI 2 (sz2 nw np)), (yf, AR cA 2 (gr2 g0 g1)), (g0, AI cI 40 bw), (g1, AI cI 40 bp), (yc, AR cA 2 (gr2 k0 k1)), (k0, AI cI 40 cw), (k1, AI cI 40 cp)] Unit (fun r (_ : Unit) => r = nI np) (fun (_ : Unit) => [(yo, OB 5 [.int (nI 0), .int ri, .ref yt, .ref ys, .ref yf, .ref yc, .int (nI co), .int (nI dn), .ref yd]), (ys, AI cI 2 (sz2 nw np)), (yf, AR cA 2 (gr2 g0 g1)), (g0, AI cI 40 bw), (g1, AI cI 40 (rvF bp 0 np)), (yc, AR cA 2 (gr2 k0 k1)), (k0, AI cI 40 cw), (k1, AI cI 40 (rvF cp 0 np))]) 3 120 := by
  intro sz
  refine x_met (cc := cX5_reverse) (maxL := 5) (ret := (some .int)) (by decide +kernel) rfl (by show _ ≤ _; simp [lg_sl, Value.category]) [(0, .ref yo), (1, .int (nI 0))] rfl ?_
  intro p e s m args below meth c Q A H0 C hK hNW hlk hrt hnm hQ hH0 hAA hA
  refine x_aload_n C dX5_reverse_0 rfl 0 rfl ?_
  refine x_iconst C (nI 0) dX5_reverse_1 (by decide +kernel) ?_
  refine x_put C hK in_X5_reverse_X5 tyX5 tyX5_ok nmX5 0 rfl rfl 0 (by decide) (by decide +kernel) rfl rfl (tyX5_ok 0 (by decide)) rfl rfl (Nat.le_of_ble_eq_true rfl) [(yo, OB 5 [.int (nI 0), .int ri, .ref yt, .ref ys, .ref yf, .ref yc, .int (nI co), .int (nI dn), .ref yd]), (ys, AI cI 2 (sz2 nw np)), (yf, AR cA 2 (gr2 g0 g1)), (g0, AI cI 40 bw), (g1, AI cI 40 bp), (yc, AR cA 2 (gr2 k0 k1)), (k0, AI cI 40 cw), (k1, AI cI 40 cp)] rfl dX5_reverse_2 ?_
  refine x_aload_n C dX5_reverse_5 rfl 0 rfl ?_
  refine x_get C hK in_X5_reverse_X5 0 rfl rfl 3 (by decide) (by decide +kernel) rfl rfl dX5_reverse_6 ?_
  refine x_iload_n C dX5_reverse_9 rfl 1 rfl ?_
  refine x_calli (x_runS C hK hNW (c_m_of0 l D tys cI cJ cA hI hJ hR  ) (va_cwS 1 C.2.2.2.2 gX5_reverse_X5_of rfl rfl rfl (by decide +kernel) ⟨by decide, by decide⟩) [] rfl (by decide) (st := [.ref ys]) rfl rfl (Nat.le_of_ble_eq_true rfl) dX5_reverse_10 ⟨by first | decide | omega | exact (show _ ≤ 3 by omega), by first | decide | omega | exact (show _ ≤ 120 by omega)⟩) hA [] rfl [0, 1, 2, 3, 4, 5, 6, 7] [(yo, OB 5 [.int (nI 0), .int ri, .ref yt, .ref ys, .ref yf, .ref yc, .int (nI co), .int (nI dn), .ref yd]), (ys, AI cI 2 (sz2 nw np)), (yf, AR cA 2 (gr2 g0 g1)), (g0, AI cI 40 bw), (g1, AI cI 40 bp), (yc, AR cA 2 (gr2 k0 k1)), (k0, AI cI 40 cw), (k1, AI cI 40 cp)] rfl (by decide) (by decide) [0, 1, 2, 3, 4, 5, 6, 7] (by decide) (wf := (fun (u : Unit) => [(yo, OB 5 [.int (nI 0), .int ri, .ref yt, .ref ys, .ref yf, .ref yc, .int (nI co), .int (nI dn), .ref yd]), (ys, AI cI 2 (sz2 nw np)), (yf, AR cA 2 (gr2 g0 g1)), (g0, AI cI 40 bw), (g1, AI cI 40 bp), (yc, AR cA 2 (gr2 k0 k1)), (k0, AI cI 40 cw), (k1, AI cI 40 cp)])) (fun _ => rfl) (fun r_1 u h_2 => ?_)
  subst h_2
  refine x_iald C hK 1 0 rfl hI (by omega) (by omega) dX5_reverse_13 ?_
  refine x_topi (nI np) rfl ?_
  refine x_istore_n C [(2, .int (nI np)), (0, .ref yo), (1, .int (nI 0))] dX5_reverse_14 rfl (by decide) rfl ?_
  refine x_iload_n C dX5_reverse_15 rfl 0 rfl ?_
  refine x_new_int C hK hA (by decide +kernel) 0 hI (by omega) (by first | decide | omega | exact (show _ ≤ 3 by omega)) (by first | decide | omega | exact (show _ ≤ 120 by omega)) dX5_reverse_16 (fun q_3 => ?_)
  refine x_widen 1 np (by first | decide | omega) (by first | decide | omega) ?_
  refine x_astore_n C [(3, .ref q_3), (2, .int (nI np)), (0, .ref yo), (1, .int (nI 0))] dX5_reverse_18 rfl (by decide) rfl ?_
  refine x_iconst C (nI 0) dX5_reverse_19 (by decide +kernel) ?_
  refine x_istore C [(4, .int (nI 0)), (3, .ref q_3), (2, .int (nI np)), (0, .ref yo), (1, .int (nI 0))] dX5_reverse_20 (by decide) rfl ?_
  have K_4 : ∀ (fuel : Nat) (i : Nat), (i ≤ np) → np - i < fuel → X_ p l e rm_m_reverse0 s m args below meth c Q D A H0 5 1 np [(yo, OB 5 [.int (nI 0), .int ri, .ref yt, .ref ys, .ref yf, .ref yc, .int (nI co), .int (nI dn), .ref yd]), (ys, AI cI 2 (sz2 nw np)), (yf, AR cA 2 (gr2 g0 g1)), (g0, AI cI 40 bw), (g1, AI cI 40 bp), (yc, AR cA 2 (gr2 k0 k1)), (k0, AI cI 40 cw), (k1, AI cI 40 cp), (q_3, AI cI np (flG (rvG np) i))] [(0, .ref yo), (1, .int (nI 0)), (2, .int (nI np)), (3, .ref q_3), (4, .int (nI i))] 22 [] := by
    intro fuel
    induction fuel with
    | zero =>
      intros
      exact absurd (by assumption) (Nat.not_lt_zero _)
    | succ fuel ih_K_4 =>
      intro i hi hm_5
      refine x_iload C dX5_reverse_22 4 rfl ?_
      refine x_iload_n C dX5_reverse_24 rfl 2 rfl ?_
      refine xn_icmp_ge C 44 (by omega) (by omega) dX5_reverse_25 (by decide) (fun h_6 => ?_) (fun h_6 => ?_)
      ·
        have heq_i : np = i := by omega
        subst heq_i
        refine x_aload_n C dX5_reverse_44 rfl 0 rfl ?_
        refine x_iload_n C dX5_reverse_45 rfl 1 rfl ?_
        refine x_calli (x_runS C hK hNW (c_m_of0 l D tys cI cJ cA hI hJ hR  ) (va_cwS 1 C.2.2.2.2 gX5_reverse_X5_of rfl rfl rfl (by decide +kernel) ⟨by decide, by decide⟩) [] rfl (by decide) (st := [.ref yo]) rfl rfl (Nat.le_of_ble_eq_true rfl) dX5_reverse_46 ⟨by first | decide | omega | exact (show _ ≤ 3 by omega), by first | decide | omega | exact (show _ ≤ 120 by omega)⟩) hA [] rfl [0, 1, 2, 3, 4, 5, 6, 7, 8] [(yo, OB 5 [.int (nI 0), .int ri, .ref yt, .ref ys, .ref yf, .ref yc, .int (nI co), .int (nI dn), .ref yd]), (ys, AI cI 2 (sz2 nw np)), (yf, AR cA 2 (gr2 g0 g1)), (g0, AI cI 40 bw), (g1, AI cI 40 bp), (yc, AR cA 2 (gr2 k0 k1)), (k0, AI cI 40 cw), (k1, AI cI 40 cp), (q_3, AI cI np (flG (rvG np) np))] rfl (by decide) (by decide) [0, 1, 2, 3, 4, 5, 6, 7, 8] (by decide) (wf := (fun (u : Unit) => [(yo, OB 5 [.int (nI 0), .int ri, .ref yt, .ref ys, .ref yf, .ref yc, .int (nI co), .int (nI dn), .ref yd]), (ys, AI cI 2 (sz2 nw np)), (yf, AR cA 2 (gr2 g0 g1)), (g0, AI cI 40 bw), (g1, AI cI 40 bp), (yc, AR cA 2 (gr2 k0 k1)), (k0, AI cI 40 cw), (k1, AI cI 40 cp), (q_3, AI cI np (flG (rvG np) np))])) (fun _ => rfl) (fun r_7 u h_8 => ?_)
        refine x_widen 1 (np + 0) (by first | decide | omega) (by first | decide | omega) ?_
        subst h_8
        refine x_aload_n C dX5_reverse_49 rfl 3 rfl ?_
        refine x_calli (x_runV C hK hNW (c_m_lay1 l D tys cI cJ cA hI hJ hR yo (nI 0) ri yt ys yf yc co dn yd nw np g0 g1 bw bp k0 k1 cw cp q_3 np (rvG np) (by first | omega | assumption) (by intro k hk; unfold rvG; omega)) (cwV 2 C.2.2.2.2 gX5_reverse_X5_lay rfl rfl rfl (by decide +kernel) ⟨by decide, by decide⟩) [0, 1, 2, 3, 4, 5, 6, 7, 8] rfl (by decide) 0 5 rfl rfl rfl (st := []) rfl rfl (Nat.le_of_ble_eq_true rfl) dX5_reverse_50 ⟨by first | decide | omega | exact (show _ ≤ 3 by omega), by first | decide | omega | exact (show _ ≤ 120 by omega)⟩) hA [0, 1, 2, 3, 4, 5, 6, 7, 8] rfl [] [] rfl (by decide) (by decide) [0, 1, 2, 3, 4, 5, 6, 7, 8] (by decide) (wf := (fun (u : Unit) => [(yo, OB 5 [.int (nI 0), .int ri, .ref yt, .ref ys, .ref yf, .ref yc, .int (nI co), .int (nI dn), .ref yd]), (ys, AI cI 2 (sz2 nw np)), (yf, AR cA 2 (gr2 g0 g1)), (g0, AI cI 40 bw), (g1, AI cI 40 (lyF bp (rvG np) np)), (yc, AR cA 2 (gr2 k0 k1)), (k0, AI cI 40 cw), (k1, AI cI 40 (lyF cp (rvG np) np)), (q_3, AI cI np (flG (rvG np) np))])) (fun _ => rfl) (fun r_9 u h_10 => ?_)
        refine x_widen 3 ((np + 0) + 80) (by first | decide | omega) (by first | decide | omega) ?_
        subst h_10
        refine x_ws [(yo, OB 5 [.int (nI 0), .int ri, .ref yt, .ref ys, .ref yf, .ref yc, .int (nI co), .int (nI dn), .ref yd]), (ys, AI cI 2 (sz2 nw np)), (yf, AR cA 2 (gr2 g0 g1)), (g0, AI cI 40 bw), (g1, AI cI 40 (rvF bp 0 np)), (yc, AR cA 2 (gr2 k0 k1)), (k0, AI cI 40 cw), (k1, AI cI 40 (rvF cp 0 np)), (q_3, AI cI np (flG (rvG np) np))] (by rw [lyF_rv, lyF_rv]) ?_
        refine x_iret C hK hlk hrt hQ hH0 hAA () ?_ [0, 1, 2, 3, 4, 5, 6, 7] (by decide) rfl (by first | decide | omega) (by first | decide | omega) dX5_reverse_53
        first | rfl | (exact ⟨rfl, rfl⟩) | trivial | assumption | omega
      ·
        refine x_aload_n C dX5_reverse_28 rfl 3 rfl ?_
        refine x_iload C dX5_reverse_29 4 rfl ?_
        refine x_iload_n C dX5_reverse_31 rfl 2 rfl ?_
        refine x_iconst C (nI 1) dX5_reverse_32 (by decide +kernel) ?_
        refine xn_isub C (by omega) dX5_reverse_33 ?_
        refine x_iload C dX5_reverse_34 4 rfl ?_
        refine xn_isub C (by omega) dX5_reverse_36 ?_
        refine x_iast C hK 8 0 rfl hI (by omega) (by omega) [(yo, OB 5 [.int (nI 0), .int ri, .ref yt, .ref ys, .ref yf, .ref yc, .int (nI co), .int (nI dn), .ref yd]), (ys, AI cI 2 (sz2 nw np)), (yf, AR cA 2 (gr2 g0 g1)), (g0, AI cI 40 bw), (g1, AI cI 40 bp), (yc, AR cA 2 (gr2 k0 k1)), (k0, AI cI 40 cw), (k1, AI cI 40 cp), (q_3, AI cI np (upd (flG (rvG np) i) i (nI ((np - 1) - i))))] rfl dX5_reverse_37 ?_
        refine xn_iinc C (i + 1) [(4, .int (nI (i + 1))), (0, .ref yo), (1, .int (nI 0)), (2, .int (nI np)), (3, .ref q_3)] dX5_reverse_38 4 rfl (by rw [show Int32.ofInt 1 = nI 1 from by decide +kernel]; exact nI_add _ _) (by decide) rfl ?_
        refine x_goto C 22 dX5_reverse_41 (by decide) ?_
        refine x_lv [(0, .ref yo), (1, .int (nI 0)), (2, .int (nI np)), (3, .ref q_3), (4, .int (nI (i + 1)))] [1, 2, 3, 4, 0] rfl ?_
        refine x_ws [(yo, OB 5 [.int (nI 0), .int ri, .ref yt, .ref ys, .ref yf, .ref yc, .int (nI co), .int (nI dn), .ref yd]), (ys, AI cI 2 (sz2 nw np)), (yf, AR cA 2 (gr2 g0 g1)), (g0, AI cI 40 bw), (g1, AI cI 40 bp), (yc, AR cA 2 (gr2 k0 k1)), (k0, AI cI 40 cw), (k1, AI cI 40 cp), (q_3, AI cI np (flG (rvG np) (i + 1)))] (by rw [← flG_s]; try rfl) ?_
        exact ih_K_4 (i + 1) (by first | assumption | omega) (by omega)
  refine x_lv [(0, .ref yo), (1, .int (nI 0)), (2, .int (nI np)), (3, .ref q_3), (4, .int (nI 0))] [3, 4, 2, 1, 0] rfl ?_
  refine x_ws [(yo, OB 5 [.int (nI 0), .int ri, .ref yt, .ref ys, .ref yf, .ref yc, .int (nI co), .int (nI dn), .ref yd]), (ys, AI cI 2 (sz2 nw np)), (yf, AR cA 2 (gr2 g0 g1)), (g0, AI cI 40 bw), (g1, AI cI 40 bp), (yc, AR cA 2 (gr2 k0 k1)), (k0, AI cI 40 cw), (k1, AI cI 40 cp), (q_3, AI cI np (flG (rvG np) 0))] (by rw [flG_0]; try rfl) ?_
  exact K_4 (np - 0 + 1) 0 (by first | assumption | omega) (Nat.lt_succ_self _)
abbrev rm_m_reverseZ0 : Room := { frames := 2, cells := 3, slots := 120, locals := 39 }
set_option maxRecDepth 100000 in
set_option maxHeartbeats 4000000 in
theorem c_m_reverseZ0 (l : Launch) (D : va_G) (tys : List (ClassId × FieldType)) (cI cJ cA : ClassId) (hI : tys[0]? = some (cI, .int)) (hJ : tys[1]? = some (cJ, .long)) (hR : tys[2]? = some (cA, .array .int)) (yo : Nat) (thr : Int32) (ri : Int32) (yt : Nat) (ys : Nat) (yf : Nat) (yc : Nat) (co : Nat) (dn : Nat) (yd : Nat) (nw : Nat) (g0 : Nat) (g1 : Nat) (bw : Nat → Int32) (bp : Nat → Int32) (k0 : Nat) (k1 : Nat) (cw : Nat → Int32) (cp : Nat → Int32)  : MI l yX5_reverse wsX5_reverse rm_m_reverseZ0 D tys [.ref yo, .int (nI 0)] [(yo, OB 5 [.int thr, .int ri, .ref yt, .ref ys, .ref yf, .ref yc, .int (nI co), .int (nI dn), .ref yd]), (ys, AI cI 2 (sz2 nw 0)), (yf, AR cA 2 (gr2 g0 g1)), (g0, AI cI 40 bw), (g1, AI cI 40 bp), (yc, AR cA 2 (gr2 k0 k1)), (k0, AI cI 40 cw), (k1, AI cI 40 cp)] Unit (fun r (_ : Unit) => r = nI 0) (fun (_ : Unit) => [(yo, OB 5 [.int (nI 0), .int ri, .ref yt, .ref ys, .ref yf, .ref yc, .int (nI co), .int (nI dn), .ref yd]), (ys, AI cI 2 (sz2 nw 0)), (yf, AR cA 2 (gr2 g0 g1)), (g0, AI cI 40 bw), (g1, AI cI 40 bp), (yc, AR cA 2 (gr2 k0 k1)), (k0, AI cI 40 cw), (k1, AI cI 40 cp)]) 3 120 := by
  intro sz
  refine x_met (cc := cX5_reverse) (maxL := 5) (ret := (some .int)) (by decide +kernel) rfl (by show _ ≤ _; simp [lg_sl, Value.category]) [(0, .ref yo), (1, .int (nI 0))] rfl ?_
  intro p e s m args below meth c Q A H0 C hK hNW hlk hrt hnm hQ hH0 hAA hA
  refine x_aload_n C dX5_reverse_0 rfl 0 rfl ?_
  refine x_iconst C (nI 0) dX5_reverse_1 (by decide +kernel) ?_
  refine x_put C hK in_X5_reverse_X5 tyX5 tyX5_ok nmX5 0 rfl rfl 0 (by decide) (by decide +kernel) rfl rfl (tyX5_ok 0 (by decide)) rfl rfl (Nat.le_of_ble_eq_true rfl) [(yo, OB 5 [.int (nI 0), .int ri, .ref yt, .ref ys, .ref yf, .ref yc, .int (nI co), .int (nI dn), .ref yd]), (ys, AI cI 2 (sz2 nw 0)), (yf, AR cA 2 (gr2 g0 g1)), (g0, AI cI 40 bw), (g1, AI cI 40 bp), (yc, AR cA 2 (gr2 k0 k1)), (k0, AI cI 40 cw), (k1, AI cI 40 cp)] rfl dX5_reverse_2 ?_
  refine x_aload_n C dX5_reverse_5 rfl 0 rfl ?_
  refine x_get C hK in_X5_reverse_X5 0 rfl rfl 3 (by decide) (by decide +kernel) rfl rfl dX5_reverse_6 ?_
  refine x_iload_n C dX5_reverse_9 rfl 1 rfl ?_
  refine x_calli (x_runS C hK hNW (c_m_of0 l D tys cI cJ cA hI hJ hR  ) (va_cwS 1 C.2.2.2.2 gX5_reverse_X5_of rfl rfl rfl (by decide +kernel) ⟨by decide, by decide⟩) [] rfl (by decide) (st := [.ref ys]) rfl rfl (Nat.le_of_ble_eq_true rfl) dX5_reverse_10 ⟨by first | decide | omega | exact (show _ ≤ 3 by omega), by first | decide | omega | exact (show _ ≤ 120 by omega)⟩) hA [] rfl [0, 1, 2, 3, 4, 5, 6, 7] [(yo, OB 5 [.int (nI 0), .int ri, .ref yt, .ref ys, .ref yf, .ref yc, .int (nI co), .int (nI dn), .ref yd]), (ys, AI cI 2 (sz2 nw 0)), (yf, AR cA 2 (gr2 g0 g1)), (g0, AI cI 40 bw), (g1, AI cI 40 bp), (yc, AR cA 2 (gr2 k0 k1)), (k0, AI cI 40 cw), (k1, AI cI 40 cp)] rfl (by decide) (by decide) [0, 1, 2, 3, 4, 5, 6, 7] (by decide) (wf := (fun (u : Unit) => [(yo, OB 5 [.int (nI 0), .int ri, .ref yt, .ref ys, .ref yf, .ref yc, .int (nI co), .int (nI dn), .ref yd]), (ys, AI cI 2 (sz2 nw 0)), (yf, AR cA 2 (gr2 g0 g1)), (g0, AI cI 40 bw), (g1, AI cI 40 bp), (yc, AR cA 2 (gr2 k0 k1)), (k0, AI cI 40 cw), (k1, AI cI 40 cp)])) (fun _ => rfl) (fun r_1 u h_2 => ?_)
  subst h_2
  refine x_iald C hK 1 0 rfl hI (by omega) (by omega) dX5_reverse_13 ?_
  refine x_topi (nI 0) rfl ?_
  refine x_istore_n C [(2, .int (nI 0)), (0, .ref yo), (1, .int (nI 0))] dX5_reverse_14 rfl (by decide) rfl ?_
  refine x_iload_n C dX5_reverse_15 rfl 0 rfl ?_
  refine x_new_int C hK hA (by decide +kernel) 0 hI (by omega) (by first | decide | omega | exact (show _ ≤ 3 by omega)) (by first | decide | omega | exact (show _ ≤ 120 by omega)) dX5_reverse_16 (fun q_3 => ?_)
  refine x_astore_n C [(3, .ref q_3), (2, .int (nI 0)), (0, .ref yo), (1, .int (nI 0))] dX5_reverse_18 rfl (by decide) rfl ?_
  refine x_iconst C (nI 0) dX5_reverse_19 (by decide +kernel) ?_
  refine x_istore C [(4, .int (nI 0)), (3, .ref q_3), (2, .int (nI 0)), (0, .ref yo), (1, .int (nI 0))] dX5_reverse_20 (by decide) rfl ?_
  have K_4 : ∀ (fuel : Nat) (i : Nat), (i ≤ 0) → 0 - i < fuel → X_ p l e rm_m_reverseZ0 s m args below meth c Q D A H0 5 1 0 [(yo, OB 5 [.int (nI 0), .int ri, .ref yt, .ref ys, .ref yf, .ref yc, .int (nI co), .int (nI dn), .ref yd]), (ys, AI cI 2 (sz2 nw 0)), (yf, AR cA 2 (gr2 g0 g1)), (g0, AI cI 40 bw), (g1, AI cI 40 bp), (yc, AR cA 2 (gr2 k0 k1)), (k0, AI cI 40 cw), (k1, AI cI 40 cp), (q_3, AI cI 0 (flG (rvG 0) i))] [(0, .ref yo), (1, .int (nI 0)), (2, .int (nI 0)), (3, .ref q_3), (4, .int (nI i))] 22 [] := by
    intro fuel
    induction fuel with
    | zero =>
      intros
      exact absurd (by assumption) (Nat.not_lt_zero _)
    | succ fuel ih_K_4 =>
      intro i hi hm_5
      refine x_iload C dX5_reverse_22 4 rfl ?_
      refine x_iload_n C dX5_reverse_24 rfl 2 rfl ?_
      refine xn_icmp_ge C 44 (by omega) (by omega) dX5_reverse_25 (by decide) (fun h_6 => ?_) (fun h_6 => ?_)
      ·
        have heq_i : i = 0 := by omega
        subst heq_i
        refine x_aload_n C dX5_reverse_44 rfl 0 rfl ?_
        refine x_iload_n C dX5_reverse_45 rfl 1 rfl ?_
        refine x_calli (x_runS C hK hNW (c_m_of0 l D tys cI cJ cA hI hJ hR  ) (va_cwS 1 C.2.2.2.2 gX5_reverse_X5_of rfl rfl rfl (by decide +kernel) ⟨by decide, by decide⟩) [] rfl (by decide) (st := [.ref yo]) rfl rfl (Nat.le_of_ble_eq_true rfl) dX5_reverse_46 ⟨by first | decide | omega | exact (show _ ≤ 3 by omega), by first | decide | omega | exact (show _ ≤ 120 by omega)⟩) hA [] rfl [0, 1, 2, 3, 4, 5, 6, 7, 8] [(yo, OB 5 [.int (nI 0), .int ri, .ref yt, .ref ys, .ref yf, .ref yc, .int (nI co), .int (nI dn), .ref yd]), (ys, AI cI 2 (sz2 nw 0)), (yf, AR cA 2 (gr2 g0 g1)), (g0, AI cI 40 bw), (g1, AI cI 40 bp), (yc, AR cA 2 (gr2 k0 k1)), (k0, AI cI 40 cw), (k1, AI cI 40 cp), (q_3, AI cI 0 (flG (rvG 0) 0))] rfl (by decide) (by decide) [0, 1, 2, 3, 4, 5, 6, 7, 8] (by decide) (wf := (fun (u : Unit) => [(yo, OB 5 [.int (nI 0), .int ri, .ref yt, .ref ys, .ref yf, .ref yc, .int (nI co), .int (nI dn), .ref yd]), (ys, AI cI 2 (sz2 nw 0)), (yf, AR cA 2 (gr2 g0 g1)), (g0, AI cI 40 bw), (g1, AI cI 40 bp), (yc, AR cA 2 (gr2 k0 k1)), (k0, AI cI 40 cw), (k1, AI cI 40 cp), (q_3, AI cI 0 (flG (rvG 0) 0))])) (fun _ => rfl) (fun r_7 u h_8 => ?_)
        subst h_8
        refine x_aload_n C dX5_reverse_49 rfl 3 rfl ?_
        refine x_calli (x_runV C hK hNW (c_m_lay1 l D tys cI cJ cA hI hJ hR yo (nI 0) ri yt ys yf yc co dn yd nw 0 g0 g1 bw bp k0 k1 cw cp q_3 0 (rvG 0) (by first | omega | assumption) (by intro k hk; unfold rvG; omega)) (cwV 2 C.2.2.2.2 gX5_reverse_X5_lay rfl rfl rfl (by decide +kernel) ⟨by decide, by decide⟩) [0, 1, 2, 3, 4, 5, 6, 7, 8] rfl (by decide) 0 5 rfl rfl rfl (st := []) rfl rfl (Nat.le_of_ble_eq_true rfl) dX5_reverse_50 ⟨by first | decide | omega | exact (show _ ≤ 3 by omega), by first | decide | omega | exact (show _ ≤ 120 by omega)⟩) hA [0, 1, 2, 3, 4, 5, 6, 7, 8] rfl [] [] rfl (by decide) (by decide) [0, 1, 2, 3, 4, 5, 6, 7, 8] (by decide) (wf := (fun (u : Unit) => [(yo, OB 5 [.int (nI 0), .int ri, .ref yt, .ref ys, .ref yf, .ref yc, .int (nI co), .int (nI dn), .ref yd]), (ys, AI cI 2 (sz2 nw 0)), (yf, AR cA 2 (gr2 g0 g1)), (g0, AI cI 40 bw), (g1, AI cI 40 (lyF bp (rvG 0) 0)), (yc, AR cA 2 (gr2 k0 k1)), (k0, AI cI 40 cw), (k1, AI cI 40 (lyF cp (rvG 0) 0)), (q_3, AI cI 0 (flG (rvG 0) 0))])) (fun _ => rfl) (fun r_9 u h_10 => ?_)
        subst h_10
        refine x_ws [(yo, OB 5 [.int (nI 0), .int ri, .ref yt, .ref ys, .ref yf, .ref yc, .int (nI co), .int (nI dn), .ref yd]), (ys, AI cI 2 (sz2 nw 0)), (yf, AR cA 2 (gr2 g0 g1)), (g0, AI cI 40 bw), (g1, AI cI 40 bp), (yc, AR cA 2 (gr2 k0 k1)), (k0, AI cI 40 cw), (k1, AI cI 40 cp), (q_3, AI cI 0 (flG (rvG 0) 0))] (by rw [lyF_0, lyF_0]) ?_
        refine x_iret C hK hlk hrt hQ hH0 hAA () ?_ [0, 1, 2, 3, 4, 5, 6, 7] (by decide) rfl (by first | decide | omega) (by first | decide | omega) dX5_reverse_53
        first | rfl | (exact ⟨rfl, rfl⟩) | trivial | assumption | omega
      ·
        exact False.elim (by omega)
  refine x_lv [(0, .ref yo), (1, .int (nI 0)), (2, .int (nI 0)), (3, .ref q_3), (4, .int (nI 0))] [3, 4, 2, 1, 0] rfl ?_
  refine x_ws [(yo, OB 5 [.int (nI 0), .int ri, .ref yt, .ref ys, .ref yf, .ref yc, .int (nI co), .int (nI dn), .ref yd]), (ys, AI cI 2 (sz2 nw 0)), (yf, AR cA 2 (gr2 g0 g1)), (g0, AI cI 40 bw), (g1, AI cI 40 bp), (yc, AR cA 2 (gr2 k0 k1)), (k0, AI cI 40 cw), (k1, AI cI 40 cp), (q_3, AI cI 0 (flG (rvG 0) 0))] (by rw [flG_0]; try rfl) ?_
  exact K_4 (0 - 0 + 1) 0 (by first | assumption | omega) (Nat.lt_succ_self _)
abbrev rm_m_rotateZ1 : Room := { frames := 2, cells := 3, slots := 120, locals := 39 }
set_option maxRecDepth 100000 in
set_option maxHeartbeats 4000000 in
theorem c_m_rotateZ1 (l : Launch) (D : va_G) (tys : List (ClassId × FieldType)) (cI cJ cA : ClassId) (hI : tys[0]? = some (cI, .int)) (hJ : tys[1]? = some (cJ, .long)) (hR : tys[2]? = some (cA, .array .int)) (yo : Nat) (thr : Int32) (ri : Int32) (yt : Nat) (ys : Nat) (yf : Nat) (yc : Nat) (co : Nat) (dn : Nat) (yd : Nat) (np : Nat) (g0 : Nat) (g1 : Nat) (bw : Nat → Int32) (bp : Nat → Int32) (k0 : Nat) (k1 : Nat) (cw : Nat → Int32) (cp : Nat → Int32) (pl : Nat) (hpl : pl ≤ 40) : MI l yX5_rotate wsX5_rotate rm_m_rotateZ1 D tys [.ref yo, .int (nI 1), .int (nI pl)] [(yo, OB 5 [.int thr, .int ri, .ref yt, .ref ys, .ref yf, .ref yc, .int (nI co), .int (nI dn), .ref yd]), (ys, AI cI 2 (sz2 0 np)), (yf, AR cA 2 (gr2 g0 g1)), (g0, AI cI 40 bw), (g1, AI cI 40 bp), (yc, AR cA 2 (gr2 k0 k1)), (k0, AI cI 40 cw), (k1, AI cI 40 cp)] Unit (fun r (_ : Unit) => r = nI 0) (fun (_ : Unit) => [(yo, OB 5 [.int (nI 0), .int ri, .ref yt, .ref ys, .ref yf, .ref yc, .int (nI co), .int (nI dn), .ref yd]), (ys, AI cI 2 (sz2 0 np)), (yf, AR cA 2 (gr2 g0 g1)), (g0, AI cI 40 bw), (g1, AI cI 40 bp), (yc, AR cA 2 (gr2 k0 k1)), (k0, AI cI 40 cw), (k1, AI cI 40 cp)]) 3 120 := by
  intro sz
  refine x_met (cc := cX5_rotate) (maxL := 6) (ret := (some .int)) (by decide +kernel) rfl (by show _ ≤ _; simp [lg_sl, Value.category]) [(0, .ref yo), (1, .int (nI 1)), (2, .int (nI pl))] rfl ?_
  intro p e s m args below meth c Q A H0 C hK hNW hlk hrt hnm hQ hH0 hAA hA
  refine x_aload_n C dX5_rotate_0 rfl 0 rfl ?_
  refine x_iconst C (nI 0) dX5_rotate_1 (by decide +kernel) ?_
  refine x_put C hK in_X5_rotate_X5 tyX5 tyX5_ok nmX5 0 rfl rfl 0 (by decide) (by decide +kernel) rfl rfl (tyX5_ok 0 (by decide)) rfl rfl (Nat.le_of_ble_eq_true rfl) [(yo, OB 5 [.int (nI 0), .int ri, .ref yt, .ref ys, .ref yf, .ref yc, .int (nI co), .int (nI dn), .ref yd]), (ys, AI cI 2 (sz2 0 np)), (yf, AR cA 2 (gr2 g0 g1)), (g0, AI cI 40 bw), (g1, AI cI 40 bp), (yc, AR cA 2 (gr2 k0 k1)), (k0, AI cI 40 cw), (k1, AI cI 40 cp)] rfl dX5_rotate_2 ?_
  refine x_iload_n C dX5_rotate_5 rfl 2 rfl ?_
  refine x_iconst C (nI 0) dX5_rotate_6 (by decide +kernel) ?_
  refine x_bipush C (nI 40) dX5_rotate_7 (by decide +kernel) ?_
  refine x_calli (x_runS C hK hNW (c_m_isIn0 l D tys cI cJ cA hI hJ hR (nI pl) 40 (by first | omega | assumption)) (va_cwS 3 C.2.2.2.2 gX5_rotate_X5_isIn rfl rfl rfl (by decide +kernel) ⟨by decide, by decide⟩) [] rfl (by decide) (st := []) rfl rfl (Nat.le_of_ble_eq_true rfl) dX5_rotate_9 ⟨by first | decide | omega | exact (show _ ≤ 3 by omega), by first | decide | omega | exact (show _ ≤ 120 by omega)⟩) hA [] rfl [0, 1, 2, 3, 4, 5, 6, 7] [(yo, OB 5 [.int (nI 0), .int ri, .ref yt, .ref ys, .ref yf, .ref yc, .int (nI co), .int (nI dn), .ref yd]), (ys, AI cI 2 (sz2 0 np)), (yf, AR cA 2 (gr2 g0 g1)), (g0, AI cI 40 bw), (g1, AI cI 40 bp), (yc, AR cA 2 (gr2 k0 k1)), (k0, AI cI 40 cw), (k1, AI cI 40 cp)] rfl (by decide) (by decide) [0, 1, 2, 3, 4, 5, 6, 7] (by decide) (wf := (fun (u : Unit) => [(yo, OB 5 [.int (nI 0), .int ri, .ref yt, .ref ys, .ref yf, .ref yc, .int (nI co), .int (nI dn), .ref yd]), (ys, AI cI 2 (sz2 0 np)), (yf, AR cA 2 (gr2 g0 g1)), (g0, AI cI 40 bw), (g1, AI cI 40 bp), (yc, AR cA 2 (gr2 k0 k1)), (k0, AI cI 40 cw), (k1, AI cI 40 cp)])) (fun _ => rfl) (fun r_1 u h_2 => ?_)
  subst h_2
  refine x_if_ne C 21 dX5_rotate_12 (by decide) (fun h_3 => ?_) (fun h_3 => ?_)
  ·
    refine x_aload_n C dX5_rotate_21 rfl 0 rfl ?_
    refine x_get C hK in_X5_rotate_X5 0 rfl rfl 3 (by decide) (by decide +kernel) rfl rfl dX5_rotate_22 ?_
    refine x_iload_n C dX5_rotate_25 rfl 1 rfl ?_
    refine x_calli (x_runS C hK hNW (c_m_of1 l D tys cI cJ cA hI hJ hR  ) (va_cwS 1 C.2.2.2.2 gX5_rotate_X5_of rfl rfl rfl (by decide +kernel) ⟨by decide, by decide⟩) [] rfl (by decide) (st := [.ref ys]) rfl rfl (Nat.le_of_ble_eq_true rfl) dX5_rotate_26 ⟨by first | decide | omega | exact (show _ ≤ 3 by omega), by first | decide | omega | exact (show _ ≤ 120 by omega)⟩) hA [] rfl [0, 1, 2, 3, 4, 5, 6, 7] [(yo, OB 5 [.int (nI 0), .int ri, .ref yt, .ref ys, .ref yf, .ref yc, .int (nI co), .int (nI dn), .ref yd]), (ys, AI cI 2 (sz2 0 np)), (yf, AR cA 2 (gr2 g0 g1)), (g0, AI cI 40 bw), (g1, AI cI 40 bp), (yc, AR cA 2 (gr2 k0 k1)), (k0, AI cI 40 cw), (k1, AI cI 40 cp)] rfl (by decide) (by decide) [0, 1, 2, 3, 4, 5, 6, 7] (by decide) (wf := (fun (u : Unit) => [(yo, OB 5 [.int (nI 0), .int ri, .ref yt, .ref ys, .ref yf, .ref yc, .int (nI co), .int (nI dn), .ref yd]), (ys, AI cI 2 (sz2 0 np)), (yf, AR cA 2 (gr2 g0 g1)), (g0, AI cI 40 bw), (g1, AI cI 40 bp), (yc, AR cA 2 (gr2 k0 k1)), (k0, AI cI 40 cw), (k1, AI cI 40 cp)])) (fun _ => rfl) (fun r_4 u h_5 => ?_)
    subst h_5
    refine x_iald C hK 1 0 rfl hI (by omega) (by omega) dX5_rotate_29 ?_
    refine x_topi (nI 0) rfl ?_
    refine x_istore_n C [(3, .int (nI 0)), (0, .ref yo), (1, .int (nI 1)), (2, .int (nI pl))] dX5_rotate_30 rfl (by decide) rfl ?_
    refine x_iload_n C dX5_rotate_31 rfl 0 rfl ?_
    refine x_new_int C hK hA (by decide +kernel) 0 hI (by omega) (by first | decide | omega | exact (show _ ≤ 3 by omega)) (by first | decide | omega | exact (show _ ≤ 120 by omega)) dX5_rotate_32 (fun q_6 => ?_)
    refine x_astore C [(4, .ref q_6), (3, .int (nI 0)), (0, .ref yo), (1, .int (nI 1)), (2, .int (nI pl))] dX5_rotate_34 (by decide) rfl ?_
    refine x_iconst C (nI 0) dX5_rotate_36 (by decide +kernel) ?_
    refine x_istore C [(5, .int (nI 0)), (4, .ref q_6), (3, .int (nI 0)), (0, .ref yo), (1, .int (nI 1)), (2, .int (nI pl))] dX5_rotate_37 (by decide) rfl ?_
    have K_7 : ∀ (fuel : Nat) (i : Nat), (i ≤ 0) → 0 - i < fuel → X_ p l e rm_m_rotateZ1 s m args below meth c Q D A H0 6 1 0 [(yo, OB 5 [.int (nI 0), .int ri, .ref yt, .ref ys, .ref yf, .ref yc, .int (nI co), .int (nI dn), .ref yd]), (ys, AI cI 2 (sz2 0 np)), (yf, AR cA 2 (gr2 g0 g1)), (g0, AI cI 40 bw), (g1, AI cI 40 bp), (yc, AR cA 2 (gr2 k0 k1)), (k0, AI cI 40 cw), (k1, AI cI 40 cp), (q_6, AI cI 0 (rtP 0 pl i))] [(0, .ref yo), (1, .int (nI 1)), (2, .int (nI pl)), (3, .int (nI 0)), (4, .ref q_6), (5, .int (nI i))] 39 [] := by
      intro fuel
      induction fuel with
      | zero =>
        intros
        exact absurd (by assumption) (Nat.not_lt_zero _)
      | succ fuel ih_K_7 =>
        intro i hi hm_8
        refine x_iload C dX5_rotate_39 5 rfl ?_
        refine x_iload_n C dX5_rotate_41 rfl 3 rfl ?_
        refine xn_icmp_ge C 62 (by omega) (by omega) dX5_rotate_42 (by decide) (fun h_9 => ?_) (fun h_9 => ?_)
        ·
          have heq_i : i = 0 := by omega
          subst heq_i
          refine x_ws [(yo, OB 5 [.int (nI 0), .int ri, .ref yt, .ref ys, .ref yf, .ref yc, .int (nI co), .int (nI dn), .ref yd]), (ys, AI cI 2 (sz2 0 np)), (yf, AR cA 2 (gr2 g0 g1)), (g0, AI cI 40 bw), (g1, AI cI 40 bp), (yc, AR cA 2 (gr2 k0 k1)), (k0, AI cI 40 cw), (k1, AI cI 40 cp), (q_6, AI cI 0 (flG (rtG 0 pl) 0))] (by rw [rtP_e]) ?_
          refine x_aload_n C dX5_rotate_62 rfl 0 rfl ?_
          refine x_iload_n C dX5_rotate_63 rfl 1 rfl ?_
          refine x_calli (x_runS C hK hNW (c_m_of1 l D tys cI cJ cA hI hJ hR  ) (va_cwS 1 C.2.2.2.2 gX5_rotate_X5_of rfl rfl rfl (by decide +kernel) ⟨by decide, by decide⟩) [] rfl (by decide) (st := [.ref yo]) rfl rfl (Nat.le_of_ble_eq_true rfl) dX5_rotate_64 ⟨by first | decide | omega | exact (show _ ≤ 3 by omega), by first | decide | omega | exact (show _ ≤ 120 by omega)⟩) hA [] rfl [0, 1, 2, 3, 4, 5, 6, 7, 8] [(yo, OB 5 [.int (nI 0), .int ri, .ref yt, .ref ys, .ref yf, .ref yc, .int (nI co), .int (nI dn), .ref yd]), (ys, AI cI 2 (sz2 0 np)), (yf, AR cA 2 (gr2 g0 g1)), (g0, AI cI 40 bw), (g1, AI cI 40 bp), (yc, AR cA 2 (gr2 k0 k1)), (k0, AI cI 40 cw), (k1, AI cI 40 cp), (q_6, AI cI 0 (flG (rtG 0 pl) 0))] rfl (by decide) (by decide) [0, 1, 2, 3, 4, 5, 6, 7, 8] (by decide) (wf := (fun (u : Unit) => [(yo, OB 5 [.int (nI 0), .int ri, .ref yt, .ref ys, .ref yf, .ref yc, .int (nI co), .int (nI dn), .ref yd]), (ys, AI cI 2 (sz2 0 np)), (yf, AR cA 2 (gr2 g0 g1)), (g0, AI cI 40 bw), (g1, AI cI 40 bp), (yc, AR cA 2 (gr2 k0 k1)), (k0, AI cI 40 cw), (k1, AI cI 40 cp), (q_6, AI cI 0 (flG (rtG 0 pl) 0))])) (fun _ => rfl) (fun r_10 u h_11 => ?_)
          subst h_11
          refine x_aload C dX5_rotate_67 4 rfl ?_
          refine x_calli (x_runV C hK hNW (c_m_lay0 l D tys cI cJ cA hI hJ hR yo (nI 0) ri yt ys yf yc co dn yd 0 np g0 g1 bw bp k0 k1 cw cp q_6 0 (rtG 0 pl) (by first | omega | assumption) (by intro k hk; have hlt := rtG_lt (n := 0) (pl := pl) (z := k) (by omega); omega)) (cwV 2 C.2.2.2.2 gX5_rotate_X5_lay rfl rfl rfl (by decide +kernel) ⟨by decide, by decide⟩) [0, 1, 2, 3, 4, 5, 6, 7, 8] rfl (by decide) 0 5 rfl rfl rfl (st := []) rfl rfl (Nat.le_of_ble_eq_true rfl) dX5_rotate_69 ⟨by first | decide | omega | exact (show _ ≤ 3 by omega), by first | decide | omega | exact (show _ ≤ 120 by omega)⟩) hA [0, 1, 2, 3, 4, 5, 6, 7, 8] rfl [] [] rfl (by decide) (by decide) [0, 1, 2, 3, 4, 5, 6, 7, 8] (by decide) (wf := (fun (u : Unit) => [(yo, OB 5 [.int (nI 0), .int ri, .ref yt, .ref ys, .ref yf, .ref yc, .int (nI co), .int (nI dn), .ref yd]), (ys, AI cI 2 (sz2 0 np)), (yf, AR cA 2 (gr2 g0 g1)), (g0, AI cI 40 (lyF bw (rtG 0 pl) 0)), (g1, AI cI 40 bp), (yc, AR cA 2 (gr2 k0 k1)), (k0, AI cI 40 (lyF cw (rtG 0 pl) 0)), (k1, AI cI 40 cp), (q_6, AI cI 0 (flG (rtG 0 pl) 0))])) (fun _ => rfl) (fun r_12 u h_13 => ?_)
          subst h_13
          refine x_ws [(yo, OB 5 [.int (nI 0), .int ri, .ref yt, .ref ys, .ref yf, .ref yc, .int (nI co), .int (nI dn), .ref yd]), (ys, AI cI 2 (sz2 0 np)), (yf, AR cA 2 (gr2 g0 g1)), (g0, AI cI 40 bw), (g1, AI cI 40 bp), (yc, AR cA 2 (gr2 k0 k1)), (k0, AI cI 40 cw), (k1, AI cI 40 cp), (q_6, AI cI 0 (flG (rtG 0 pl) 0))] (by rw [lyF_0, lyF_0]) ?_
          refine x_iret C hK hlk hrt hQ hH0 hAA () ?_ [0, 1, 2, 3, 4, 5, 6, 7] (by decide) rfl (by first | decide | omega) (by first | decide | omega) dX5_rotate_72
          first | rfl | (exact ⟨rfl, rfl⟩) | trivial | assumption | omega
        ·
          exact False.elim (by omega)
    refine x_lv [(0, .ref yo), (1, .int (nI 1)), (2, .int (nI pl)), (3, .int (nI 0)), (4, .ref q_6), (5, .int (nI 0))] [3, 4, 5, 2, 1, 0] rfl ?_
    refine x_ws [(yo, OB 5 [.int (nI 0), .int ri, .ref yt, .ref ys, .ref yf, .ref yc, .int (nI co), .int (nI dn), .ref yd]), (ys, AI cI 2 (sz2 0 np)), (yf, AR cA 2 (gr2 g0 g1)), (g0, AI cI 40 bw), (g1, AI cI 40 bp), (yc, AR cA 2 (gr2 k0 k1)), (k0, AI cI 40 cw), (k1, AI cI 40 cp), (q_6, AI cI 0 (rtP 0 pl 0))] (by rw [rtP_0]; try rfl) ?_
    exact K_7 (0 - 0 + 1) 0 (by first | assumption | omega) (Nat.lt_succ_self _)
  ·
    exact absurd ((bI_eq0 h_3).symm.trans ((below_n (j := pl) (b := 40 + 1) (by omega)).trans (decide_eq_true (by omega)))) (by decide)
abbrev rm_m_rotateA1 : Room := { frames := 2, cells := 3, slots := 120, locals := 39 }
set_option maxRecDepth 100000 in
set_option maxHeartbeats 4000000 in
theorem c_m_rotateA1 (l : Launch) (D : va_G) (tys : List (ClassId × FieldType)) (cI cJ cA : ClassId) (hI : tys[0]? = some (cI, .int)) (hJ : tys[1]? = some (cJ, .long)) (hR : tys[2]? = some (cA, .array .int)) (yo : Nat) (thr : Int32) (ri : Int32) (yt : Nat) (ys : Nat) (yf : Nat) (yc : Nat) (co : Nat) (dn : Nat) (yd : Nat) (nw : Nat) (np : Nat) (g0 : Nat) (g1 : Nat) (bw : Nat → Int32) (bp : Nat → Int32) (k0 : Nat) (k1 : Nat) (cw : Nat → Int32) (cp : Nat → Int32) (pl : Nat) (hnw : nw ≤ 40) (hpl : pl ≤ 40) (h0 : 0 < nw) (hm : 0 < pl % nw) : MI l yX5_rotate wsX5_rotate rm_m_rotateA1 D tys [.ref yo, .int (nI 1), .int (nI pl)] [(yo, OB 5 [.int thr, .int ri, .ref yt, .ref ys, .ref yf, .ref yc, .int (nI co), .int (nI dn), .ref yd]), (ys, AI cI 2 (sz2 nw np)), (yf, AR cA 2 (gr2 g0 g1)), (g0, AI cI 40 bw), (g1, AI cI 40 bp), (yc, AR cA 2 (gr2 k0 k1)), (k0, AI cI 40 cw), (k1, AI cI 40 cp)] Unit (fun r (_ : Unit) => r = nI nw) (fun (_ : Unit) => [(yo, OB 5 [.int (nI 0), .int ri, .ref yt, .ref ys, .ref yf, .ref yc, .int (nI co), .int (nI dn), .ref yd]), (ys, AI cI 2 (sz2 nw np)), (yf, AR cA 2 (gr2 g0 g1)), (g0, AI cI 40 (rvF (rvF (rvF bw 0 nw) 0 (pl % nw)) (pl % nw) nw)), (g1, AI cI 40 bp), (yc, AR cA 2 (gr2 k0 k1)), (k0, AI cI 40 (rvF (rvF (rvF cw 0 nw) 0 (pl % nw)) (pl % nw) nw)), (k1, AI cI 40 cp)]) 3 120 := by
  intro sz
  refine x_met (cc := cX5_rotate) (maxL := 6) (ret := (some .int)) (by decide +kernel) rfl (by show _ ≤ _; simp [lg_sl, Value.category]) [(0, .ref yo), (1, .int (nI 1)), (2, .int (nI pl))] rfl ?_
  intro p e s m args below meth c Q A H0 C hK hNW hlk hrt hnm hQ hH0 hAA hA
  refine x_aload_n C dX5_rotate_0 rfl 0 rfl ?_
  refine x_iconst C (nI 0) dX5_rotate_1 (by decide +kernel) ?_
  refine x_put C hK in_X5_rotate_X5 tyX5 tyX5_ok nmX5 0 rfl rfl 0 (by decide) (by decide +kernel) rfl rfl (tyX5_ok 0 (by decide)) rfl rfl (Nat.le_of_ble_eq_true rfl) [(yo, OB 5 [.int (nI 0), .int ri, .ref yt, .ref ys, .ref yf, .ref yc, .int (nI co), .int (nI dn), .ref yd]), (ys, AI cI 2 (sz2 nw np)), (yf, AR cA 2 (gr2 g0 g1)), (g0, AI cI 40 bw), (g1, AI cI 40 bp), (yc, AR cA 2 (gr2 k0 k1)), (k0, AI cI 40 cw), (k1, AI cI 40 cp)] rfl dX5_rotate_2 ?_
  refine x_iload_n C dX5_rotate_5 rfl 2 rfl ?_
  refine x_iconst C (nI 0) dX5_rotate_6 (by decide +kernel) ?_
  refine x_bipush C (nI 40) dX5_rotate_7 (by decide +kernel) ?_
  refine x_calli (x_runS C hK hNW (c_m_isIn0 l D tys cI cJ cA hI hJ hR (nI pl) 40 (by first | omega | assumption)) (va_cwS 3 C.2.2.2.2 gX5_rotate_X5_isIn rfl rfl rfl (by decide +kernel) ⟨by decide, by decide⟩) [] rfl (by decide) (st := []) rfl rfl (Nat.le_of_ble_eq_true rfl) dX5_rotate_9 ⟨by first | decide | omega | exact (show _ ≤ 3 by omega), by first | decide | omega | exact (show _ ≤ 120 by omega)⟩) hA [] rfl [0, 1, 2, 3, 4, 5, 6, 7] [(yo, OB 5 [.int (nI 0), .int ri, .ref yt, .ref ys, .ref yf, .ref yc, .int (nI co), .int (nI dn), .ref yd]), (ys, AI cI 2 (sz2 nw np)), (yf, AR cA 2 (gr2 g0 g1)), (g0, AI cI 40 bw), (g1, AI cI 40 bp), (yc, AR cA 2 (gr2 k0 k1)), (k0, AI cI 40 cw), (k1, AI cI 40 cp)] rfl (by decide) (by decide) [0, 1, 2, 3, 4, 5, 6, 7] (by decide) (wf := (fun (u : Unit) => [(yo, OB 5 [.int (nI 0), .int ri, .ref yt, .ref ys, .ref yf, .ref yc, .int (nI co), .int (nI dn), .ref yd]), (ys, AI cI 2 (sz2 nw np)), (yf, AR cA 2 (gr2 g0 g1)), (g0, AI cI 40 bw), (g1, AI cI 40 bp), (yc, AR cA 2 (gr2 k0 k1)), (k0, AI cI 40 cw), (k1, AI cI 40 cp)])) (fun _ => rfl) (fun r_1 u h_2 => ?_)
  subst h_2
  refine x_if_ne C 21 dX5_rotate_12 (by decide) (fun h_3 => ?_) (fun h_3 => ?_)
  ·
    refine x_aload_n C dX5_rotate_21 rfl 0 rfl ?_
    refine x_get C hK in_X5_rotate_X5 0 rfl rfl 3 (by decide) (by decide +kernel) rfl rfl dX5_rotate_22 ?_
    refine x_iload_n C dX5_rotate_25 rfl 1 rfl ?_
    refine x_calli (x_runS C hK hNW (c_m_of1 l D tys cI cJ cA hI hJ hR  ) (va_cwS 1 C.2.2.2.2 gX5_rotate_X5_of rfl rfl rfl (by decide +kernel) ⟨by decide, by decide⟩) [] rfl (by decide) (st := [.ref ys]) rfl rfl (Nat.le_of_ble_eq_true rfl) dX5_rotate_26 ⟨by first | decide | omega | exact (show _ ≤ 3 by omega), by first | decide | omega | exact (show _ ≤ 120 by omega)⟩) hA [] rfl [0, 1, 2, 3, 4, 5, 6, 7] [(yo, OB 5 [.int (nI 0), .int ri, .ref yt, .ref ys, .ref yf, .ref yc, .int (nI co), .int (nI dn), .ref yd]), (ys, AI cI 2 (sz2 nw np)), (yf, AR cA 2 (gr2 g0 g1)), (g0, AI cI 40 bw), (g1, AI cI 40 bp), (yc, AR cA 2 (gr2 k0 k1)), (k0, AI cI 40 cw), (k1, AI cI 40 cp)] rfl (by decide) (by decide) [0, 1, 2, 3, 4, 5, 6, 7] (by decide) (wf := (fun (u : Unit) => [(yo, OB 5 [.int (nI 0), .int ri, .ref yt, .ref ys, .ref yf, .ref yc, .int (nI co), .int (nI dn), .ref yd]), (ys, AI cI 2 (sz2 nw np)), (yf, AR cA 2 (gr2 g0 g1)), (g0, AI cI 40 bw), (g1, AI cI 40 bp), (yc, AR cA 2 (gr2 k0 k1)), (k0, AI cI 40 cw), (k1, AI cI 40 cp)])) (fun _ => rfl) (fun r_4 u h_5 => ?_)
    subst h_5
    refine x_iald C hK 1 0 rfl hI (by omega) (by omega) dX5_rotate_29 ?_
    refine x_topi (nI nw) rfl ?_
    refine x_istore_n C [(3, .int (nI nw)), (0, .ref yo), (1, .int (nI 1)), (2, .int (nI pl))] dX5_rotate_30 rfl (by decide) rfl ?_
    refine x_iload_n C dX5_rotate_31 rfl 0 rfl ?_
    refine x_new_int C hK hA (by decide +kernel) 0 hI (by omega) (by first | decide | omega | exact (show _ ≤ 3 by omega)) (by first | decide | omega | exact (show _ ≤ 120 by omega)) dX5_rotate_32 (fun q_6 => ?_)
    refine x_widen 1 nw (by first | decide | omega) (by first | decide | omega) ?_
    refine x_astore C [(4, .ref q_6), (3, .int (nI nw)), (0, .ref yo), (1, .int (nI 1)), (2, .int (nI pl))] dX5_rotate_34 (by decide) rfl ?_
    refine x_iconst C (nI 0) dX5_rotate_36 (by decide +kernel) ?_
    refine x_istore C [(5, .int (nI 0)), (4, .ref q_6), (3, .int (nI nw)), (0, .ref yo), (1, .int (nI 1)), (2, .int (nI pl))] dX5_rotate_37 (by decide) rfl ?_
    have K_7 : ∀ (fuel : Nat) (i : Nat), (i ≤ nw) → nw - i < fuel → X_ p l e rm_m_rotateA1 s m args below meth c Q D A H0 6 1 nw [(yo, OB 5 [.int (nI 0), .int ri, .ref yt, .ref ys, .ref yf, .ref yc, .int (nI co), .int (nI dn), .ref yd]), (ys, AI cI 2 (sz2 nw np)), (yf, AR cA 2 (gr2 g0 g1)), (g0, AI cI 40 bw), (g1, AI cI 40 bp), (yc, AR cA 2 (gr2 k0 k1)), (k0, AI cI 40 cw), (k1, AI cI 40 cp), (q_6, AI cI nw (rtP nw pl i))] [(0, .ref yo), (1, .int (nI 1)), (2, .int (nI pl)), (3, .int (nI nw)), (4, .ref q_6), (5, .int (nI i))] 39 [] := by
      intro fuel
      induction fuel with
      | zero =>
        intros
        exact absurd (by assumption) (Nat.not_lt_zero _)
      | succ fuel ih_K_7 =>
        intro i hi hm_8
        refine x_iload C dX5_rotate_39 5 rfl ?_
        refine x_iload_n C dX5_rotate_41 rfl 3 rfl ?_
        refine xn_icmp_ge C 62 (by omega) (by omega) dX5_rotate_42 (by decide) (fun h_9 => ?_) (fun h_9 => ?_)
        ·
          have heq_i : nw = i := by omega
          subst heq_i
          refine x_ws [(yo, OB 5 [.int (nI 0), .int ri, .ref yt, .ref ys, .ref yf, .ref yc, .int (nI co), .int (nI dn), .ref yd]), (ys, AI cI 2 (sz2 nw np)), (yf, AR cA 2 (gr2 g0 g1)), (g0, AI cI 40 bw), (g1, AI cI 40 bp), (yc, AR cA 2 (gr2 k0 k1)), (k0, AI cI 40 cw), (k1, AI cI 40 cp), (q_6, AI cI nw (flG (rtG nw pl) nw))] (by rw [rtP_e]) ?_
          refine x_aload_n C dX5_rotate_62 rfl 0 rfl ?_
          refine x_iload_n C dX5_rotate_63 rfl 1 rfl ?_
          refine x_calli (x_runS C hK hNW (c_m_of1 l D tys cI cJ cA hI hJ hR  ) (va_cwS 1 C.2.2.2.2 gX5_rotate_X5_of rfl rfl rfl (by decide +kernel) ⟨by decide, by decide⟩) [] rfl (by decide) (st := [.ref yo]) rfl rfl (Nat.le_of_ble_eq_true rfl) dX5_rotate_64 ⟨by first | decide | omega | exact (show _ ≤ 3 by omega), by first | decide | omega | exact (show _ ≤ 120 by omega)⟩) hA [] rfl [0, 1, 2, 3, 4, 5, 6, 7, 8] [(yo, OB 5 [.int (nI 0), .int ri, .ref yt, .ref ys, .ref yf, .ref yc, .int (nI co), .int (nI dn), .ref yd]), (ys, AI cI 2 (sz2 nw np)), (yf, AR cA 2 (gr2 g0 g1)), (g0, AI cI 40 bw), (g1, AI cI 40 bp), (yc, AR cA 2 (gr2 k0 k1)), (k0, AI cI 40 cw), (k1, AI cI 40 cp), (q_6, AI cI nw (flG (rtG nw pl) nw))] rfl (by decide) (by decide) [0, 1, 2, 3, 4, 5, 6, 7, 8] (by decide) (wf := (fun (u : Unit) => [(yo, OB 5 [.int (nI 0), .int ri, .ref yt, .ref ys, .ref yf, .ref yc, .int (nI co), .int (nI dn), .ref yd]), (ys, AI cI 2 (sz2 nw np)), (yf, AR cA 2 (gr2 g0 g1)), (g0, AI cI 40 bw), (g1, AI cI 40 bp), (yc, AR cA 2 (gr2 k0 k1)), (k0, AI cI 40 cw), (k1, AI cI 40 cp), (q_6, AI cI nw (flG (rtG nw pl) nw))])) (fun _ => rfl) (fun r_10 u h_11 => ?_)
          refine x_widen 1 (nw + 0) (by first | decide | omega) (by first | decide | omega) ?_
          subst h_11
          refine x_aload C dX5_rotate_67 4 rfl ?_
          refine x_calli (x_runV C hK hNW (c_m_lay0 l D tys cI cJ cA hI hJ hR yo (nI 0) ri yt ys yf yc co dn yd nw np g0 g1 bw bp k0 k1 cw cp q_6 nw (rtG nw pl) (by first | omega | assumption) (by intro k hk; have hlt := rtG_lt (n := nw) (pl := pl) (z := k) (by omega); omega)) (cwV 2 C.2.2.2.2 gX5_rotate_X5_lay rfl rfl rfl (by decide +kernel) ⟨by decide, by decide⟩) [0, 1, 2, 3, 4, 5, 6, 7, 8] rfl (by decide) 0 5 rfl rfl rfl (st := []) rfl rfl (Nat.le_of_ble_eq_true rfl) dX5_rotate_69 ⟨by first | decide | omega | exact (show _ ≤ 3 by omega), by first | decide | omega | exact (show _ ≤ 120 by omega)⟩) hA [0, 1, 2, 3, 4, 5, 6, 7, 8] rfl [] [] rfl (by decide) (by decide) [0, 1, 2, 3, 4, 5, 6, 7, 8] (by decide) (wf := (fun (u : Unit) => [(yo, OB 5 [.int (nI 0), .int ri, .ref yt, .ref ys, .ref yf, .ref yc, .int (nI co), .int (nI dn), .ref yd]), (ys, AI cI 2 (sz2 nw np)), (yf, AR cA 2 (gr2 g0 g1)), (g0, AI cI 40 (lyF bw (rtG nw pl) nw)), (g1, AI cI 40 bp), (yc, AR cA 2 (gr2 k0 k1)), (k0, AI cI 40 (lyF cw (rtG nw pl) nw)), (k1, AI cI 40 cp), (q_6, AI cI nw (flG (rtG nw pl) nw))])) (fun _ => rfl) (fun r_12 u h_13 => ?_)
          refine x_widen 3 ((nw + 0) + 80) (by first | decide | omega) (by first | decide | omega) ?_
          subst h_13
          refine x_ws [(yo, OB 5 [.int (nI 0), .int ri, .ref yt, .ref ys, .ref yf, .ref yc, .int (nI co), .int (nI dn), .ref yd]), (ys, AI cI 2 (sz2 nw np)), (yf, AR cA 2 (gr2 g0 g1)), (g0, AI cI 40 (rvF (rvF (rvF bw 0 nw) 0 (pl % nw)) (pl % nw) nw)), (g1, AI cI 40 bp), (yc, AR cA 2 (gr2 k0 k1)), (k0, AI cI 40 (rvF (rvF (rvF cw 0 nw) 0 (pl % nw)) (pl % nw) nw)), (k1, AI cI 40 cp), (q_6, AI cI nw (flG (rtG nw pl) nw))] (by rw [rv3 hm h0, rv3 hm h0]) ?_
          refine x_iret C hK hlk hrt hQ hH0 hAA () ?_ [0, 1, 2, 3, 4, 5, 6, 7] (by decide) rfl (by first | decide | omega) (by first | decide | omega) dX5_rotate_72
          first | rfl | (exact ⟨rfl, rfl⟩) | trivial | assumption | omega
        ·
          have hmo := Nat.mod_lt (i + pl) (show 0 < nw by omega)
          refine x_aload C dX5_rotate_45 4 rfl ?_
          refine x_iload C dX5_rotate_47 5 rfl ?_
          refine x_iload_n C dX5_rotate_49 rfl 2 rfl ?_
          refine xn_iadd C dX5_rotate_50 ?_
          refine x_iload_n C dX5_rotate_51 rfl 3 rfl ?_
          refine xn_irem C (by omega) (by omega) (by omega) dX5_rotate_52 ?_
          refine x_iload C dX5_rotate_53 5 rfl ?_
          refine x_iast C hK 8 0 rfl hI (by omega) (by omega) [(yo, OB 5 [.int (nI 0), .int ri, .ref yt, .ref ys, .ref yf, .ref yc, .int (nI co), .int (nI dn), .ref yd]), (ys, AI cI 2 (sz2 nw np)), (yf, AR cA 2 (gr2 g0 g1)), (g0, AI cI 40 bw), (g1, AI cI 40 bp), (yc, AR cA 2 (gr2 k0 k1)), (k0, AI cI 40 cw), (k1, AI cI 40 cp), (q_6, AI cI nw (upd (rtP nw pl i) ((i + pl) % nw) (nI i)))] rfl dX5_rotate_55 ?_
          refine xn_iinc C (i + 1) [(5, .int (nI (i + 1))), (0, .ref yo), (1, .int (nI 1)), (2, .int (nI pl)), (3, .int (nI nw)), (4, .ref q_6)] dX5_rotate_56 5 rfl (by rw [show Int32.ofInt 1 = nI 1 from by decide +kernel]; exact nI_add _ _) (by decide) rfl ?_
          refine x_goto C 39 dX5_rotate_59 (by decide) ?_
          refine x_lv [(0, .ref yo), (1, .int (nI 1)), (2, .int (nI pl)), (3, .int (nI nw)), (4, .ref q_6), (5, .int (nI (i + 1)))] [1, 2, 3, 4, 5, 0] rfl ?_
          refine x_ws [(yo, OB 5 [.int (nI 0), .int ri, .ref yt, .ref ys, .ref yf, .ref yc, .int (nI co), .int (nI dn), .ref yd]), (ys, AI cI 2 (sz2 nw np)), (yf, AR cA 2 (gr2 g0 g1)), (g0, AI cI 40 bw), (g1, AI cI 40 bp), (yc, AR cA 2 (gr2 k0 k1)), (k0, AI cI 40 cw), (k1, AI cI 40 cp), (q_6, AI cI nw (rtP nw pl (i + 1)))] (by rw [rtP_s (by omega)]; try rfl) ?_
          exact ih_K_7 (i + 1) (by first | assumption | omega) (by omega)
    refine x_lv [(0, .ref yo), (1, .int (nI 1)), (2, .int (nI pl)), (3, .int (nI nw)), (4, .ref q_6), (5, .int (nI 0))] [3, 4, 5, 2, 1, 0] rfl ?_
    refine x_ws [(yo, OB 5 [.int (nI 0), .int ri, .ref yt, .ref ys, .ref yf, .ref yc, .int (nI co), .int (nI dn), .ref yd]), (ys, AI cI 2 (sz2 nw np)), (yf, AR cA 2 (gr2 g0 g1)), (g0, AI cI 40 bw), (g1, AI cI 40 bp), (yc, AR cA 2 (gr2 k0 k1)), (k0, AI cI 40 cw), (k1, AI cI 40 cp), (q_6, AI cI nw (rtP nw pl 0))] (by rw [rtP_0]; try rfl) ?_
    exact K_7 (nw - 0 + 1) 0 (by first | assumption | omega) (Nat.lt_succ_self _)
  ·
    exact absurd ((bI_eq0 h_3).symm.trans ((below_n (j := pl) (b := 40 + 1) (by omega)).trans (decide_eq_true (by omega)))) (by decide)
abbrev rm_m_rotateB1 : Room := { frames := 2, cells := 3, slots := 120, locals := 39 }
set_option maxRecDepth 100000 in
set_option maxHeartbeats 4000000 in
theorem c_m_rotateB1 (l : Launch) (D : va_G) (tys : List (ClassId × FieldType)) (cI cJ cA : ClassId) (hI : tys[0]? = some (cI, .int)) (hJ : tys[1]? = some (cJ, .long)) (hR : tys[2]? = some (cA, .array .int)) (yo : Nat) (thr : Int32) (ri : Int32) (yt : Nat) (ys : Nat) (yf : Nat) (yc : Nat) (co : Nat) (dn : Nat) (yd : Nat) (nw : Nat) (np : Nat) (g0 : Nat) (g1 : Nat) (bw : Nat → Int32) (bp : Nat → Int32) (k0 : Nat) (k1 : Nat) (cw : Nat → Int32) (cp : Nat → Int32) (pl : Nat) (hnw : nw ≤ 40) (hpl : pl ≤ 40) (h0 : 0 < nw) (hm : pl % nw = 0) : MI l yX5_rotate wsX5_rotate rm_m_rotateB1 D tys [.ref yo, .int (nI 1), .int (nI pl)] [(yo, OB 5 [.int thr, .int ri, .ref yt, .ref ys, .ref yf, .ref yc, .int (nI co), .int (nI dn), .ref yd]), (ys, AI cI 2 (sz2 nw np)), (yf, AR cA 2 (gr2 g0 g1)), (g0, AI cI 40 bw), (g1, AI cI 40 bp), (yc, AR cA 2 (gr2 k0 k1)), (k0, AI cI 40 cw), (k1, AI cI 40 cp)] Unit (fun r (_ : Unit) => r = nI nw) (fun (_ : Unit) => [(yo, OB 5 [.int (nI 0), .int ri, .ref yt, .ref ys, .ref yf, .ref yc, .int (nI co), .int (nI dn), .ref yd]), (ys, AI cI 2 (sz2 nw np)), (yf, AR cA 2 (gr2 g0 g1)), (g0, AI cI 40 (rvF (rvF bw 0 nw) 0 nw)), (g1, AI cI 40 bp), (yc, AR cA 2 (gr2 k0 k1)), (k0, AI cI 40 (rvF (rvF cw 0 nw) 0 nw)), (k1, AI cI 40 cp)]) 3 120 := by
  intro sz
  refine x_met (cc := cX5_rotate) (maxL := 6) (ret := (some .int)) (by decide +kernel) rfl (by show _ ≤ _; simp [lg_sl, Value.category]) [(0, .ref yo), (1, .int (nI 1)), (2, .int (nI pl))] rfl ?_
  intro p e s m args below meth c Q A H0 C hK hNW hlk hrt hnm hQ hH0 hAA hA
  refine x_aload_n C dX5_rotate_0 rfl 0 rfl ?_
  refine x_iconst C (nI 0) dX5_rotate_1 (by decide +kernel) ?_
  refine x_put C hK in_X5_rotate_X5 tyX5 tyX5_ok nmX5 0 rfl rfl 0 (by decide) (by decide +kernel) rfl rfl (tyX5_ok 0 (by decide)) rfl rfl (Nat.le_of_ble_eq_true rfl) [(yo, OB 5 [.int (nI 0), .int ri, .ref yt, .ref ys, .ref yf, .ref yc, .int (nI co), .int (nI dn), .ref yd]), (ys, AI cI 2 (sz2 nw np)), (yf, AR cA 2 (gr2 g0 g1)), (g0, AI cI 40 bw), (g1, AI cI 40 bp), (yc, AR cA 2 (gr2 k0 k1)), (k0, AI cI 40 cw), (k1, AI cI 40 cp)] rfl dX5_rotate_2 ?_
  refine x_iload_n C dX5_rotate_5 rfl 2 rfl ?_
  refine x_iconst C (nI 0) dX5_rotate_6 (by decide +kernel) ?_
  refine x_bipush C (nI 40) dX5_rotate_7 (by decide +kernel) ?_
  refine x_calli (x_runS C hK hNW (c_m_isIn0 l D tys cI cJ cA hI hJ hR (nI pl) 40 (by first | omega | assumption)) (va_cwS 3 C.2.2.2.2 gX5_rotate_X5_isIn rfl rfl rfl (by decide +kernel) ⟨by decide, by decide⟩) [] rfl (by decide) (st := []) rfl rfl (Nat.le_of_ble_eq_true rfl) dX5_rotate_9 ⟨by first | decide | omega | exact (show _ ≤ 3 by omega), by first | decide | omega | exact (show _ ≤ 120 by omega)⟩) hA [] rfl [0, 1, 2, 3, 4, 5, 6, 7] [(yo, OB 5 [.int (nI 0), .int ri, .ref yt, .ref ys, .ref yf, .ref yc, .int (nI co), .int (nI dn), .ref yd]), (ys, AI cI 2 (sz2 nw np)), (yf, AR cA 2 (gr2 g0 g1)), (g0, AI cI 40 bw), (g1, AI cI 40 bp), (yc, AR cA 2 (gr2 k0 k1)), (k0, AI cI 40 cw), (k1, AI cI 40 cp)] rfl (by decide) (by decide) [0, 1, 2, 3, 4, 5, 6, 7] (by decide) (wf := (fun (u : Unit) => [(yo, OB 5 [.int (nI 0), .int ri, .ref yt, .ref ys, .ref yf, .ref yc, .int (nI co), .int (nI dn), .ref yd]), (ys, AI cI 2 (sz2 nw np)), (yf, AR cA 2 (gr2 g0 g1)), (g0, AI cI 40 bw), (g1, AI cI 40 bp), (yc, AR cA 2 (gr2 k0 k1)), (k0, AI cI 40 cw), (k1, AI cI 40 cp)])) (fun _ => rfl) (fun r_1 u h_2 => ?_)
  subst h_2
  refine x_if_ne C 21 dX5_rotate_12 (by decide) (fun h_3 => ?_) (fun h_3 => ?_)
  ·
    refine x_aload_n C dX5_rotate_21 rfl 0 rfl ?_
    refine x_get C hK in_X5_rotate_X5 0 rfl rfl 3 (by decide) (by decide +kernel) rfl rfl dX5_rotate_22 ?_
    refine x_iload_n C dX5_rotate_25 rfl 1 rfl ?_
    refine x_calli (x_runS C hK hNW (c_m_of1 l D tys cI cJ cA hI hJ hR  ) (va_cwS 1 C.2.2.2.2 gX5_rotate_X5_of rfl rfl rfl (by decide +kernel) ⟨by decide, by decide⟩) [] rfl (by decide) (st := [.ref ys]) rfl rfl (Nat.le_of_ble_eq_true rfl) dX5_rotate_26 ⟨by first | decide | omega | exact (show _ ≤ 3 by omega), by first | decide | omega | exact (show _ ≤ 120 by omega)⟩) hA [] rfl [0, 1, 2, 3, 4, 5, 6, 7] [(yo, OB 5 [.int (nI 0), .int ri, .ref yt, .ref ys, .ref yf, .ref yc, .int (nI co), .int (nI dn), .ref yd]), (ys, AI cI 2 (sz2 nw np)), (yf, AR cA 2 (gr2 g0 g1)), (g0, AI cI 40 bw), (g1, AI cI 40 bp), (yc, AR cA 2 (gr2 k0 k1)), (k0, AI cI 40 cw), (k1, AI cI 40 cp)] rfl (by decide) (by decide) [0, 1, 2, 3, 4, 5, 6, 7] (by decide) (wf := (fun (u : Unit) => [(yo, OB 5 [.int (nI 0), .int ri, .ref yt, .ref ys, .ref yf, .ref yc, .int (nI co), .int (nI dn), .ref yd]), (ys, AI cI 2 (sz2 nw np)), (yf, AR cA 2 (gr2 g0 g1)), (g0, AI cI 40 bw), (g1, AI cI 40 bp), (yc, AR cA 2 (gr2 k0 k1)), (k0, AI cI 40 cw), (k1, AI cI 40 cp)])) (fun _ => rfl) (fun r_4 u h_5 => ?_)
    subst h_5
    refine x_iald C hK 1 0 rfl hI (by omega) (by omega) dX5_rotate_29 ?_
    refine x_topi (nI nw) rfl ?_
    refine x_istore_n C [(3, .int (nI nw)), (0, .ref yo), (1, .int (nI 1)), (2, .int (nI pl))] dX5_rotate_30 rfl (by decide) rfl ?_
    refine x_iload_n C dX5_rotate_31 rfl 0 rfl ?_
    refine x_new_int C hK hA (by decide +kernel) 0 hI (by omega) (by first | decide | omega | exact (show _ ≤ 3 by omega)) (by first | decide | omega | exact (show _ ≤ 120 by omega)) dX5_rotate_32 (fun q_6 => ?_)
    refine x_widen 1 nw (by first | decide | omega) (by first | decide | omega) ?_
    refine x_astore C [(4, .ref q_6), (3, .int (nI nw)), (0, .ref yo), (1, .int (nI 1)), (2, .int (nI pl))] dX5_rotate_34 (by decide) rfl ?_
    refine x_iconst C (nI 0) dX5_rotate_36 (by decide +kernel) ?_
    refine x_istore C [(5, .int (nI 0)), (4, .ref q_6), (3, .int (nI nw)), (0, .ref yo), (1, .int (nI 1)), (2, .int (nI pl))] dX5_rotate_37 (by decide) rfl ?_
    have K_7 : ∀ (fuel : Nat) (i : Nat), (i ≤ nw) → nw - i < fuel → X_ p l e rm_m_rotateB1 s m args below meth c Q D A H0 6 1 nw [(yo, OB 5 [.int (nI 0), .int ri, .ref yt, .ref ys, .ref yf, .ref yc, .int (nI co), .int (nI dn), .ref yd]), (ys, AI cI 2 (sz2 nw np)), (yf, AR cA 2 (gr2 g0 g1)), (g0, AI cI 40 bw), (g1, AI cI 40 bp), (yc, AR cA 2 (gr2 k0 k1)), (k0, AI cI 40 cw), (k1, AI cI 40 cp), (q_6, AI cI nw (rtP nw pl i))] [(0, .ref yo), (1, .int (nI 1)), (2, .int (nI pl)), (3, .int (nI nw)), (4, .ref q_6), (5, .int (nI i))] 39 [] := by
      intro fuel
      induction fuel with
      | zero =>
        intros
        exact absurd (by assumption) (Nat.not_lt_zero _)
      | succ fuel ih_K_7 =>
        intro i hi hm_8
        refine x_iload C dX5_rotate_39 5 rfl ?_
        refine x_iload_n C dX5_rotate_41 rfl 3 rfl ?_
        refine xn_icmp_ge C 62 (by omega) (by omega) dX5_rotate_42 (by decide) (fun h_9 => ?_) (fun h_9 => ?_)
        ·
          have heq_i : nw = i := by omega
          subst heq_i
          refine x_ws [(yo, OB 5 [.int (nI 0), .int ri, .ref yt, .ref ys, .ref yf, .ref yc, .int (nI co), .int (nI dn), .ref yd]), (ys, AI cI 2 (sz2 nw np)), (yf, AR cA 2 (gr2 g0 g1)), (g0, AI cI 40 bw), (g1, AI cI 40 bp), (yc, AR cA 2 (gr2 k0 k1)), (k0, AI cI 40 cw), (k1, AI cI 40 cp), (q_6, AI cI nw (flG (rtG nw pl) nw))] (by rw [rtP_e]) ?_
          refine x_aload_n C dX5_rotate_62 rfl 0 rfl ?_
          refine x_iload_n C dX5_rotate_63 rfl 1 rfl ?_
          refine x_calli (x_runS C hK hNW (c_m_of1 l D tys cI cJ cA hI hJ hR  ) (va_cwS 1 C.2.2.2.2 gX5_rotate_X5_of rfl rfl rfl (by decide +kernel) ⟨by decide, by decide⟩) [] rfl (by decide) (st := [.ref yo]) rfl rfl (Nat.le_of_ble_eq_true rfl) dX5_rotate_64 ⟨by first | decide | omega | exact (show _ ≤ 3 by omega), by first | decide | omega | exact (show _ ≤ 120 by omega)⟩) hA [] rfl [0, 1, 2, 3, 4, 5, 6, 7, 8] [(yo, OB 5 [.int (nI 0), .int ri, .ref yt, .ref ys, .ref yf, .ref yc, .int (nI co), .int (nI dn), .ref yd]), (ys, AI cI 2 (sz2 nw np)), (yf, AR cA 2 (gr2 g0 g1)), (g0, AI cI 40 bw), (g1, AI cI 40 bp), (yc, AR cA 2 (gr2 k0 k1)), (k0, AI cI 40 cw), (k1, AI cI 40 cp), (q_6, AI cI nw (flG (rtG nw pl) nw))] rfl (by decide) (by decide) [0, 1, 2, 3, 4, 5, 6, 7, 8] (by decide) (wf := (fun (u : Unit) => [(yo, OB 5 [.int (nI 0), .int ri, .ref yt, .ref ys, .ref yf, .ref yc, .int (nI co), .int (nI dn), .ref yd]), (ys, AI cI 2 (sz2 nw np)), (yf, AR cA 2 (gr2 g0 g1)), (g0, AI cI 40 bw), (g1, AI cI 40 bp), (yc, AR cA 2 (gr2 k0 k1)), (k0, AI cI 40 cw), (k1, AI cI 40 cp), (q_6, AI cI nw (flG (rtG nw pl) nw))])) (fun _ => rfl) (fun r_10 u h_11 => ?_)
          refine x_widen 1 (nw + 0) (by first | decide | omega) (by first | decide | omega) ?_
          subst h_11
          refine x_aload C dX5_rotate_67 4 rfl ?_
          refine x_calli (x_runV C hK hNW (c_m_lay0 l D tys cI cJ cA hI hJ hR yo (nI 0) ri yt ys yf yc co dn yd nw np g0 g1 bw bp k0 k1 cw cp q_6 nw (rtG nw pl) (by first | omega | assumption) (by intro k hk; have hlt := rtG_lt (n := nw) (pl := pl) (z := k) (by omega); omega)) (cwV 2 C.2.2.2.2 gX5_rotate_X5_lay rfl rfl rfl (by decide +kernel) ⟨by decide, by decide⟩) [0, 1, 2, 3, 4, 5, 6, 7, 8] rfl (by decide) 0 5 rfl rfl rfl (st := []) rfl rfl (Nat.le_of_ble_eq_true rfl) dX5_rotate_69 ⟨by first | decide | omega | exact (show _ ≤ 3 by omega), by first | decide | omega | exact (show _ ≤ 120 by omega)⟩) hA [0, 1, 2, 3, 4, 5, 6, 7, 8] rfl [] [] rfl (by decide) (by decide) [0, 1, 2, 3, 4, 5, 6, 7, 8] (by decide) (wf := (fun (u : Unit) => [(yo, OB 5 [.int (nI 0), .int ri, .ref yt, .ref ys, .ref yf, .ref yc, .int (nI co), .int (nI dn), .ref yd]), (ys, AI cI 2 (sz2 nw np)), (yf, AR cA 2 (gr2 g0 g1)), (g0, AI cI 40 (lyF bw (rtG nw pl) nw)), (g1, AI cI 40 bp), (yc, AR cA 2 (gr2 k0 k1)), (k0, AI cI 40 (lyF cw (rtG nw pl) nw)), (k1, AI cI 40 cp), (q_6, AI cI nw (flG (rtG nw pl) nw))])) (fun _ => rfl) (fun r_12 u h_13 => ?_)
          refine x_widen 3 ((nw + 0) + 80) (by first | decide | omega) (by first | decide | omega) ?_
          subst h_13
          refine x_ws [(yo, OB 5 [.int (nI 0), .int ri, .ref yt, .ref ys, .ref yf, .ref yc, .int (nI co), .int (nI dn), .ref yd]), (ys, AI cI 2 (sz2 nw np)), (yf, AR cA 2 (gr2 g0 g1)), (g0, AI cI 40 (rvF (rvF bw 0 nw) 0 nw)), (g1, AI cI 40 bp), (yc, AR cA 2 (gr2 k0 k1)), (k0, AI cI 40 (rvF (rvF cw 0 nw) 0 nw)), (k1, AI cI 40 cp), (q_6, AI cI nw (flG (rtG nw pl) nw))] (by rw [rv2 hm h0, rv2 hm h0]) ?_
          refine x_iret C hK hlk hrt hQ hH0 hAA () ?_ [0, 1, 2, 3, 4, 5, 6, 7] (by decide) rfl (by first | decide | omega) (by first | decide | omega) dX5_rotate_72
          first | rfl | (exact ⟨rfl, rfl⟩) | trivial | assumption | omega
        ·
          have hmo := Nat.mod_lt (i + pl) (show 0 < nw by omega)
          refine x_aload C dX5_rotate_45 4 rfl ?_
          refine x_iload C dX5_rotate_47 5 rfl ?_
          refine x_iload_n C dX5_rotate_49 rfl 2 rfl ?_
          refine xn_iadd C dX5_rotate_50 ?_
          refine x_iload_n C dX5_rotate_51 rfl 3 rfl ?_
          refine xn_irem C (by omega) (by omega) (by omega) dX5_rotate_52 ?_
          refine x_iload C dX5_rotate_53 5 rfl ?_
          refine x_iast C hK 8 0 rfl hI (by omega) (by omega) [(yo, OB 5 [.int (nI 0), .int ri, .ref yt, .ref ys, .ref yf, .ref yc, .int (nI co), .int (nI dn), .ref yd]), (ys, AI cI 2 (sz2 nw np)), (yf, AR cA 2 (gr2 g0 g1)), (g0, AI cI 40 bw), (g1, AI cI 40 bp), (yc, AR cA 2 (gr2 k0 k1)), (k0, AI cI 40 cw), (k1, AI cI 40 cp), (q_6, AI cI nw (upd (rtP nw pl i) ((i + pl) % nw) (nI i)))] rfl dX5_rotate_55 ?_
          refine xn_iinc C (i + 1) [(5, .int (nI (i + 1))), (0, .ref yo), (1, .int (nI 1)), (2, .int (nI pl)), (3, .int (nI nw)), (4, .ref q_6)] dX5_rotate_56 5 rfl (by rw [show Int32.ofInt 1 = nI 1 from by decide +kernel]; exact nI_add _ _) (by decide) rfl ?_
          refine x_goto C 39 dX5_rotate_59 (by decide) ?_
          refine x_lv [(0, .ref yo), (1, .int (nI 1)), (2, .int (nI pl)), (3, .int (nI nw)), (4, .ref q_6), (5, .int (nI (i + 1)))] [1, 2, 3, 4, 5, 0] rfl ?_
          refine x_ws [(yo, OB 5 [.int (nI 0), .int ri, .ref yt, .ref ys, .ref yf, .ref yc, .int (nI co), .int (nI dn), .ref yd]), (ys, AI cI 2 (sz2 nw np)), (yf, AR cA 2 (gr2 g0 g1)), (g0, AI cI 40 bw), (g1, AI cI 40 bp), (yc, AR cA 2 (gr2 k0 k1)), (k0, AI cI 40 cw), (k1, AI cI 40 cp), (q_6, AI cI nw (rtP nw pl (i + 1)))] (by rw [rtP_s (by omega)]; try rfl) ?_
          exact ih_K_7 (i + 1) (by first | assumption | omega) (by omega)
    refine x_lv [(0, .ref yo), (1, .int (nI 1)), (2, .int (nI pl)), (3, .int (nI nw)), (4, .ref q_6), (5, .int (nI 0))] [3, 4, 5, 2, 1, 0] rfl ?_
    refine x_ws [(yo, OB 5 [.int (nI 0), .int ri, .ref yt, .ref ys, .ref yf, .ref yc, .int (nI co), .int (nI dn), .ref yd]), (ys, AI cI 2 (sz2 nw np)), (yf, AR cA 2 (gr2 g0 g1)), (g0, AI cI 40 bw), (g1, AI cI 40 bp), (yc, AR cA 2 (gr2 k0 k1)), (k0, AI cI 40 cw), (k1, AI cI 40 cp), (q_6, AI cI nw (rtP nw pl 0))] (by rw [rtP_0]; try rfl) ?_
    exact K_7 (nw - 0 + 1) 0 (by first | assumption | omega) (Nat.lt_succ_self _)
  ·
    exact absurd ((bI_eq0 h_3).symm.trans ((below_n (j := pl) (b := 40 + 1) (by omega)).trans (decide_eq_true (by omega)))) (by decide)
abbrev rm_m_rotateZ0 : Room := { frames := 2, cells := 3, slots := 120, locals := 39 }
set_option maxRecDepth 100000 in
set_option maxHeartbeats 4000000 in
theorem c_m_rotateZ0 (l : Launch) (D : va_G) (tys : List (ClassId × FieldType)) (cI cJ cA : ClassId) (hI : tys[0]? = some (cI, .int)) (hJ : tys[1]? = some (cJ, .long)) (hR : tys[2]? = some (cA, .array .int)) (yo : Nat) (thr : Int32) (ri : Int32) (yt : Nat) (ys : Nat) (yf : Nat) (yc : Nat) (co : Nat) (dn : Nat) (yd : Nat) (nw : Nat) (g0 : Nat) (g1 : Nat) (bw : Nat → Int32) (bp : Nat → Int32) (k0 : Nat) (k1 : Nat) (cw : Nat → Int32) (cp : Nat → Int32) (pl : Nat) (hpl : pl ≤ 40) : MI l yX5_rotate wsX5_rotate rm_m_rotateZ0 D tys [.ref yo, .int (nI 0), .int (nI pl)] [(yo, OB 5 [.int thr, .int ri, .ref yt, .ref ys, .ref yf, .ref yc, .int (nI co), .int (nI dn), .ref yd]), (ys, AI cI 2 (sz2 nw 0)), (yf, AR cA 2 (gr2 g0 g1)), (g0, AI cI 40 bw), (g1, AI cI 40 bp), (yc, AR cA 2 (gr2 k0 k1)), (k0, AI cI 40 cw), (k1, AI cI 40 cp)] Unit (fun r (_ : Unit) => r = nI 0) (fun (_ : Unit) => [(yo, OB 5 [.int (nI 0), .int ri, .ref yt, .ref ys, .ref yf, .ref yc, .int (nI co), .int (nI dn), .ref yd]), (ys, AI cI 2 (sz2 nw 0)), (yf, AR cA 2 (gr2 g0 g1)), (g0, AI cI 40 bw), (g1, AI cI 40 bp), (yc, AR cA 2 (gr2 k0 k1)), (k0, AI cI 40 cw), (k1, AI cI 40 cp)]) 3 120 := by
  intro sz
  refine x_met (cc := cX5_rotate) (maxL := 6) (ret := (some .int)) (by decide +kernel) rfl (by show _ ≤ _; simp [lg_sl, Value.category]) [(0, .ref yo), (1, .int (nI 0)), (2, .int (nI pl))] rfl ?_
  intro p e s m args below meth c Q A H0 C hK hNW hlk hrt hnm hQ hH0 hAA hA
  refine x_aload_n C dX5_rotate_0 rfl 0 rfl ?_
  refine x_iconst C (nI 0) dX5_rotate_1 (by decide +kernel) ?_
  refine x_put C hK in_X5_rotate_X5 tyX5 tyX5_ok nmX5 0 rfl rfl 0 (by decide) (by decide +kernel) rfl rfl (tyX5_ok 0 (by decide)) rfl rfl (Nat.le_of_ble_eq_true rfl) [(yo, OB 5 [.int (nI 0), .int ri, .ref yt, .ref ys, .ref yf, .ref yc, .int (nI co), .int (nI dn), .ref yd]), (ys, AI cI 2 (sz2 nw 0)), (yf, AR cA 2 (gr2 g0 g1)), (g0, AI cI 40 bw), (g1, AI cI 40 bp), (yc, AR cA 2 (gr2 k0 k1)), (k0, AI cI 40 cw), (k1, AI cI 40 cp)] rfl dX5_rotate_2 ?_
  refine x_iload_n C dX5_rotate_5 rfl 2 rfl ?_
  refine x_iconst C (nI 0) dX5_rotate_6 (by decide +kernel) ?_
  refine x_bipush C (nI 40) dX5_rotate_7 (by decide +kernel) ?_
  refine x_calli (x_runS C hK hNW (c_m_isIn0 l D tys cI cJ cA hI hJ hR (nI pl) 40 (by first | omega | assumption)) (va_cwS 3 C.2.2.2.2 gX5_rotate_X5_isIn rfl rfl rfl (by decide +kernel) ⟨by decide, by decide⟩) [] rfl (by decide) (st := []) rfl rfl (Nat.le_of_ble_eq_true rfl) dX5_rotate_9 ⟨by first | decide | omega | exact (show _ ≤ 3 by omega), by first | decide | omega | exact (show _ ≤ 120 by omega)⟩) hA [] rfl [0, 1, 2, 3, 4, 5, 6, 7] [(yo, OB 5 [.int (nI 0), .int ri, .ref yt, .ref ys, .ref yf, .ref yc, .int (nI co), .int (nI dn), .ref yd]), (ys, AI cI 2 (sz2 nw 0)), (yf, AR cA 2 (gr2 g0 g1)), (g0, AI cI 40 bw), (g1, AI cI 40 bp), (yc, AR cA 2 (gr2 k0 k1)), (k0, AI cI 40 cw), (k1, AI cI 40 cp)] rfl (by decide) (by decide) [0, 1, 2, 3, 4, 5, 6, 7] (by decide) (wf := (fun (u : Unit) => [(yo, OB 5 [.int (nI 0), .int ri, .ref yt, .ref ys, .ref yf, .ref yc, .int (nI co), .int (nI dn), .ref yd]), (ys, AI cI 2 (sz2 nw 0)), (yf, AR cA 2 (gr2 g0 g1)), (g0, AI cI 40 bw), (g1, AI cI 40 bp), (yc, AR cA 2 (gr2 k0 k1)), (k0, AI cI 40 cw), (k1, AI cI 40 cp)])) (fun _ => rfl) (fun r_1 u h_2 => ?_)
  subst h_2
  refine x_if_ne C 21 dX5_rotate_12 (by decide) (fun h_3 => ?_) (fun h_3 => ?_)
  ·
    refine x_aload_n C dX5_rotate_21 rfl 0 rfl ?_
    refine x_get C hK in_X5_rotate_X5 0 rfl rfl 3 (by decide) (by decide +kernel) rfl rfl dX5_rotate_22 ?_
    refine x_iload_n C dX5_rotate_25 rfl 1 rfl ?_
    refine x_calli (x_runS C hK hNW (c_m_of0 l D tys cI cJ cA hI hJ hR  ) (va_cwS 1 C.2.2.2.2 gX5_rotate_X5_of rfl rfl rfl (by decide +kernel) ⟨by decide, by decide⟩) [] rfl (by decide) (st := [.ref ys]) rfl rfl (Nat.le_of_ble_eq_true rfl) dX5_rotate_26 ⟨by first | decide | omega | exact (show _ ≤ 3 by omega), by first | decide | omega | exact (show _ ≤ 120 by omega)⟩) hA [] rfl [0, 1, 2, 3, 4, 5, 6, 7] [(yo, OB 5 [.int (nI 0), .int ri, .ref yt, .ref ys, .ref yf, .ref yc, .int (nI co), .int (nI dn), .ref yd]), (ys, AI cI 2 (sz2 nw 0)), (yf, AR cA 2 (gr2 g0 g1)), (g0, AI cI 40 bw), (g1, AI cI 40 bp), (yc, AR cA 2 (gr2 k0 k1)), (k0, AI cI 40 cw), (k1, AI cI 40 cp)] rfl (by decide) (by decide) [0, 1, 2, 3, 4, 5, 6, 7] (by decide) (wf := (fun (u : Unit) => [(yo, OB 5 [.int (nI 0), .int ri, .ref yt, .ref ys, .ref yf, .ref yc, .int (nI co), .int (nI dn), .ref yd]), (ys, AI cI 2 (sz2 nw 0)), (yf, AR cA 2 (gr2 g0 g1)), (g0, AI cI 40 bw), (g1, AI cI 40 bp), (yc, AR cA 2 (gr2 k0 k1)), (k0, AI cI 40 cw), (k1, AI cI 40 cp)])) (fun _ => rfl) (fun r_4 u h_5 => ?_)
    subst h_5
    refine x_iald C hK 1 0 rfl hI (by omega) (by omega) dX5_rotate_29 ?_
    refine x_topi (nI 0) rfl ?_
    refine x_istore_n C [(3, .int (nI 0)), (0, .ref yo), (1, .int (nI 0)), (2, .int (nI pl))] dX5_rotate_30 rfl (by decide) rfl ?_
    refine x_iload_n C dX5_rotate_31 rfl 0 rfl ?_
    refine x_new_int C hK hA (by decide +kernel) 0 hI (by omega) (by first | decide | omega | exact (show _ ≤ 3 by omega)) (by first | decide | omega | exact (show _ ≤ 120 by omega)) dX5_rotate_32 (fun q_6 => ?_)
    refine x_astore C [(4, .ref q_6), (3, .int (nI 0)), (0, .ref yo), (1, .int (nI 0)), (2, .int (nI pl))] dX5_rotate_34 (by decide) rfl ?_
    refine x_iconst C (nI 0) dX5_rotate_36 (by decide +kernel) ?_
    refine x_istore C [(5, .int (nI 0)), (4, .ref q_6), (3, .int (nI 0)), (0, .ref yo), (1, .int (nI 0)), (2, .int (nI pl))] dX5_rotate_37 (by decide) rfl ?_
    have K_7 : ∀ (fuel : Nat) (i : Nat), (i ≤ 0) → 0 - i < fuel → X_ p l e rm_m_rotateZ0 s m args below meth c Q D A H0 6 1 0 [(yo, OB 5 [.int (nI 0), .int ri, .ref yt, .ref ys, .ref yf, .ref yc, .int (nI co), .int (nI dn), .ref yd]), (ys, AI cI 2 (sz2 nw 0)), (yf, AR cA 2 (gr2 g0 g1)), (g0, AI cI 40 bw), (g1, AI cI 40 bp), (yc, AR cA 2 (gr2 k0 k1)), (k0, AI cI 40 cw), (k1, AI cI 40 cp), (q_6, AI cI 0 (rtP 0 pl i))] [(0, .ref yo), (1, .int (nI 0)), (2, .int (nI pl)), (3, .int (nI 0)), (4, .ref q_6), (5, .int (nI i))] 39 [] := by
      intro fuel
      induction fuel with
      | zero =>
        intros
        exact absurd (by assumption) (Nat.not_lt_zero _)
      | succ fuel ih_K_7 =>
        intro i hi hm_8
        refine x_iload C dX5_rotate_39 5 rfl ?_
        refine x_iload_n C dX5_rotate_41 rfl 3 rfl ?_
        refine xn_icmp_ge C 62 (by omega) (by omega) dX5_rotate_42 (by decide) (fun h_9 => ?_) (fun h_9 => ?_)
        ·
          have heq_i : i = 0 := by omega
          subst heq_i
          refine x_ws [(yo, OB 5 [.int (nI 0), .int ri, .ref yt, .ref ys, .ref yf, .ref yc, .int (nI co), .int (nI dn), .ref yd]), (ys, AI cI 2 (sz2 nw 0)), (yf, AR cA 2 (gr2 g0 g1)), (g0, AI cI 40 bw), (g1, AI cI 40 bp), (yc, AR cA 2 (gr2 k0 k1)), (k0, AI cI 40 cw), (k1, AI cI 40 cp), (q_6, AI cI 0 (flG (rtG 0 pl) 0))] (by rw [rtP_e]) ?_
          refine x_aload_n C dX5_rotate_62 rfl 0 rfl ?_
          refine x_iload_n C dX5_rotate_63 rfl 1 rfl ?_
          refine x_calli (x_runS C hK hNW (c_m_of0 l D tys cI cJ cA hI hJ hR  ) (va_cwS 1 C.2.2.2.2 gX5_rotate_X5_of rfl rfl rfl (by decide +kernel) ⟨by decide, by decide⟩) [] rfl (by decide) (st := [.ref yo]) rfl rfl (Nat.le_of_ble_eq_true rfl) dX5_rotate_64 ⟨by first | decide | omega | exact (show _ ≤ 3 by omega), by first | decide | omega | exact (show _ ≤ 120 by omega)⟩) hA [] rfl [0, 1, 2, 3, 4, 5, 6, 7, 8] [(yo, OB 5 [.int (nI 0), .int ri, .ref yt, .ref ys, .ref yf, .ref yc, .int (nI co), .int (nI dn), .ref yd]), (ys, AI cI 2 (sz2 nw 0)), (yf, AR cA 2 (gr2 g0 g1)), (g0, AI cI 40 bw), (g1, AI cI 40 bp), (yc, AR cA 2 (gr2 k0 k1)), (k0, AI cI 40 cw), (k1, AI cI 40 cp), (q_6, AI cI 0 (flG (rtG 0 pl) 0))] rfl (by decide) (by decide) [0, 1, 2, 3, 4, 5, 6, 7, 8] (by decide) (wf := (fun (u : Unit) => [(yo, OB 5 [.int (nI 0), .int ri, .ref yt, .ref ys, .ref yf, .ref yc, .int (nI co), .int (nI dn), .ref yd]), (ys, AI cI 2 (sz2 nw 0)), (yf, AR cA 2 (gr2 g0 g1)), (g0, AI cI 40 bw), (g1, AI cI 40 bp), (yc, AR cA 2 (gr2 k0 k1)), (k0, AI cI 40 cw), (k1, AI cI 40 cp), (q_6, AI cI 0 (flG (rtG 0 pl) 0))])) (fun _ => rfl) (fun r_10 u h_11 => ?_)
          subst h_11
          refine x_aload C dX5_rotate_67 4 rfl ?_
          refine x_calli (x_runV C hK hNW (c_m_lay1 l D tys cI cJ cA hI hJ hR yo (nI 0) ri yt ys yf yc co dn yd nw 0 g0 g1 bw bp k0 k1 cw cp q_6 0 (rtG 0 pl) (by first | omega | assumption) (by intro k hk; have hlt := rtG_lt (n := 0) (pl := pl) (z := k) (by omega); omega)) (cwV 2 C.2.2.2.2 gX5_rotate_X5_lay rfl rfl rfl (by decide +kernel) ⟨by decide, by decide⟩) [0, 1, 2, 3, 4, 5, 6, 7, 8] rfl (by decide) 0 5 rfl rfl rfl (st := []) rfl rfl (Nat.le_of_ble_eq_true rfl) dX5_rotate_69 ⟨by first | decide | omega | exact (show _ ≤ 3 by omega), by first | decide | omega | exact (show _ ≤ 120 by omega)⟩) hA [0, 1, 2, 3, 4, 5, 6, 7, 8] rfl [] [] rfl (by decide) (by decide) [0, 1, 2, 3, 4, 5, 6, 7, 8] (by decide) (wf := (fun (u : Unit) => [(yo, OB 5 [.int (nI 0), .int ri, .ref yt, .ref ys, .ref yf, .ref yc, .int (nI co), .int (nI dn), .ref yd]), (ys, AI cI 2 (sz2 nw 0)), (yf, AR cA 2 (gr2 g0 g1)), (g0, AI cI 40 bw), (g1, AI cI 40 (lyF bp (rtG 0 pl) 0)), (yc, AR cA 2 (gr2 k0 k1)), (k0, AI cI 40 cw), (k1, AI cI 40 (lyF cp (rtG 0 pl) 0)), (q_6, AI cI 0 (flG (rtG 0 pl) 0))])) (fun _ => rfl) (fun r_12 u h_13 => ?_)
          subst h_13
          refine x_ws [(yo, OB 5 [.int (nI 0), .int ri, .ref yt, .ref ys, .ref yf, .ref yc, .int (nI co), .int (nI dn), .ref yd]), (ys, AI cI 2 (sz2 nw 0)), (yf, AR cA 2 (gr2 g0 g1)), (g0, AI cI 40 bw), (g1, AI cI 40 bp), (yc, AR cA 2 (gr2 k0 k1)), (k0, AI cI 40 cw), (k1, AI cI 40 cp), (q_6, AI cI 0 (flG (rtG 0 pl) 0))] (by rw [lyF_0, lyF_0]) ?_
          refine x_iret C hK hlk hrt hQ hH0 hAA () ?_ [0, 1, 2, 3, 4, 5, 6, 7] (by decide) rfl (by first | decide | omega) (by first | decide | omega) dX5_rotate_72
          first | rfl | (exact ⟨rfl, rfl⟩) | trivial | assumption | omega
        ·
          exact False.elim (by omega)
    refine x_lv [(0, .ref yo), (1, .int (nI 0)), (2, .int (nI pl)), (3, .int (nI 0)), (4, .ref q_6), (5, .int (nI 0))] [3, 4, 5, 2, 1, 0] rfl ?_
    refine x_ws [(yo, OB 5 [.int (nI 0), .int ri, .ref yt, .ref ys, .ref yf, .ref yc, .int (nI co), .int (nI dn), .ref yd]), (ys, AI cI 2 (sz2 nw 0)), (yf, AR cA 2 (gr2 g0 g1)), (g0, AI cI 40 bw), (g1, AI cI 40 bp), (yc, AR cA 2 (gr2 k0 k1)), (k0, AI cI 40 cw), (k1, AI cI 40 cp), (q_6, AI cI 0 (rtP 0 pl 0))] (by rw [rtP_0]; try rfl) ?_
    exact K_7 (0 - 0 + 1) 0 (by first | assumption | omega) (Nat.lt_succ_self _)
  ·
    exact absurd ((bI_eq0 h_3).symm.trans ((below_n (j := pl) (b := 40 + 1) (by omega)).trans (decide_eq_true (by omega)))) (by decide)
abbrev rm_m_rotateA0 : Room := { frames := 2, cells := 3, slots := 120, locals := 39 }
set_option maxRecDepth 100000 in
set_option maxHeartbeats 4000000 in
theorem c_m_rotateA0 (l : Launch) (D : va_G) (tys : List (ClassId × FieldType)) (cI cJ cA : ClassId) (hI : tys[0]? = some (cI, .int)) (hJ : tys[1]? = some (cJ, .long)) (hR : tys[2]? = some (cA, .array .int)) (yo : Nat) (thr : Int32) (ri : Int32) (yt : Nat) (ys : Nat) (yf : Nat) (yc : Nat) (co : Nat) (dn : Nat) (yd : Nat) (nw : Nat) (np : Nat) (g0 : Nat) (g1 : Nat) (bw : Nat → Int32) (bp : Nat → Int32) (k0 : Nat) (k1 : Nat) (cw : Nat → Int32) (cp : Nat → Int32) (pl : Nat) (hnp : np ≤ 40) (hpl : pl ≤ 40) (h0 : 0 < np) (hm : 0 < pl % np) : MI l yX5_rotate wsX5_rotate rm_m_rotateA0 D tys [.ref yo, .int (nI 0), .int (nI pl)] [(yo, OB 5 [.int thr, .int ri, .ref yt, .ref ys, .ref yf, .ref yc, .int (nI co), .int (nI dn), .ref yd]), (ys, AI cI 2 (sz2 nw np)), (yf, AR cA 2 (gr2 g0 g1)), (g0, AI cI 40 bw), (g1, AI cI 40 bp), (yc, AR cA 2 (gr2 k0 k1)), (k0, AI cI 40 cw), (k1, AI cI 40 cp)] Unit (fun r (_ : Unit) => r = nI np) (fun (_ : Unit) => [(yo, OB 5 [.int (nI 0), .int ri, .ref yt, .ref ys, .ref yf, .ref yc, .int (nI co), .int (nI dn), .ref yd]), (ys, AI cI 2 (sz2 nw np)), (yf, AR cA 2 (gr2 g0 g1)), (g0, AI cI 40 bw), (g1, AI cI 40 (rvF (rvF (rvF bp 0 np) 0 (pl % np)) (pl % np) np)), (yc, AR cA 2 (gr2 k0 k1)), (k0, AI cI 40 cw), (k1, AI cI 40 (rvF (rvF (rvF cp 0 np) 0 (pl % np)) (pl % np) np))]) 3 120 := by
  intro sz
  refine x_met (cc := cX5_rotate) (maxL := 6) (ret := (some .int)) (by decide +kernel) rfl (by show _ ≤ _; simp [lg_sl, Value.category]) [(0, .ref yo), (1, .int (nI 0)), (2, .int (nI pl))] rfl ?_
  intro p e s m args below meth c Q A H0 C hK hNW hlk hrt hnm hQ hH0 hAA hA
  refine x_aload_n C dX5_rotate_0 rfl 0 rfl ?_
  refine x_iconst C (nI 0) dX5_rotate_1 (by decide +kernel) ?_
  refine x_put C hK in_X5_rotate_X5 tyX5 tyX5_ok nmX5 0 rfl rfl 0 (by decide) (by decide +kernel) rfl rfl (tyX5_ok 0 (by decide)) rfl rfl (Nat.le_of_ble_eq_true rfl) [(yo, OB 5 [.int (nI 0), .int ri, .ref yt, .ref ys, .ref yf, .ref yc, .int (nI co), .int (nI dn), .ref yd]), (ys, AI cI 2 (sz2 nw np)), (yf, AR cA 2 (gr2 g0 g1)), (g0, AI cI 40 bw), (g1, AI cI 40 bp), (yc, AR cA 2 (gr2 k0 k1)), (k0, AI cI 40 cw), (k1, AI cI 40 cp)] rfl dX5_rotate_2 ?_
  refine x_iload_n C dX5_rotate_5 rfl 2 rfl ?_
  refine x_iconst C (nI 0) dX5_rotate_6 (by decide +kernel) ?_
  refine x_bipush C (nI 40) dX5_rotate_7 (by decide +kernel) ?_
  refine x_calli (x_runS C hK hNW (c_m_isIn0 l D tys cI cJ cA hI hJ hR (nI pl) 40 (by first | omega | assumption)) (va_cwS 3 C.2.2.2.2 gX5_rotate_X5_isIn rfl rfl rfl (by decide +kernel) ⟨by decide, by decide⟩) [] rfl (by decide) (st := []) rfl rfl (Nat.le_of_ble_eq_true rfl) dX5_rotate_9 ⟨by first | decide | omega | exact (show _ ≤ 3 by omega), by first | decide | omega | exact (show _ ≤ 120 by omega)⟩) hA [] rfl [0, 1, 2, 3, 4, 5, 6, 7] [(yo, OB 5 [.int (nI 0), .int ri, .ref yt, .ref ys, .ref yf, .ref yc, .int (nI co), .int (nI dn), .ref yd]), (ys, AI cI 2 (sz2 nw np)), (yf, AR cA 2 (gr2 g0 g1)), (g0, AI cI 40 bw), (g1, AI cI 40 bp), (yc, AR cA 2 (gr2 k0 k1)), (k0, AI cI 40 cw), (k1, AI cI 40 cp)] rfl (by decide) (by decide) [0, 1, 2, 3, 4, 5, 6, 7] (by decide) (wf := (fun (u : Unit) => [(yo, OB 5 [.int (nI 0), .int ri, .ref yt, .ref ys, .ref yf, .ref yc, .int (nI co), .int (nI dn), .ref yd]), (ys, AI cI 2 (sz2 nw np)), (yf, AR cA 2 (gr2 g0 g1)), (g0, AI cI 40 bw), (g1, AI cI 40 bp), (yc, AR cA 2 (gr2 k0 k1)), (k0, AI cI 40 cw), (k1, AI cI 40 cp)])) (fun _ => rfl) (fun r_1 u h_2 => ?_)
  subst h_2
  refine x_if_ne C 21 dX5_rotate_12 (by decide) (fun h_3 => ?_) (fun h_3 => ?_)
  ·
    refine x_aload_n C dX5_rotate_21 rfl 0 rfl ?_
    refine x_get C hK in_X5_rotate_X5 0 rfl rfl 3 (by decide) (by decide +kernel) rfl rfl dX5_rotate_22 ?_
    refine x_iload_n C dX5_rotate_25 rfl 1 rfl ?_
    refine x_calli (x_runS C hK hNW (c_m_of0 l D tys cI cJ cA hI hJ hR  ) (va_cwS 1 C.2.2.2.2 gX5_rotate_X5_of rfl rfl rfl (by decide +kernel) ⟨by decide, by decide⟩) [] rfl (by decide) (st := [.ref ys]) rfl rfl (Nat.le_of_ble_eq_true rfl) dX5_rotate_26 ⟨by first | decide | omega | exact (show _ ≤ 3 by omega), by first | decide | omega | exact (show _ ≤ 120 by omega)⟩) hA [] rfl [0, 1, 2, 3, 4, 5, 6, 7] [(yo, OB 5 [.int (nI 0), .int ri, .ref yt, .ref ys, .ref yf, .ref yc, .int (nI co), .int (nI dn), .ref yd]), (ys, AI cI 2 (sz2 nw np)), (yf, AR cA 2 (gr2 g0 g1)), (g0, AI cI 40 bw), (g1, AI cI 40 bp), (yc, AR cA 2 (gr2 k0 k1)), (k0, AI cI 40 cw), (k1, AI cI 40 cp)] rfl (by decide) (by decide) [0, 1, 2, 3, 4, 5, 6, 7] (by decide) (wf := (fun (u : Unit) => [(yo, OB 5 [.int (nI 0), .int ri, .ref yt, .ref ys, .ref yf, .ref yc, .int (nI co), .int (nI dn), .ref yd]), (ys, AI cI 2 (sz2 nw np)), (yf, AR cA 2 (gr2 g0 g1)), (g0, AI cI 40 bw), (g1, AI cI 40 bp), (yc, AR cA 2 (gr2 k0 k1)), (k0, AI cI 40 cw), (k1, AI cI 40 cp)])) (fun _ => rfl) (fun r_4 u h_5 => ?_)
    subst h_5
    refine x_iald C hK 1 0 rfl hI (by omega) (by omega) dX5_rotate_29 ?_
    refine x_topi (nI np) rfl ?_
    refine x_istore_n C [(3, .int (nI np)), (0, .ref yo), (1, .int (nI 0)), (2, .int (nI pl))] dX5_rotate_30 rfl (by decide) rfl ?_
    refine x_iload_n C dX5_rotate_31 rfl 0 rfl ?_
    refine x_new_int C hK hA (by decide +kernel) 0 hI (by omega) (by first | decide | omega | exact (show _ ≤ 3 by omega)) (by first | decide | omega | exact (show _ ≤ 120 by omega)) dX5_rotate_32 (fun q_6 => ?_)
    refine x_widen 1 np (by first | decide | omega) (by first | decide | omega) ?_
    refine x_astore C [(4, .ref q_6), (3, .int (nI np)), (0, .ref yo), (1, .int (nI 0)), (2, .int (nI pl))] dX5_rotate_34 (by decide) rfl ?_
    refine x_iconst C (nI 0) dX5_rotate_36 (by decide +kernel) ?_
    refine x_istore C [(5, .int (nI 0)), (4, .ref q_6), (3, .int (nI np)), (0, .ref yo), (1, .int (nI 0)), (2, .int (nI pl))] dX5_rotate_37 (by decide) rfl ?_
    have K_7 : ∀ (fuel : Nat) (i : Nat), (i ≤ np) → np - i < fuel → X_ p l e rm_m_rotateA0 s m args below meth c Q D A H0 6 1 np [(yo, OB 5 [.int (nI 0), .int ri, .ref yt, .ref ys, .ref yf, .ref yc, .int (nI co), .int (nI dn), .ref yd]), (ys, AI cI 2 (sz2 nw np)), (yf, AR cA 2 (gr2 g0 g1)), (g0, AI cI 40 bw), (g1, AI cI 40 bp), (yc, AR cA 2 (gr2 k0 k1)), (k0, AI cI 40 cw), (k1, AI cI 40 cp), (q_6, AI cI np (rtP np pl i))] [(0, .ref yo), (1, .int (nI 0)), (2, .int (nI pl)), (3, .int (nI np)), (4, .ref q_6), (5, .int (nI i))] 39 [] := by
      intro fuel
      induction fuel with
      | zero =>
        intros
        exact absurd (by assumption) (Nat.not_lt_zero _)
      | succ fuel ih_K_7 =>
        intro i hi hm_8
        refine x_iload C dX5_rotate_39 5 rfl ?_
        refine x_iload_n C dX5_rotate_41 rfl 3 rfl ?_
        refine xn_icmp_ge C 62 (by omega) (by omega) dX5_rotate_42 (by decide) (fun h_9 => ?_) (fun h_9 => ?_)
        ·
          have heq_i : np = i := by omega
          subst heq_i
          refine x_ws [(yo, OB 5 [.int (nI 0), .int ri, .ref yt, .ref ys, .ref yf, .ref yc, .int (nI co), .int (nI dn), .ref yd]), (ys, AI cI 2 (sz2 nw np)), (yf, AR cA 2 (gr2 g0 g1)), (g0, AI cI 40 bw), (g1, AI cI 40 bp), (yc, AR cA 2 (gr2 k0 k1)), (k0, AI cI 40 cw), (k1, AI cI 40 cp), (q_6, AI cI np (flG (rtG np pl) np))] (by rw [rtP_e]) ?_
          refine x_aload_n C dX5_rotate_62 rfl 0 rfl ?_
          refine x_iload_n C dX5_rotate_63 rfl 1 rfl ?_
          refine x_calli (x_runS C hK hNW (c_m_of0 l D tys cI cJ cA hI hJ hR  ) (va_cwS 1 C.2.2.2.2 gX5_rotate_X5_of rfl rfl rfl (by decide +kernel) ⟨by decide, by decide⟩) [] rfl (by decide) (st := [.ref yo]) rfl rfl (Nat.le_of_ble_eq_true rfl) dX5_rotate_64 ⟨by first | decide | omega | exact (show _ ≤ 3 by omega), by first | decide | omega | exact (show _ ≤ 120 by omega)⟩) hA [] rfl [0, 1, 2, 3, 4, 5, 6, 7, 8] [(yo, OB 5 [.int (nI 0), .int ri, .ref yt, .ref ys, .ref yf, .ref yc, .int (nI co), .int (nI dn), .ref yd]), (ys, AI cI 2 (sz2 nw np)), (yf, AR cA 2 (gr2 g0 g1)), (g0, AI cI 40 bw), (g1, AI cI 40 bp), (yc, AR cA 2 (gr2 k0 k1)), (k0, AI cI 40 cw), (k1, AI cI 40 cp), (q_6, AI cI np (flG (rtG np pl) np))] rfl (by decide) (by decide) [0, 1, 2, 3, 4, 5, 6, 7, 8] (by decide) (wf := (fun (u : Unit) => [(yo, OB 5 [.int (nI 0), .int ri, .ref yt, .ref ys, .ref yf, .ref yc, .int (nI co), .int (nI dn), .ref yd]), (ys, AI cI 2 (sz2 nw np)), (yf, AR cA 2 (gr2 g0 g1)), (g0, AI cI 40 bw), (g1, AI cI 40 bp), (yc, AR cA 2 (gr2 k0 k1)), (k0, AI cI 40 cw), (k1, AI cI 40 cp), (q_6, AI cI np (flG (rtG np pl) np))])) (fun _ => rfl) (fun r_10 u h_11 => ?_)
          refine x_widen 1 (np + 0) (by first | decide | omega) (by first | decide | omega) ?_
          subst h_11
          refine x_aload C dX5_rotate_67 4 rfl ?_
          refine x_calli (x_runV C hK hNW (c_m_lay1 l D tys cI cJ cA hI hJ hR yo (nI 0) ri yt ys yf yc co dn yd nw np g0 g1 bw bp k0 k1 cw cp q_6 np (rtG np pl) (by first | omega | assumption) (by intro k hk; have hlt := rtG_lt (n := np) (pl := pl) (z := k) (by omega); omega)) (cwV 2 C.2.2.2.2 gX5_rotate_X5_lay rfl rfl rfl (by decide +kernel) ⟨by decide, by decide⟩) [0, 1, 2, 3, 4, 5, 6, 7, 8] rfl (by decide) 0 5 rfl rfl rfl (st := []) rfl rfl (Nat.le_of_ble_eq_true rfl) dX5_rotate_69 ⟨by first | decide | omega | exact (show _ ≤ 3 by omega), by first | decide | omega | exact (show _ ≤ 120 by omega)⟩) hA [0, 1, 2, 3, 4, 5, 6, 7, 8] rfl [] [] rfl (by decide) (by decide) [0, 1, 2, 3, 4, 5, 6, 7, 8] (by decide) (wf := (fun (u : Unit) => [(yo, OB 5 [.int (nI 0), .int ri, .ref yt, .ref ys, .ref yf, .ref yc, .int (nI co), .int (nI dn), .ref yd]), (ys, AI cI 2 (sz2 nw np)), (yf, AR cA 2 (gr2 g0 g1)), (g0, AI cI 40 bw), (g1, AI cI 40 (lyF bp (rtG np pl) np)), (yc, AR cA 2 (gr2 k0 k1)), (k0, AI cI 40 cw), (k1, AI cI 40 (lyF cp (rtG np pl) np)), (q_6, AI cI np (flG (rtG np pl) np))])) (fun _ => rfl) (fun r_12 u h_13 => ?_)
          refine x_widen 3 ((np + 0) + 80) (by first | decide | omega) (by first | decide | omega) ?_
          subst h_13
          refine x_ws [(yo, OB 5 [.int (nI 0), .int ri, .ref yt, .ref ys, .ref yf, .ref yc, .int (nI co), .int (nI dn), .ref yd]), (ys, AI cI 2 (sz2 nw np)), (yf, AR cA 2 (gr2 g0 g1)), (g0, AI cI 40 bw), (g1, AI cI 40 (rvF (rvF (rvF bp 0 np) 0 (pl % np)) (pl % np) np)), (yc, AR cA 2 (gr2 k0 k1)), (k0, AI cI 40 cw), (k1, AI cI 40 (rvF (rvF (rvF cp 0 np) 0 (pl % np)) (pl % np) np)), (q_6, AI cI np (flG (rtG np pl) np))] (by rw [rv3 hm h0, rv3 hm h0]) ?_
          refine x_iret C hK hlk hrt hQ hH0 hAA () ?_ [0, 1, 2, 3, 4, 5, 6, 7] (by decide) rfl (by first | decide | omega) (by first | decide | omega) dX5_rotate_72
          first | rfl | (exact ⟨rfl, rfl⟩) | trivial | assumption | omega
        ·
          have hmo := Nat.mod_lt (i + pl) (show 0 < np by omega)
          refine x_aload C dX5_rotate_45 4 rfl ?_
          refine x_iload C dX5_rotate_47 5 rfl ?_
          refine x_iload_n C dX5_rotate_49 rfl 2 rfl ?_
          refine xn_iadd C dX5_rotate_50 ?_
          refine x_iload_n C dX5_rotate_51 rfl 3 rfl ?_
          refine xn_irem C (by omega) (by omega) (by omega) dX5_rotate_52 ?_
          refine x_iload C dX5_rotate_53 5 rfl ?_
          refine x_iast C hK 8 0 rfl hI (by omega) (by omega) [(yo, OB 5 [.int (nI 0), .int ri, .ref yt, .ref ys, .ref yf, .ref yc, .int (nI co), .int (nI dn), .ref yd]), (ys, AI cI 2 (sz2 nw np)), (yf, AR cA 2 (gr2 g0 g1)), (g0, AI cI 40 bw), (g1, AI cI 40 bp), (yc, AR cA 2 (gr2 k0 k1)), (k0, AI cI 40 cw), (k1, AI cI 40 cp), (q_6, AI cI np (upd (rtP np pl i) ((i + pl) % np) (nI i)))] rfl dX5_rotate_55 ?_
          refine xn_iinc C (i + 1) [(5, .int (nI (i + 1))), (0, .ref yo), (1, .int (nI 0)), (2, .int (nI pl)), (3, .int (nI np)), (4, .ref q_6)] dX5_rotate_56 5 rfl (by rw [show Int32.ofInt 1 = nI 1 from by decide +kernel]; exact nI_add _ _) (by decide) rfl ?_
          refine x_goto C 39 dX5_rotate_59 (by decide) ?_
          refine x_lv [(0, .ref yo), (1, .int (nI 0)), (2, .int (nI pl)), (3, .int (nI np)), (4, .ref q_6), (5, .int (nI (i + 1)))] [1, 2, 3, 4, 5, 0] rfl ?_
          refine x_ws [(yo, OB 5 [.int (nI 0), .int ri, .ref yt, .ref ys, .ref yf, .ref yc, .int (nI co), .int (nI dn), .ref yd]), (ys, AI cI 2 (sz2 nw np)), (yf, AR cA 2 (gr2 g0 g1)), (g0, AI cI 40 bw), (g1, AI cI 40 bp), (yc, AR cA 2 (gr2 k0 k1)), (k0, AI cI 40 cw), (k1, AI cI 40 cp), (q_6, AI cI np (rtP np pl (i + 1)))] (by rw [rtP_s (by omega)]; try rfl) ?_
          exact ih_K_7 (i + 1) (by first | assumption | omega) (by omega)
    refine x_lv [(0, .ref yo), (1, .int (nI 0)), (2, .int (nI pl)), (3, .int (nI np)), (4, .ref q_6), (5, .int (nI 0))] [3, 4, 5, 2, 1, 0] rfl ?_
    refine x_ws [(yo, OB 5 [.int (nI 0), .int ri, .ref yt, .ref ys, .ref yf, .ref yc, .int (nI co), .int (nI dn), .ref yd]), (ys, AI cI 2 (sz2 nw np)), (yf, AR cA 2 (gr2 g0 g1)), (g0, AI cI 40 bw), (g1, AI cI 40 bp), (yc, AR cA 2 (gr2 k0 k1)), (k0, AI cI 40 cw), (k1, AI cI 40 cp), (q_6, AI cI np (rtP np pl 0))] (by rw [rtP_0]; try rfl) ?_
    exact K_7 (np - 0 + 1) 0 (by first | assumption | omega) (Nat.lt_succ_self _)
  ·
    exact absurd ((bI_eq0 h_3).symm.trans ((below_n (j := pl) (b := 40 + 1) (by omega)).trans (decide_eq_true (by omega)))) (by decide)
abbrev rm_m_rotateB0 : Room := { frames := 2, cells := 3, slots := 120, locals := 39 }
set_option maxRecDepth 100000 in
set_option maxHeartbeats 4000000 in
theorem c_m_rotateB0 (l : Launch) (D : va_G) (tys : List (ClassId × FieldType)) (cI cJ cA : ClassId) (hI : tys[0]? = some (cI, .int)) (hJ : tys[1]? = some (cJ, .long)) (hR : tys[2]? = some (cA, .array .int)) (yo : Nat) (thr : Int32) (ri : Int32) (yt : Nat) (ys : Nat) (yf : Nat) (yc : Nat) (co : Nat) (dn : Nat) (yd : Nat) (nw : Nat) (np : Nat) (g0 : Nat) (g1 : Nat) (bw : Nat → Int32) (bp : Nat → Int32) (k0 : Nat) (k1 : Nat) (cw : Nat → Int32) (cp : Nat → Int32) (pl : Nat) (hnp : np ≤ 40) (hpl : pl ≤ 40) (h0 : 0 < np) (hm : pl % np = 0) : MI l yX5_rotate wsX5_rotate rm_m_rotateB0 D tys [.ref yo, .int (nI 0), .int (nI pl)] [(yo, OB 5 [.int thr, .int ri, .ref yt, .ref ys, .ref yf, .ref yc, .int (nI co), .int (nI dn), .ref yd]), (ys, AI cI 2 (sz2 nw np)), (yf, AR cA 2 (gr2 g0 g1)), (g0, AI cI 40 bw), (g1, AI cI 40 bp), (yc, AR cA 2 (gr2 k0 k1)), (k0, AI cI 40 cw), (k1, AI cI 40 cp)] Unit (fun r (_ : Unit) => r = nI np) (fun (_ : Unit) => [(yo, OB 5 [.int (nI 0), .int ri, .ref yt, .ref ys, .ref yf, .ref yc, .int (nI co), .int (nI dn), .ref yd]), (ys, AI cI 2 (sz2 nw np)), (yf, AR cA 2 (gr2 g0 g1)), (g0, AI cI 40 bw), (g1, AI cI 40 (rvF (rvF bp 0 np) 0 np)), (yc, AR cA 2 (gr2 k0 k1)), (k0, AI cI 40 cw), (k1, AI cI 40 (rvF (rvF cp 0 np) 0 np))]) 3 120 := by
  intro sz
  refine x_met (cc := cX5_rotate) (maxL := 6) (ret := (some .int)) (by decide +kernel) rfl (by show _ ≤ _; simp [lg_sl, Value.category]) [(0, .ref yo), (1, .int (nI 0)), (2, .int (nI pl))] rfl ?_
  intro p e s m args below meth c Q A H0 C hK hNW hlk hrt hnm hQ hH0 hAA hA
  refine x_aload_n C dX5_rotate_0 rfl 0 rfl ?_
  refine x_iconst C (nI 0) dX5_rotate_1 (by decide +kernel) ?_
  refine x_put C hK in_X5_rotate_X5 tyX5 tyX5_ok nmX5 0 rfl rfl 0 (by decide) (by decide +kernel) rfl rfl (tyX5_ok 0 (by decide)) rfl rfl (Nat.le_of_ble_eq_true rfl) [(yo, OB 5 [.int (nI 0), .int ri, .ref yt, .ref ys, .ref yf, .ref yc, .int (nI co), .int (nI dn), .ref yd]), (ys, AI cI 2 (sz2 nw np)), (yf, AR cA 2 (gr2 g0 g1)), (g0, AI cI 40 bw), (g1, AI cI 40 bp), (yc, AR cA 2 (gr2 k0 k1)), (k0, AI cI 40 cw), (k1, AI cI 40 cp)] rfl dX5_rotate_2 ?_
  refine x_iload_n C dX5_rotate_5 rfl 2 rfl ?_
  refine x_iconst C (nI 0) dX5_rotate_6 (by decide +kernel) ?_
  refine x_bipush C (nI 40) dX5_rotate_7 (by decide +kernel) ?_
  refine x_calli (x_runS C hK hNW (c_m_isIn0 l D tys cI cJ cA hI hJ hR (nI pl) 40 (by first | omega | assumption)) (va_cwS 3 C.2.2.2.2 gX5_rotate_X5_isIn rfl rfl rfl (by decide +kernel) ⟨by decide, by decide⟩) [] rfl (by decide) (st := []) rfl rfl (Nat.le_of_ble_eq_true rfl) dX5_rotate_9 ⟨by first | decide | omega | exact (show _ ≤ 3 by omega), by first | decide | omega | exact (show _ ≤ 120 by omega)⟩) hA [] rfl [0, 1, 2, 3, 4, 5, 6, 7] [(yo, OB 5 [.int (nI 0), .int ri, .ref yt, .ref ys, .ref yf, .ref yc, .int (nI co), .int (nI dn), .ref yd]), (ys, AI cI 2 (sz2 nw np)), (yf, AR cA 2 (gr2 g0 g1)), (g0, AI cI 40 bw), (g1, AI cI 40 bp), (yc, AR cA 2 (gr2 k0 k1)), (k0, AI cI 40 cw), (k1, AI cI 40 cp)] rfl (by decide) (by decide) [0, 1, 2, 3, 4, 5, 6, 7] (by decide) (wf := (fun (u : Unit) => [(yo, OB 5 [.int (nI 0), .int ri, .ref yt, .ref ys, .ref yf, .ref yc, .int (nI co), .int (nI dn), .ref yd]), (ys, AI cI 2 (sz2 nw np)), (yf, AR cA 2 (gr2 g0 g1)), (g0, AI cI 40 bw), (g1, AI cI 40 bp), (yc, AR cA 2 (gr2 k0 k1)), (k0, AI cI 40 cw), (k1, AI cI 40 cp)])) (fun _ => rfl) (fun r_1 u h_2 => ?_)
  subst h_2
  refine x_if_ne C 21 dX5_rotate_12 (by decide) (fun h_3 => ?_) (fun h_3 => ?_)
  ·
    refine x_aload_n C dX5_rotate_21 rfl 0 rfl ?_
    refine x_get C hK in_X5_rotate_X5 0 rfl rfl 3 (by decide) (by decide +kernel) rfl rfl dX5_rotate_22 ?_
    refine x_iload_n C dX5_rotate_25 rfl 1 rfl ?_
    refine x_calli (x_runS C hK hNW (c_m_of0 l D tys cI cJ cA hI hJ hR  ) (va_cwS 1 C.2.2.2.2 gX5_rotate_X5_of rfl rfl rfl (by decide +kernel) ⟨by decide, by decide⟩) [] rfl (by decide) (st := [.ref ys]) rfl rfl (Nat.le_of_ble_eq_true rfl) dX5_rotate_26 ⟨by first | decide | omega | exact (show _ ≤ 3 by omega), by first | decide | omega | exact (show _ ≤ 120 by omega)⟩) hA [] rfl [0, 1, 2, 3, 4, 5, 6, 7] [(yo, OB 5 [.int (nI 0), .int ri, .ref yt, .ref ys, .ref yf, .ref yc, .int (nI co), .int (nI dn), .ref yd]), (ys, AI cI 2 (sz2 nw np)), (yf, AR cA 2 (gr2 g0 g1)), (g0, AI cI 40 bw), (g1, AI cI 40 bp), (yc, AR cA 2 (gr2 k0 k1)), (k0, AI cI 40 cw), (k1, AI cI 40 cp)] rfl (by decide) (by decide) [0, 1, 2, 3, 4, 5, 6, 7] (by decide) (wf := (fun (u : Unit) => [(yo, OB 5 [.int (nI 0), .int ri, .ref yt, .ref ys, .ref yf, .ref yc, .int (nI co), .int (nI dn), .ref yd]), (ys, AI cI 2 (sz2 nw np)), (yf, AR cA 2 (gr2 g0 g1)), (g0, AI cI 40 bw), (g1, AI cI 40 bp), (yc, AR cA 2 (gr2 k0 k1)), (k0, AI cI 40 cw), (k1, AI cI 40 cp)])) (fun _ => rfl) (fun r_4 u h_5 => ?_)
    subst h_5
    refine x_iald C hK 1 0 rfl hI (by omega) (by omega) dX5_rotate_29 ?_
    refine x_topi (nI np) rfl ?_
    refine x_istore_n C [(3, .int (nI np)), (0, .ref yo), (1, .int (nI 0)), (2, .int (nI pl))] dX5_rotate_30 rfl (by decide) rfl ?_
    refine x_iload_n C dX5_rotate_31 rfl 0 rfl ?_
    refine x_new_int C hK hA (by decide +kernel) 0 hI (by omega) (by first | decide | omega | exact (show _ ≤ 3 by omega)) (by first | decide | omega | exact (show _ ≤ 120 by omega)) dX5_rotate_32 (fun q_6 => ?_)
    refine x_widen 1 np (by first | decide | omega) (by first | decide | omega) ?_
    refine x_astore C [(4, .ref q_6), (3, .int (nI np)), (0, .ref yo), (1, .int (nI 0)), (2, .int (nI pl))] dX5_rotate_34 (by decide) rfl ?_
    refine x_iconst C (nI 0) dX5_rotate_36 (by decide +kernel) ?_
    refine x_istore C [(5, .int (nI 0)), (4, .ref q_6), (3, .int (nI np)), (0, .ref yo), (1, .int (nI 0)), (2, .int (nI pl))] dX5_rotate_37 (by decide) rfl ?_
    have K_7 : ∀ (fuel : Nat) (i : Nat), (i ≤ np) → np - i < fuel → X_ p l e rm_m_rotateB0 s m args below meth c Q D A H0 6 1 np [(yo, OB 5 [.int (nI 0), .int ri, .ref yt, .ref ys, .ref yf, .ref yc, .int (nI co), .int (nI dn), .ref yd]), (ys, AI cI 2 (sz2 nw np)), (yf, AR cA 2 (gr2 g0 g1)), (g0, AI cI 40 bw), (g1, AI cI 40 bp), (yc, AR cA 2 (gr2 k0 k1)), (k0, AI cI 40 cw), (k1, AI cI 40 cp), (q_6, AI cI np (rtP np pl i))] [(0, .ref yo), (1, .int (nI 0)), (2, .int (nI pl)), (3, .int (nI np)), (4, .ref q_6), (5, .int (nI i))] 39 [] := by
      intro fuel
      induction fuel with
      | zero =>
        intros
        exact absurd (by assumption) (Nat.not_lt_zero _)
      | succ fuel ih_K_7 =>
        intro i hi hm_8
        refine x_iload C dX5_rotate_39 5 rfl ?_
        refine x_iload_n C dX5_rotate_41 rfl 3 rfl ?_
        refine xn_icmp_ge C 62 (by omega) (by omega) dX5_rotate_42 (by decide) (fun h_9 => ?_) (fun h_9 => ?_)
        ·
          have heq_i : np = i := by omega
          subst heq_i
          refine x_ws [(yo, OB 5 [.int (nI 0), .int ri, .ref yt, .ref ys, .ref yf, .ref yc, .int (nI co), .int (nI dn), .ref yd]), (ys, AI cI 2 (sz2 nw np)), (yf, AR cA 2 (gr2 g0 g1)), (g0, AI cI 40 bw), (g1, AI cI 40 bp), (yc, AR cA 2 (gr2 k0 k1)), (k0, AI cI 40 cw), (k1, AI cI 40 cp), (q_6, AI cI np (flG (rtG np pl) np))] (by rw [rtP_e]) ?_
          refine x_aload_n C dX5_rotate_62 rfl 0 rfl ?_
          refine x_iload_n C dX5_rotate_63 rfl 1 rfl ?_
          refine x_calli (x_runS C hK hNW (c_m_of0 l D tys cI cJ cA hI hJ hR  ) (va_cwS 1 C.2.2.2.2 gX5_rotate_X5_of rfl rfl rfl (by decide +kernel) ⟨by decide, by decide⟩) [] rfl (by decide) (st := [.ref yo]) rfl rfl (Nat.le_of_ble_eq_true rfl) dX5_rotate_64 ⟨by first | decide | omega | exact (show _ ≤ 3 by omega), by first | decide | omega | exact (show _ ≤ 120 by omega)⟩) hA [] rfl [0, 1, 2, 3, 4, 5, 6, 7, 8] [(yo, OB 5 [.int (nI 0), .int ri, .ref yt, .ref ys, .ref yf, .ref yc, .int (nI co), .int (nI dn), .ref yd]), (ys, AI cI 2 (sz2 nw np)), (yf, AR cA 2 (gr2 g0 g1)), (g0, AI cI 40 bw), (g1, AI cI 40 bp), (yc, AR cA 2 (gr2 k0 k1)), (k0, AI cI 40 cw), (k1, AI cI 40 cp), (q_6, AI cI np (flG (rtG np pl) np))] rfl (by decide) (by decide) [0, 1, 2, 3, 4, 5, 6, 7, 8] (by decide) (wf := (fun (u : Unit) => [(yo, OB 5 [.int (nI 0), .int ri, .ref yt, .ref ys, .ref yf, .ref yc, .int (nI co), .int (nI dn), .ref yd]), (ys, AI cI 2 (sz2 nw np)), (yf, AR cA 2 (gr2 g0 g1)), (g0, AI cI 40 bw), (g1, AI cI 40 bp), (yc, AR cA 2 (gr2 k0 k1)), (k0, AI cI 40 cw), (k1, AI cI 40 cp), (q_6, AI cI np (flG (rtG np pl) np))])) (fun _ => rfl) (fun r_10 u h_11 => ?_)
          refine x_widen 1 (np + 0) (by first | decide | omega) (by first | decide | omega) ?_
          subst h_11
          refine x_aload C dX5_rotate_67 4 rfl ?_
          refine x_calli (x_runV C hK hNW (c_m_lay1 l D tys cI cJ cA hI hJ hR yo (nI 0) ri yt ys yf yc co dn yd nw np g0 g1 bw bp k0 k1 cw cp q_6 np (rtG np pl) (by first | omega | assumption) (by intro k hk; have hlt := rtG_lt (n := np) (pl := pl) (z := k) (by omega); omega)) (cwV 2 C.2.2.2.2 gX5_rotate_X5_lay rfl rfl rfl (by decide +kernel) ⟨by decide, by decide⟩) [0, 1, 2, 3, 4, 5, 6, 7, 8] rfl (by decide) 0 5 rfl rfl rfl (st := []) rfl rfl (Nat.le_of_ble_eq_true rfl) dX5_rotate_69 ⟨by first | decide | omega | exact (show _ ≤ 3 by omega), by first | decide | omega | exact (show _ ≤ 120 by omega)⟩) hA [0, 1, 2, 3, 4, 5, 6, 7, 8] rfl [] [] rfl (by decide) (by decide) [0, 1, 2, 3, 4, 5, 6, 7, 8] (by decide) (wf := (fun (u : Unit) => [(yo, OB 5 [.int (nI 0), .int ri, .ref yt, .ref ys, .ref yf, .ref yc, .int (nI co), .int (nI dn), .ref yd]), (ys, AI cI 2 (sz2 nw np)), (yf, AR cA 2 (gr2 g0 g1)), (g0, AI cI 40 bw), (g1, AI cI 40 (lyF bp (rtG np pl) np)), (yc, AR cA 2 (gr2 k0 k1)), (k0, AI cI 40 cw), (k1, AI cI 40 (lyF cp (rtG np pl) np)), (q_6, AI cI np (flG (rtG np pl) np))])) (fun _ => rfl) (fun r_12 u h_13 => ?_)
          refine x_widen 3 ((np + 0) + 80) (by first | decide | omega) (by first | decide | omega) ?_
          subst h_13
          refine x_ws [(yo, OB 5 [.int (nI 0), .int ri, .ref yt, .ref ys, .ref yf, .ref yc, .int (nI co), .int (nI dn), .ref yd]), (ys, AI cI 2 (sz2 nw np)), (yf, AR cA 2 (gr2 g0 g1)), (g0, AI cI 40 bw), (g1, AI cI 40 (rvF (rvF bp 0 np) 0 np)), (yc, AR cA 2 (gr2 k0 k1)), (k0, AI cI 40 cw), (k1, AI cI 40 (rvF (rvF cp 0 np) 0 np)), (q_6, AI cI np (flG (rtG np pl) np))] (by rw [rv2 hm h0, rv2 hm h0]) ?_
          refine x_iret C hK hlk hrt hQ hH0 hAA () ?_ [0, 1, 2, 3, 4, 5, 6, 7] (by decide) rfl (by first | decide | omega) (by first | decide | omega) dX5_rotate_72
          first | rfl | (exact ⟨rfl, rfl⟩) | trivial | assumption | omega
        ·
          have hmo := Nat.mod_lt (i + pl) (show 0 < np by omega)
          refine x_aload C dX5_rotate_45 4 rfl ?_
          refine x_iload C dX5_rotate_47 5 rfl ?_
          refine x_iload_n C dX5_rotate_49 rfl 2 rfl ?_
          refine xn_iadd C dX5_rotate_50 ?_
          refine x_iload_n C dX5_rotate_51 rfl 3 rfl ?_
          refine xn_irem C (by omega) (by omega) (by omega) dX5_rotate_52 ?_
          refine x_iload C dX5_rotate_53 5 rfl ?_
          refine x_iast C hK 8 0 rfl hI (by omega) (by omega) [(yo, OB 5 [.int (nI 0), .int ri, .ref yt, .ref ys, .ref yf, .ref yc, .int (nI co), .int (nI dn), .ref yd]), (ys, AI cI 2 (sz2 nw np)), (yf, AR cA 2 (gr2 g0 g1)), (g0, AI cI 40 bw), (g1, AI cI 40 bp), (yc, AR cA 2 (gr2 k0 k1)), (k0, AI cI 40 cw), (k1, AI cI 40 cp), (q_6, AI cI np (upd (rtP np pl i) ((i + pl) % np) (nI i)))] rfl dX5_rotate_55 ?_
          refine xn_iinc C (i + 1) [(5, .int (nI (i + 1))), (0, .ref yo), (1, .int (nI 0)), (2, .int (nI pl)), (3, .int (nI np)), (4, .ref q_6)] dX5_rotate_56 5 rfl (by rw [show Int32.ofInt 1 = nI 1 from by decide +kernel]; exact nI_add _ _) (by decide) rfl ?_
          refine x_goto C 39 dX5_rotate_59 (by decide) ?_
          refine x_lv [(0, .ref yo), (1, .int (nI 0)), (2, .int (nI pl)), (3, .int (nI np)), (4, .ref q_6), (5, .int (nI (i + 1)))] [1, 2, 3, 4, 5, 0] rfl ?_
          refine x_ws [(yo, OB 5 [.int (nI 0), .int ri, .ref yt, .ref ys, .ref yf, .ref yc, .int (nI co), .int (nI dn), .ref yd]), (ys, AI cI 2 (sz2 nw np)), (yf, AR cA 2 (gr2 g0 g1)), (g0, AI cI 40 bw), (g1, AI cI 40 bp), (yc, AR cA 2 (gr2 k0 k1)), (k0, AI cI 40 cw), (k1, AI cI 40 cp), (q_6, AI cI np (rtP np pl (i + 1)))] (by rw [rtP_s (by omega)]; try rfl) ?_
          exact ih_K_7 (i + 1) (by first | assumption | omega) (by omega)
    refine x_lv [(0, .ref yo), (1, .int (nI 0)), (2, .int (nI pl)), (3, .int (nI np)), (4, .ref q_6), (5, .int (nI 0))] [3, 4, 5, 2, 1, 0] rfl ?_
    refine x_ws [(yo, OB 5 [.int (nI 0), .int ri, .ref yt, .ref ys, .ref yf, .ref yc, .int (nI co), .int (nI dn), .ref yd]), (ys, AI cI 2 (sz2 nw np)), (yf, AR cA 2 (gr2 g0 g1)), (g0, AI cI 40 bw), (g1, AI cI 40 bp), (yc, AR cA 2 (gr2 k0 k1)), (k0, AI cI 40 cw), (k1, AI cI 40 cp), (q_6, AI cI np (rtP np pl 0))] (by rw [rtP_0]; try rfl) ?_
    exact K_7 (np - 0 + 1) 0 (by first | assumption | omega) (Nat.lt_succ_self _)
  ·
    exact absurd ((bI_eq0 h_3).symm.trans ((below_n (j := pl) (b := 40 + 1) (by omega)).trans (decide_eq_true (by omega)))) (by decide)
abbrev rm_m_rotateX : Room := { frames := 1, cells := 0, slots := 0, locals := 22 }
set_option maxRecDepth 100000 in
set_option maxHeartbeats 4000000 in
theorem c_m_rotateX (l : Launch) (D : va_G) (tys : List (ClassId × FieldType)) (cI cJ cA : ClassId) (hI : tys[0]? = some (cI, .int)) (hJ : tys[1]? = some (cJ, .long)) (hR : tys[2]? = some (cA, .array .int)) (yo : Nat) (thr : Int32) (ri : Int32) (yt : Nat) (ys : Nat) (yf : Nat) (yc : Nat) (co : Nat) (dn : Nat) (yd : Nat) (w0 : Int32) (pl : Int32) (hpl : below pl 41 = false) : MI l yX5_rotate wsX5_rotate rm_m_rotateX D tys [.ref yo, .int w0, .int pl] [(yo, OB 5 [.int thr, .int ri, .ref yt, .ref ys, .ref yf, .ref yc, .int (nI co), .int (nI dn), .ref yd])] Unit (fun r (_ : Unit) => r = nI 0) (fun (_ : Unit) => [(yo, OB 5 [.int (nI 1), .int ri, .ref yt, .ref ys, .ref yf, .ref yc, .int (nI co), .int (nI dn), .ref yd])]) 0 0 := by
  intro sz
  refine x_met (cc := cX5_rotate) (maxL := 6) (ret := (some .int)) (by decide +kernel) rfl (by show _ ≤ _; simp [lg_sl, Value.category]) [(0, .ref yo), (1, .int w0), (2, .int pl)] rfl ?_
  intro p e s m args below meth c Q A H0 C hK hNW hlk hrt hnm hQ hH0 hAA hA
  refine x_aload_n C dX5_rotate_0 rfl 0 rfl ?_
  refine x_iconst C (nI 0) dX5_rotate_1 (by decide +kernel) ?_
  refine x_put C hK in_X5_rotate_X5 tyX5 tyX5_ok nmX5 0 rfl rfl 0 (by decide) (by decide +kernel) rfl rfl (tyX5_ok 0 (by decide)) rfl rfl (Nat.le_of_ble_eq_true rfl) [(yo, OB 5 [.int (nI 0), .int ri, .ref yt, .ref ys, .ref yf, .ref yc, .int (nI co), .int (nI dn), .ref yd])] rfl dX5_rotate_2 ?_
  refine x_iload_n C dX5_rotate_5 rfl 2 rfl ?_
  refine x_iconst C (nI 0) dX5_rotate_6 (by decide +kernel) ?_
  refine x_bipush C (nI 40) dX5_rotate_7 (by decide +kernel) ?_
  refine x_calli (x_runS C hK hNW (c_m_isIn0 l D tys cI cJ cA hI hJ hR pl 40 (by first | omega | assumption)) (va_cwS 3 C.2.2.2.2 gX5_rotate_X5_isIn rfl rfl rfl (by decide +kernel) ⟨by decide, by decide⟩) [] rfl (by decide) (st := []) rfl rfl (Nat.le_of_ble_eq_true rfl) dX5_rotate_9 ⟨by first | decide | omega | exact (show _ ≤ 0 by omega), by first | decide | omega | exact (show _ ≤ 0 by omega)⟩) hA [] rfl [0] [(yo, OB 5 [.int (nI 0), .int ri, .ref yt, .ref ys, .ref yf, .ref yc, .int (nI co), .int (nI dn), .ref yd])] rfl (by decide) (by decide) [0] (by decide) (wf := (fun (u : Unit) => [(yo, OB 5 [.int (nI 0), .int ri, .ref yt, .ref ys, .ref yf, .ref yc, .int (nI co), .int (nI dn), .ref yd])])) (fun _ => rfl) (fun r_1 u h_2 => ?_)
  subst h_2
  refine x_if_ne C 21 dX5_rotate_12 (by decide) (fun h_3 => ?_) (fun h_3 => ?_)
  ·
    exact absurd ((bI_ne0 h_3).symm.trans hpl) (by decide)
  ·
    refine x_aload_n C dX5_rotate_15 rfl 0 rfl ?_
    refine x_iconst C (nI 1) dX5_rotate_16 (by decide +kernel) ?_
    refine x_calli (x_runV C hK hNW (c_m_fail l D tys cI cJ cA hI hJ hR yo (nI 0) ri yt ys yf yc co dn yd 1 ) (cwV 1 C.2.2.2.2 gX5_rotate_X5_fail rfl rfl rfl (by decide +kernel) ⟨by decide, by decide⟩) [0] rfl (by decide) 0 5 rfl rfl rfl (st := []) rfl rfl (Nat.le_of_ble_eq_true rfl) dX5_rotate_17 ⟨by first | decide | omega | exact (show _ ≤ 0 by omega), by first | decide | omega | exact (show _ ≤ 0 by omega)⟩) hA [0] rfl [] [] rfl (by decide) (by decide) [0] (by decide) (wf := (fun (u : Unit) => [(yo, OB 5 [.int (nI 1), .int ri, .ref yt, .ref ys, .ref yf, .ref yc, .int (nI co), .int (nI dn), .ref yd])])) (fun _ => rfl) (fun r_4 u h_5 => ?_)
    subst h_5
    refine x_iret C hK hlk hrt hQ hH0 hAA () ?_ [0] (by decide) rfl (by first | decide | omega) (by first | decide | omega) dX5_rotate_20
    first | rfl | (exact ⟨rfl, rfl⟩) | trivial | assumption | omega
abbrev rm_m_repeat1 : Room := { frames := 2, cells := 3, slots := 120, locals := 39 }
set_option maxRecDepth 100000 in
set_option maxHeartbeats 4000000 in
theorem c_m_repeat1 (l : Launch) (D : va_G) (tys : List (ClassId × FieldType)) (cI cJ cA : ClassId) (hI : tys[0]? = some (cI, .int)) (hJ : tys[1]? = some (cJ, .long)) (hR : tys[2]? = some (cA, .array .int)) (yo : Nat) (thr : Int32) (ri : Int32) (yt : Nat) (ys : Nat) (yf : Nat) (yc : Nat) (co : Nat) (dn : Nat) (yd : Nat) (nw : Nat) (np : Nat) (g0 : Nat) (g1 : Nat) (bw : Nat → Int32) (bp : Nat → Int32) (k0 : Nat) (k1 : Nat) (cw : Nat → Int32) (cp : Nat → Int32) (h2 : 2 * nw ≤ 40) : MI l yX5_repeat wsX5_repeat rm_m_repeat1 D tys [.ref yo, .int (nI 1)] [(yo, OB 5 [.int thr, .int ri, .ref yt, .ref ys, .ref yf, .ref yc, .int (nI co), .int (nI dn), .ref yd]), (ys, AI cI 2 (sz2 nw np)), (yf, AR cA 2 (gr2 g0 g1)), (g0, AI cI 40 bw), (g1, AI cI 40 bp), (yc, AR cA 2 (gr2 k0 k1)), (k0, AI cI 40 cw), (k1, AI cI 40 cp)] Unit (fun r (_ : Unit) => r = nI (nw + nw)) (fun (_ : Unit) => [(yo, OB 5 [.int (nI 0), .int ri, .ref yt, .ref ys, .ref yf, .ref yc, .int (nI co), .int (nI dn), .ref yd]), (ys, AI cI 2 (sz2 (nw + nw) np)), (yf, AR cA 2 (gr2 g0 g1)), (g0, AI cI 40 (rpF bw nw nw)), (g1, AI cI 40 bp), (yc, AR cA 2 (gr2 k0 k1)), (k0, AI cI 40 (rpF cw nw nw)), (k1, AI cI 40 cp)]) 3 120 := by
  intro sz
  refine x_met (cc := cX5_repeat) (maxL := 5) (ret := (some .int)) (by decide +kernel) rfl (by show _ ≤ _; simp [lg_sl, Value.category]) [(0, .ref yo), (1, .int (nI 1))] rfl ?_
  intro p e s m args below meth c Q A H0 C hK hNW hlk hrt hnm hQ hH0 hAA hA
  refine x_aload_n C dX5_repeat_0 rfl 0 rfl ?_
  refine x_iconst C (nI 0) dX5_repeat_1 (by decide +kernel) ?_
  refine x_put C hK in_X5_repeat_X5 tyX5 tyX5_ok nmX5 0 rfl rfl 0 (by decide) (by decide +kernel) rfl rfl (tyX5_ok 0 (by decide)) rfl rfl (Nat.le_of_ble_eq_true rfl) [(yo, OB 5 [.int (nI 0), .int ri, .ref yt, .ref ys, .ref yf, .ref yc, .int (nI co), .int (nI dn), .ref yd]), (ys, AI cI 2 (sz2 nw np)), (yf, AR cA 2 (gr2 g0 g1)), (g0, AI cI 40 bw), (g1, AI cI 40 bp), (yc, AR cA 2 (gr2 k0 k1)), (k0, AI cI 40 cw), (k1, AI cI 40 cp)] rfl dX5_repeat_2 ?_
  refine x_aload_n C dX5_repeat_5 rfl 0 rfl ?_
  refine x_get C hK in_X5_repeat_X5 0 rfl rfl 3 (by decide) (by decide +kernel) rfl rfl dX5_repeat_6 ?_
  refine x_iload_n C dX5_repeat_9 rfl 1 rfl ?_
  refine x_calli (x_runS C hK hNW (c_m_of1 l D tys cI cJ cA hI hJ hR  ) (va_cwS 1 C.2.2.2.2 gX5_repeat_X5_of rfl rfl rfl (by decide +kernel) ⟨by decide, by decide⟩) [] rfl (by decide) (st := [.ref ys]) rfl rfl (Nat.le_of_ble_eq_true rfl) dX5_repeat_10 ⟨by first | decide | omega | exact (show _ ≤ 3 by omega), by first | decide | omega | exact (show _ ≤ 120 by omega)⟩) hA [] rfl [0, 1, 2, 3, 4, 5, 6, 7] [(yo, OB 5 [.int (nI 0), .int ri, .ref yt, .ref ys, .ref yf, .ref yc, .int (nI co), .int (nI dn), .ref yd]), (ys, AI cI 2 (sz2 nw np)), (yf, AR cA 2 (gr2 g0 g1)), (g0, AI cI 40 bw), (g1, AI cI 40 bp), (yc, AR cA 2 (gr2 k0 k1)), (k0, AI cI 40 cw), (k1, AI cI 40 cp)] rfl (by decide) (by decide) [0, 1, 2, 3, 4, 5, 6, 7] (by decide) (wf := (fun (u : Unit) => [(yo, OB 5 [.int (nI 0), .int ri, .ref yt, .ref ys, .ref yf, .ref yc, .int (nI co), .int (nI dn), .ref yd]), (ys, AI cI 2 (sz2 nw np)), (yf, AR cA 2 (gr2 g0 g1)), (g0, AI cI 40 bw), (g1, AI cI 40 bp), (yc, AR cA 2 (gr2 k0 k1)), (k0, AI cI 40 cw), (k1, AI cI 40 cp)])) (fun _ => rfl) (fun r_1 u h_2 => ?_)
  subst h_2
  refine x_iald C hK 1 0 rfl hI (by omega) (by omega) dX5_repeat_13 ?_
  refine x_topi (nI nw) rfl ?_
  refine x_istore_n C [(2, .int (nI nw)), (0, .ref yo), (1, .int (nI 1))] dX5_repeat_14 rfl (by decide) rfl ?_
  refine x_iconst C (nI 2) dX5_repeat_15 (by decide +kernel) ?_
  refine x_iload_n C dX5_repeat_16 rfl 0 rfl ?_
  refine xn_imul C dX5_repeat_17 ?_
  refine x_bipush C (nI 40) dX5_repeat_18 (by decide +kernel) ?_
  refine xn_icmp_le C 29 (by omega) (by omega) dX5_repeat_20 (by decide) (fun h_3 => ?_) (fun h_3 => ?_)
  ·
    refine x_iconst C (nI 2) dX5_repeat_29 (by decide +kernel) ?_
    refine x_iload_n C dX5_repeat_30 rfl 0 rfl ?_
    refine xn_imul C dX5_repeat_31 ?_
    refine x_new_int C hK hA (by decide +kernel) 0 hI (by omega) (by first | decide | omega | exact (show _ ≤ 3 by omega)) (by first | decide | omega | exact (show _ ≤ 120 by omega)) dX5_repeat_32 (fun q_4 => ?_)
    refine x_widen 1 (2 * nw) (by first | decide | omega) (by first | decide | omega) ?_
    refine x_astore_n C [(3, .ref q_4), (2, .int (nI nw)), (0, .ref yo), (1, .int (nI 1))] dX5_repeat_34 rfl (by decide) rfl ?_
    refine x_iconst C (nI 0) dX5_repeat_35 (by decide +kernel) ?_
    refine x_istore C [(4, .int (nI 0)), (3, .ref q_4), (2, .int (nI nw)), (0, .ref yo), (1, .int (nI 1))] dX5_repeat_36 (by decide) rfl ?_
    have K_5 : ∀ (fuel : Nat) (i : Nat), (i ≤ 2 * nw) → 2 * nw - i < fuel → X_ p l e rm_m_repeat1 s m args below meth c Q D A H0 5 1 (2 * nw) [(yo, OB 5 [.int (nI 0), .int ri, .ref yt, .ref ys, .ref yf, .ref yc, .int (nI co), .int (nI dn), .ref yd]), (ys, AI cI 2 (sz2 nw np)), (yf, AR cA 2 (gr2 g0 g1)), (g0, AI cI 40 bw), (g1, AI cI 40 bp), (yc, AR cA 2 (gr2 k0 k1)), (k0, AI cI 40 cw), (k1, AI cI 40 cp), (q_4, AI cI (2 * nw) (flG (mdG nw) i))] [(0, .ref yo), (1, .int (nI 1)), (2, .int (nI nw)), (3, .ref q_4), (4, .int (nI i))] 38 [] := by
      intro fuel
      induction fuel with
      | zero =>
        intros
        exact absurd (by assumption) (Nat.not_lt_zero _)
      | succ fuel ih_K_5 =>
        intro i hi hm_6
        refine x_iload C dX5_repeat_38 4 rfl ?_
        refine x_iconst C (nI 2) dX5_repeat_40 (by decide +kernel) ?_
        refine x_iload_n C dX5_repeat_41 rfl 2 rfl ?_
        refine xn_imul C dX5_repeat_42 ?_
        refine xn_icmp_ge C 60 (by omega) (by omega) dX5_repeat_43 (by decide) (fun h_7 => ?_) (fun h_7 => ?_)
        ·
          have heq_i : i = 2 * nw := by omega
          subst heq_i
          refine x_aload_n C dX5_repeat_60 rfl 0 rfl ?_
          refine x_iload_n C dX5_repeat_61 rfl 1 rfl ?_
          refine x_calli (x_runS C hK hNW (c_m_of1 l D tys cI cJ cA hI hJ hR  ) (va_cwS 1 C.2.2.2.2 gX5_repeat_X5_of rfl rfl rfl (by decide +kernel) ⟨by decide, by decide⟩) [] rfl (by decide) (st := [.ref yo]) rfl rfl (Nat.le_of_ble_eq_true rfl) dX5_repeat_62 ⟨by first | decide | omega | exact (show _ ≤ 3 by omega), by first | decide | omega | exact (show _ ≤ 120 by omega)⟩) hA [] rfl [0, 1, 2, 3, 4, 5, 6, 7, 8] [(yo, OB 5 [.int (nI 0), .int ri, .ref yt, .ref ys, .ref yf, .ref yc, .int (nI co), .int (nI dn), .ref yd]), (ys, AI cI 2 (sz2 nw np)), (yf, AR cA 2 (gr2 g0 g1)), (g0, AI cI 40 bw), (g1, AI cI 40 bp), (yc, AR cA 2 (gr2 k0 k1)), (k0, AI cI 40 cw), (k1, AI cI 40 cp), (q_4, AI cI (2 * nw) (flG (mdG nw) (2 * nw)))] rfl (by decide) (by decide) [0, 1, 2, 3, 4, 5, 6, 7, 8] (by decide) (wf := (fun (u : Unit) => [(yo, OB 5 [.int (nI 0), .int ri, .ref yt, .ref ys, .ref yf, .ref yc, .int (nI co), .int (nI dn), .ref yd]), (ys, AI cI 2 (sz2 nw np)), (yf, AR cA 2 (gr2 g0 g1)), (g0, AI cI 40 bw), (g1, AI cI 40 bp), (yc, AR cA 2 (gr2 k0 k1)), (k0, AI cI 40 cw), (k1, AI cI 40 cp), (q_4, AI cI (2 * nw) (flG (mdG nw) (2 * nw)))])) (fun _ => rfl) (fun r_8 u h_9 => ?_)
          refine x_widen 1 ((2 * nw) + 0) (by first | decide | omega) (by first | decide | omega) ?_
          subst h_9
          refine x_aload_n C dX5_repeat_65 rfl 3 rfl ?_
          refine x_calli (x_runV C hK hNW (c_m_lay0 l D tys cI cJ cA hI hJ hR yo (nI 0) ri yt ys yf yc co dn yd nw np g0 g1 bw bp k0 k1 cw cp q_4 (2 * nw) (mdG nw) (by first | omega | assumption) (by intro k hk; have hmo := Nat.mod_lt k (show 0 < nw by omega); unfold mdG; omega)) (cwV 2 C.2.2.2.2 gX5_repeat_X5_lay rfl rfl rfl (by decide +kernel) ⟨by decide, by decide⟩) [0, 1, 2, 3, 4, 5, 6, 7, 8] rfl (by decide) 0 5 rfl rfl rfl (st := []) rfl rfl (Nat.le_of_ble_eq_true rfl) dX5_repeat_66 ⟨by first | decide | omega | exact (show _ ≤ 3 by omega), by first | decide | omega | exact (show _ ≤ 120 by omega)⟩) hA [0, 1, 2, 3, 4, 5, 6, 7, 8] rfl [] [] rfl (by decide) (by decide) [0, 1, 2, 3, 4, 5, 6, 7, 8] (by decide) (wf := (fun (u : Unit) => [(yo, OB 5 [.int (nI 0), .int ri, .ref yt, .ref ys, .ref yf, .ref yc, .int (nI co), .int (nI dn), .ref yd]), (ys, AI cI 2 (sz2 (2 * nw) np)), (yf, AR cA 2 (gr2 g0 g1)), (g0, AI cI 40 (lyF bw (mdG nw) (2 * nw))), (g1, AI cI 40 bp), (yc, AR cA 2 (gr2 k0 k1)), (k0, AI cI 40 (lyF cw (mdG nw) (2 * nw))), (k1, AI cI 40 cp), (q_4, AI cI (2 * nw) (flG (mdG nw) (2 * nw)))])) (fun _ => rfl) (fun r_10 u h_11 => ?_)
          refine x_widen 3 (((2 * nw) + 0) + 80) (by first | decide | omega) (by first | decide | omega) ?_
          subst h_11
          refine x_ws [(yo, OB 5 [.int (nI 0), .int ri, .ref yt, .ref ys, .ref yf, .ref yc, .int (nI co), .int (nI dn), .ref yd]), (ys, AI cI 2 (sz2 (nw + nw) np)), (yf, AR cA 2 (gr2 g0 g1)), (g0, AI cI 40 (rpF bw nw nw)), (g1, AI cI 40 bp), (yc, AR cA 2 (gr2 k0 k1)), (k0, AI cI 40 (rpF cw nw nw)), (k1, AI cI 40 cp), (q_4, AI cI (2 * nw) (flG (mdG nw) (2 * nw)))] (by rw [lyF_rp, lyF_rp, show 2 * nw = nw + nw from by omega]) ?_
          refine x_iret C hK hlk hrt hQ hH0 hAA () ?_ [0, 1, 2, 3, 4, 5, 6, 7] (by decide) rfl (by first | decide | omega) (by first | decide | omega) dX5_repeat_69
          exact congrArg nI (by omega)
        ·
          refine x_aload_n C dX5_repeat_46 rfl 3 rfl ?_
          refine x_iload C dX5_repeat_47 4 rfl ?_
          refine x_iload C dX5_repeat_49 4 rfl ?_
          refine x_iload_n C dX5_repeat_51 rfl 2 rfl ?_
          refine xn_irem C (by omega) (by omega) (by omega) dX5_repeat_52 ?_
          refine x_iast C hK 8 0 rfl hI (by omega) (by omega) [(yo, OB 5 [.int (nI 0), .int ri, .ref yt, .ref ys, .ref yf, .ref yc, .int (nI co), .int (nI dn), .ref yd]), (ys, AI cI 2 (sz2 nw np)), (yf, AR cA 2 (gr2 g0 g1)), (g0, AI cI 40 bw), (g1, AI cI 40 bp), (yc, AR cA 2 (gr2 k0 k1)), (k0, AI cI 40 cw), (k1, AI cI 40 cp), (q_4, AI cI (2 * nw) (upd (flG (mdG nw) i) i (nI (i % nw))))] rfl dX5_repeat_53 ?_
          refine xn_iinc C (i + 1) [(4, .int (nI (i + 1))), (0, .ref yo), (1, .int (nI 1)), (2, .int (nI nw)), (3, .ref q_4)] dX5_repeat_54 4 rfl (by rw [show Int32.ofInt 1 = nI 1 from by decide +kernel]; exact nI_add _ _) (by decide) rfl ?_
          refine x_goto C 38 dX5_repeat_57 (by decide) ?_
          refine x_lv [(0, .ref yo), (1, .int (nI 1)), (2, .int (nI nw)), (3, .ref q_4), (4, .int (nI (i + 1)))] [1, 2, 3, 4, 0] rfl ?_
          refine x_ws [(yo, OB 5 [.int (nI 0), .int ri, .ref yt, .ref ys, .ref yf, .ref yc, .int (nI co), .int (nI dn), .ref yd]), (ys, AI cI 2 (sz2 nw np)), (yf, AR cA 2 (gr2 g0 g1)), (g0, AI cI 40 bw), (g1, AI cI 40 bp), (yc, AR cA 2 (gr2 k0 k1)), (k0, AI cI 40 cw), (k1, AI cI 40 cp), (q_4, AI cI (2 * nw) (flG (mdG nw) (i + 1)))] (by rw [← flG_s]; try rfl) ?_
          exact ih_K_5 (i + 1) (by first | assumption | omega) (by omega)
    refine x_lv [(0, .ref yo), (1, .int (nI 1)), (2, .int (nI nw)), (3, .ref q_4), (4, .int (nI 0))] [3, 4, 2, 1, 0] rfl ?_
    refine x_ws [(yo, OB 5 [.int (nI 0), .int ri, .ref yt, .ref ys, .ref yf, .ref yc, .int (nI co), .int (nI dn), .ref yd]), (ys, AI cI 2 (sz2 nw np)), (yf, AR cA 2 (gr2 g0 g1)), (g0, AI cI 40 bw), (g1, AI cI 40 bp), (yc, AR cA 2 (gr2 k0 k1)), (k0, AI cI 40 cw), (k1, AI cI 40 cp), (q_4, AI cI (2 * nw) (flG (mdG nw) 0))] (by rw [flG_0]; try rfl) ?_
    exact K_5 (2 * nw - 0 + 1) 0 (by first | assumption | omega) (Nat.lt_succ_self _)
  ·
    exact absurd h_3 (by omega)
abbrev rm_m_repeatX1 : Room := { frames := 1, cells := 0, slots := 0, locals := 21 }
set_option maxRecDepth 100000 in
set_option maxHeartbeats 4000000 in
theorem c_m_repeatX1 (l : Launch) (D : va_G) (tys : List (ClassId × FieldType)) (cI cJ cA : ClassId) (hI : tys[0]? = some (cI, .int)) (hJ : tys[1]? = some (cJ, .long)) (hR : tys[2]? = some (cA, .array .int)) (yo : Nat) (thr : Int32) (ri : Int32) (yt : Nat) (ys : Nat) (yf : Nat) (yc : Nat) (co : Nat) (dn : Nat) (yd : Nat) (nw : Nat) (np : Nat) (hnw : nw ≤ 40) (h2 : 40 < 2 * nw) : MI l yX5_repeat wsX5_repeat rm_m_repeatX1 D tys [.ref yo, .int (nI 1)] [(yo, OB 5 [.int thr, .int ri, .ref yt, .ref ys, .ref yf, .ref yc, .int (nI co), .int (nI dn), .ref yd]), (ys, AI cI 2 (sz2 nw np))] Unit (fun r (_ : Unit) => r = nI 0) (fun (_ : Unit) => [(yo, OB 5 [.int (nI 1), .int ri, .ref yt, .ref ys, .ref yf, .ref yc, .int (nI co), .int (nI dn), .ref yd]), (ys, AI cI 2 (sz2 nw np))]) 0 0 := by
  intro sz
  refine x_met (cc := cX5_repeat) (maxL := 5) (ret := (some .int)) (by decide +kernel) rfl (by show _ ≤ _; simp [lg_sl, Value.category]) [(0, .ref yo), (1, .int (nI 1))] rfl ?_
  intro p e s m args below meth c Q A H0 C hK hNW hlk hrt hnm hQ hH0 hAA hA
  refine x_aload_n C dX5_repeat_0 rfl 0 rfl ?_
  refine x_iconst C (nI 0) dX5_repeat_1 (by decide +kernel) ?_
  refine x_put C hK in_X5_repeat_X5 tyX5 tyX5_ok nmX5 0 rfl rfl 0 (by decide) (by decide +kernel) rfl rfl (tyX5_ok 0 (by decide)) rfl rfl (Nat.le_of_ble_eq_true rfl) [(yo, OB 5 [.int (nI 0), .int ri, .ref yt, .ref ys, .ref yf, .ref yc, .int (nI co), .int (nI dn), .ref yd]), (ys, AI cI 2 (sz2 nw np))] rfl dX5_repeat_2 ?_
  refine x_aload_n C dX5_repeat_5 rfl 0 rfl ?_
  refine x_get C hK in_X5_repeat_X5 0 rfl rfl 3 (by decide) (by decide +kernel) rfl rfl dX5_repeat_6 ?_
  refine x_iload_n C dX5_repeat_9 rfl 1 rfl ?_
  refine x_calli (x_runS C hK hNW (c_m_of1 l D tys cI cJ cA hI hJ hR  ) (va_cwS 1 C.2.2.2.2 gX5_repeat_X5_of rfl rfl rfl (by decide +kernel) ⟨by decide, by decide⟩) [] rfl (by decide) (st := [.ref ys]) rfl rfl (Nat.le_of_ble_eq_true rfl) dX5_repeat_10 ⟨by first | decide | omega | exact (show _ ≤ 0 by omega), by first | decide | omega | exact (show _ ≤ 0 by omega)⟩) hA [] rfl [0, 1] [(yo, OB 5 [.int (nI 0), .int ri, .ref yt, .ref ys, .ref yf, .ref yc, .int (nI co), .int (nI dn), .ref yd]), (ys, AI cI 2 (sz2 nw np))] rfl (by decide) (by decide) [0, 1] (by decide) (wf := (fun (u : Unit) => [(yo, OB 5 [.int (nI 0), .int ri, .ref yt, .ref ys, .ref yf, .ref yc, .int (nI co), .int (nI dn), .ref yd]), (ys, AI cI 2 (sz2 nw np))])) (fun _ => rfl) (fun r_1 u h_2 => ?_)
  subst h_2
  refine x_iald C hK 1 0 rfl hI (by omega) (by omega) dX5_repeat_13 ?_
  refine x_topi (nI nw) rfl ?_
  refine x_istore_n C [(2, .int (nI nw)), (0, .ref yo), (1, .int (nI 1))] dX5_repeat_14 rfl (by decide) rfl ?_
  refine x_iconst C (nI 2) dX5_repeat_15 (by decide +kernel) ?_
  refine x_iload_n C dX5_repeat_16 rfl 0 rfl ?_
  refine xn_imul C dX5_repeat_17 ?_
  refine x_bipush C (nI 40) dX5_repeat_18 (by decide +kernel) ?_
  refine xn_icmp_le C 29 (by omega) (by omega) dX5_repeat_20 (by decide) (fun h_3 => ?_) (fun h_3 => ?_)
  ·
    exact absurd h_3 (by omega)
  ·
    refine x_aload_n C dX5_repeat_23 rfl 1 rfl ?_
    refine x_iconst C (nI 1) dX5_repeat_24 (by decide +kernel) ?_
    refine x_calli (x_runV C hK hNW (c_m_fail l D tys cI cJ cA hI hJ hR yo (nI 0) ri yt ys yf yc co dn yd 1 ) (cwV 1 C.2.2.2.2 gX5_repeat_X5_fail rfl rfl rfl (by decide +kernel) ⟨by decide, by decide⟩) [0] rfl (by decide) 0 5 rfl rfl rfl (st := []) rfl rfl (Nat.le_of_ble_eq_true rfl) dX5_repeat_25 ⟨by first | decide | omega | exact (show _ ≤ 0 by omega), by first | decide | omega | exact (show _ ≤ 0 by omega)⟩) hA [0] rfl [1] [(ys, AI cI 2 (sz2 nw np))] rfl (by decide) (by decide) [1, 0] (by decide) (wf := (fun (u : Unit) => [(yo, OB 5 [.int (nI 1), .int ri, .ref yt, .ref ys, .ref yf, .ref yc, .int (nI co), .int (nI dn), .ref yd]), (ys, AI cI 2 (sz2 nw np))])) (fun _ => rfl) (fun r_4 u h_5 => ?_)
    subst h_5
    refine x_iret C hK hlk hrt hQ hH0 hAA () ?_ [0, 1] (by decide) rfl (by first | decide | omega) (by first | decide | omega) dX5_repeat_28
    first | rfl | (exact ⟨rfl, rfl⟩) | trivial | assumption | omega
abbrev rm_m_repeat0 : Room := { frames := 2, cells := 3, slots := 120, locals := 39 }
set_option maxRecDepth 100000 in
set_option maxHeartbeats 4000000 in
theorem c_m_repeat0 (l : Launch) (D : va_G) (tys : List (ClassId × FieldType)) (cI cJ cA : ClassId) (hI : tys[0]? = some (cI, .int)) (hJ : tys[1]? = some (cJ, .long)) (hR : tys[2]? = some (cA, .array .int)) (yo : Nat) (thr : Int32) (ri : Int32) (yt : Nat) (ys : Nat) (yf : Nat) (yc : Nat) (co : Nat) (dn : Nat) (yd : Nat) (nw : Nat) (np : Nat) (g0 : Nat) (g1 : Nat) (bw : Nat → Int32) (bp : Nat → Int32) (k0 : Nat) (k1 : Nat) (cw : Nat → Int32) (cp : Nat → Int32) (h2 : 2 * np ≤ 40) : MI l yX5_repeat wsX5_repeat rm_m_repeat0 D tys [.ref yo, .int (nI 0)] [(yo, OB 5 [.int thr, .int ri, .ref yt, .ref ys, .ref yf, .ref yc, .int (nI co), .int (nI dn), .ref yd]), (ys, AI cI 2 (sz2 nw np)), (yf, AR cA 2 (gr2 g0 g1)), (g0, AI cI 40 bw), (g1, AI cI 40 bp), (yc, AR cA 2 (gr2 k0 k1)), (k0, AI cI 40 cw), (k1, AI cI 40 cp)] Unit (fun r (_ : Unit) => r = nI (np + np)) (fun (_ : Unit) => [(yo, OB 5 [.int (nI 0), .int ri, .ref yt, .ref ys, .ref yf, .ref yc, .int (nI co), .int (nI dn), .ref yd]), (ys, AI cI 2 (sz2 nw (np + np))), (yf, AR cA 2 (gr2 g0 g1)), (g0, AI cI 40 bw), (g1, AI cI 40 (rpF bp np np)), (yc, AR cA 2 (gr2 k0 k1)), (k0, AI cI 40 cw), (k1, AI cI 40 (rpF cp np np))]) 3 120 := by
  intro sz
  refine x_met (cc := cX5_repeat) (maxL := 5) (ret := (some .int)) (by decide +kernel) rfl (by show _ ≤ _; simp [lg_sl, Value.category]) [(0, .ref yo), (1, .int (nI 0))] rfl ?_
  intro p e s m args below meth c Q A H0 C hK hNW hlk hrt hnm hQ hH0 hAA hA
  refine x_aload_n C dX5_repeat_0 rfl 0 rfl ?_
  refine x_iconst C (nI 0) dX5_repeat_1 (by decide +kernel) ?_
  refine x_put C hK in_X5_repeat_X5 tyX5 tyX5_ok nmX5 0 rfl rfl 0 (by decide) (by decide +kernel) rfl rfl (tyX5_ok 0 (by decide)) rfl rfl (Nat.le_of_ble_eq_true rfl) [(yo, OB 5 [.int (nI 0), .int ri, .ref yt, .ref ys, .ref yf, .ref yc, .int (nI co), .int (nI dn), .ref yd]), (ys, AI cI 2 (sz2 nw np)), (yf, AR cA 2 (gr2 g0 g1)), (g0, AI cI 40 bw), (g1, AI cI 40 bp), (yc, AR cA 2 (gr2 k0 k1)), (k0, AI cI 40 cw), (k1, AI cI 40 cp)] rfl dX5_repeat_2 ?_
  refine x_aload_n C dX5_repeat_5 rfl 0 rfl ?_
  refine x_get C hK in_X5_repeat_X5 0 rfl rfl 3 (by decide) (by decide +kernel) rfl rfl dX5_repeat_6 ?_
  refine x_iload_n C dX5_repeat_9 rfl 1 rfl ?_
  refine x_calli (x_runS C hK hNW (c_m_of0 l D tys cI cJ cA hI hJ hR  ) (va_cwS 1 C.2.2.2.2 gX5_repeat_X5_of rfl rfl rfl (by decide +kernel) ⟨by decide, by decide⟩) [] rfl (by decide) (st := [.ref ys]) rfl rfl (Nat.le_of_ble_eq_true rfl) dX5_repeat_10 ⟨by first | decide | omega | exact (show _ ≤ 3 by omega), by first | decide | omega | exact (show _ ≤ 120 by omega)⟩) hA [] rfl [0, 1, 2, 3, 4, 5, 6, 7] [(yo, OB 5 [.int (nI 0), .int ri, .ref yt, .ref ys, .ref yf, .ref yc, .int (nI co), .int (nI dn), .ref yd]), (ys, AI cI 2 (sz2 nw np)), (yf, AR cA 2 (gr2 g0 g1)), (g0, AI cI 40 bw), (g1, AI cI 40 bp), (yc, AR cA 2 (gr2 k0 k1)), (k0, AI cI 40 cw), (k1, AI cI 40 cp)] rfl (by decide) (by decide) [0, 1, 2, 3, 4, 5, 6, 7] (by decide) (wf := (fun (u : Unit) => [(yo, OB 5 [.int (nI 0), .int ri, .ref yt, .ref ys, .ref yf, .ref yc, .int (nI co), .int (nI dn), .ref yd]), (ys, AI cI 2 (sz2 nw np)), (yf, AR cA 2 (gr2 g0 g1)), (g0, AI cI 40 bw), (g1, AI cI 40 bp), (yc, AR cA 2 (gr2 k0 k1)), (k0, AI cI 40 cw), (k1, AI cI 40 cp)])) (fun _ => rfl) (fun r_1 u h_2 => ?_)
  subst h_2
  refine x_iald C hK 1 0 rfl hI (by omega) (by omega) dX5_repeat_13 ?_
  refine x_topi (nI np) rfl ?_
  refine x_istore_n C [(2, .int (nI np)), (0, .ref yo), (1, .int (nI 0))] dX5_repeat_14 rfl (by decide) rfl ?_
  refine x_iconst C (nI 2) dX5_repeat_15 (by decide +kernel) ?_
  refine x_iload_n C dX5_repeat_16 rfl 0 rfl ?_
  refine xn_imul C dX5_repeat_17 ?_
  refine x_bipush C (nI 40) dX5_repeat_18 (by decide +kernel) ?_
  refine xn_icmp_le C 29 (by omega) (by omega) dX5_repeat_20 (by decide) (fun h_3 => ?_) (fun h_3 => ?_)
  ·
    refine x_iconst C (nI 2) dX5_repeat_29 (by decide +kernel) ?_
    refine x_iload_n C dX5_repeat_30 rfl 0 rfl ?_
    refine xn_imul C dX5_repeat_31 ?_
    refine x_new_int C hK hA (by decide +kernel) 0 hI (by omega) (by first | decide | omega | exact (show _ ≤ 3 by omega)) (by first | decide | omega | exact (show _ ≤ 120 by omega)) dX5_repeat_32 (fun q_4 => ?_)
    refine x_widen 1 (2 * np) (by first | decide | omega) (by first | decide | omega) ?_
    refine x_astore_n C [(3, .ref q_4), (2, .int (nI np)), (0, .ref yo), (1, .int (nI 0))] dX5_repeat_34 rfl (by decide) rfl ?_
    refine x_iconst C (nI 0) dX5_repeat_35 (by decide +kernel) ?_
    refine x_istore C [(4, .int (nI 0)), (3, .ref q_4), (2, .int (nI np)), (0, .ref yo), (1, .int (nI 0))] dX5_repeat_36 (by decide) rfl ?_
    have K_5 : ∀ (fuel : Nat) (i : Nat), (i ≤ 2 * np) → 2 * np - i < fuel → X_ p l e rm_m_repeat0 s m args below meth c Q D A H0 5 1 (2 * np) [(yo, OB 5 [.int (nI 0), .int ri, .ref yt, .ref ys, .ref yf, .ref yc, .int (nI co), .int (nI dn), .ref yd]), (ys, AI cI 2 (sz2 nw np)), (yf, AR cA 2 (gr2 g0 g1)), (g0, AI cI 40 bw), (g1, AI cI 40 bp), (yc, AR cA 2 (gr2 k0 k1)), (k0, AI cI 40 cw), (k1, AI cI 40 cp), (q_4, AI cI (2 * np) (flG (mdG np) i))] [(0, .ref yo), (1, .int (nI 0)), (2, .int (nI np)), (3, .ref q_4), (4, .int (nI i))] 38 [] := by
      intro fuel
      induction fuel with
      | zero =>
        intros
        exact absurd (by assumption) (Nat.not_lt_zero _)
      | succ fuel ih_K_5 =>
        intro i hi hm_6
        refine x_iload C dX5_repeat_38 4 rfl ?_
        refine x_iconst C (nI 2) dX5_repeat_40 (by decide +kernel) ?_
        refine x_iload_n C dX5_repeat_41 rfl 2 rfl ?_
        refine xn_imul C dX5_repeat_42 ?_
        refine xn_icmp_ge C 60 (by omega) (by omega) dX5_repeat_43 (by decide) (fun h_7 => ?_) (fun h_7 => ?_)
        ·
          have heq_i : i = 2 * np := by omega
          subst heq_i
          refine x_aload_n C dX5_repeat_60 rfl 0 rfl ?_
          refine x_iload_n C dX5_repeat_61 rfl 1 rfl ?_
          refine x_calli (x_runS C hK hNW (c_m_of0 l D tys cI cJ cA hI hJ hR  ) (va_cwS 1 C.2.2.2.2 gX5_repeat_X5_of rfl rfl rfl (by decide +kernel) ⟨by decide, by decide⟩) [] rfl (by decide) (st := [.ref yo]) rfl rfl (Nat.le_of_ble_eq_true rfl) dX5_repeat_62 ⟨by first | decide | omega | exact (show _ ≤ 3 by omega), by first | decide | omega | exact (show _ ≤ 120 by omega)⟩) hA [] rfl [0, 1, 2, 3, 4, 5, 6, 7, 8] [(yo, OB 5 [.int (nI 0), .int ri, .ref yt, .ref ys, .ref yf, .ref yc, .int (nI co), .int (nI dn), .ref yd]), (ys, AI cI 2 (sz2 nw np)), (yf, AR cA 2 (gr2 g0 g1)), (g0, AI cI 40 bw), (g1, AI cI 40 bp), (yc, AR cA 2 (gr2 k0 k1)), (k0, AI cI 40 cw), (k1, AI cI 40 cp), (q_4, AI cI (2 * np) (flG (mdG np) (2 * np)))] rfl (by decide) (by decide) [0, 1, 2, 3, 4, 5, 6, 7, 8] (by decide) (wf := (fun (u : Unit) => [(yo, OB 5 [.int (nI 0), .int ri, .ref yt, .ref ys, .ref yf, .ref yc, .int (nI co), .int (nI dn), .ref yd]), (ys, AI cI 2 (sz2 nw np)), (yf, AR cA 2 (gr2 g0 g1)), (g0, AI cI 40 bw), (g1, AI cI 40 bp), (yc, AR cA 2 (gr2 k0 k1)), (k0, AI cI 40 cw), (k1, AI cI 40 cp), (q_4, AI cI (2 * np) (flG (mdG np) (2 * np)))])) (fun _ => rfl) (fun r_8 u h_9 => ?_)
          refine x_widen 1 ((2 * np) + 0) (by first | decide | omega) (by first | decide | omega) ?_
          subst h_9
          refine x_aload_n C dX5_repeat_65 rfl 3 rfl ?_
          refine x_calli (x_runV C hK hNW (c_m_lay1 l D tys cI cJ cA hI hJ hR yo (nI 0) ri yt ys yf yc co dn yd nw np g0 g1 bw bp k0 k1 cw cp q_4 (2 * np) (mdG np) (by first | omega | assumption) (by intro k hk; have hmo := Nat.mod_lt k (show 0 < np by omega); unfold mdG; omega)) (cwV 2 C.2.2.2.2 gX5_repeat_X5_lay rfl rfl rfl (by decide +kernel) ⟨by decide, by decide⟩) [0, 1, 2, 3, 4, 5, 6, 7, 8] rfl (by decide) 0 5 rfl rfl rfl (st := []) rfl rfl (Nat.le_of_ble_eq_true rfl) dX5_repeat_66 ⟨by first | decide | omega | exact (show _ ≤ 3 by omega), by first | decide | omega | exact (show _ ≤ 120 by omega)⟩) hA [0, 1, 2, 3, 4, 5, 6, 7, 8] rfl [] [] rfl (by decide) (by decide) [0, 1, 2, 3, 4, 5, 6, 7, 8] (by decide) (wf := (fun (u : Unit) => [(yo, OB 5 [.int (nI 0), .int ri, .ref yt, .ref ys, .ref yf, .ref yc, .int (nI co), .int (nI dn), .ref yd]), (ys, AI cI 2 (sz2 nw (2 * np))), (yf, AR cA 2 (gr2 g0 g1)), (g0, AI cI 40 bw), (g1, AI cI 40 (lyF bp (mdG np) (2 * np))), (yc, AR cA 2 (gr2 k0 k1)), (k0, AI cI 40 cw), (k1, AI cI 40 (lyF cp (mdG np) (2 * np))), (q_4, AI cI (2 * np) (flG (mdG np) (2 * np)))])) (fun _ => rfl) (fun r_10 u h_11 => ?_)
          refine x_widen 3 (((2 * np) + 0) + 80) (by first | decide | omega) (by first | decide | omega) ?_
          subst h_11
          refine x_ws [(yo, OB 5 [.int (nI 0), .int ri, .ref yt, .ref ys, .ref yf, .ref yc, .int (nI co), .int (nI dn), .ref yd]), (ys, AI cI 2 (sz2 nw (np + np))), (yf, AR cA 2 (gr2 g0 g1)), (g0, AI cI 40 bw), (g1, AI cI 40 (rpF bp np np)), (yc, AR cA 2 (gr2 k0 k1)), (k0, AI cI 40 cw), (k1, AI cI 40 (rpF cp np np)), (q_4, AI cI (2 * np) (flG (mdG np) (2 * np)))] (by rw [lyF_rp, lyF_rp, show 2 * np = np + np from by omega]) ?_
          refine x_iret C hK hlk hrt hQ hH0 hAA () ?_ [0, 1, 2, 3, 4, 5, 6, 7] (by decide) rfl (by first | decide | omega) (by first | decide | omega) dX5_repeat_69
          exact congrArg nI (by omega)
        ·
          refine x_aload_n C dX5_repeat_46 rfl 3 rfl ?_
          refine x_iload C dX5_repeat_47 4 rfl ?_
          refine x_iload C dX5_repeat_49 4 rfl ?_
          refine x_iload_n C dX5_repeat_51 rfl 2 rfl ?_
          refine xn_irem C (by omega) (by omega) (by omega) dX5_repeat_52 ?_
          refine x_iast C hK 8 0 rfl hI (by omega) (by omega) [(yo, OB 5 [.int (nI 0), .int ri, .ref yt, .ref ys, .ref yf, .ref yc, .int (nI co), .int (nI dn), .ref yd]), (ys, AI cI 2 (sz2 nw np)), (yf, AR cA 2 (gr2 g0 g1)), (g0, AI cI 40 bw), (g1, AI cI 40 bp), (yc, AR cA 2 (gr2 k0 k1)), (k0, AI cI 40 cw), (k1, AI cI 40 cp), (q_4, AI cI (2 * np) (upd (flG (mdG np) i) i (nI (i % np))))] rfl dX5_repeat_53 ?_
          refine xn_iinc C (i + 1) [(4, .int (nI (i + 1))), (0, .ref yo), (1, .int (nI 0)), (2, .int (nI np)), (3, .ref q_4)] dX5_repeat_54 4 rfl (by rw [show Int32.ofInt 1 = nI 1 from by decide +kernel]; exact nI_add _ _) (by decide) rfl ?_
          refine x_goto C 38 dX5_repeat_57 (by decide) ?_
          refine x_lv [(0, .ref yo), (1, .int (nI 0)), (2, .int (nI np)), (3, .ref q_4), (4, .int (nI (i + 1)))] [1, 2, 3, 4, 0] rfl ?_
          refine x_ws [(yo, OB 5 [.int (nI 0), .int ri, .ref yt, .ref ys, .ref yf, .ref yc, .int (nI co), .int (nI dn), .ref yd]), (ys, AI cI 2 (sz2 nw np)), (yf, AR cA 2 (gr2 g0 g1)), (g0, AI cI 40 bw), (g1, AI cI 40 bp), (yc, AR cA 2 (gr2 k0 k1)), (k0, AI cI 40 cw), (k1, AI cI 40 cp), (q_4, AI cI (2 * np) (flG (mdG np) (i + 1)))] (by rw [← flG_s]; try rfl) ?_
          exact ih_K_5 (i + 1) (by first | assumption | omega) (by omega)
    refine x_lv [(0, .ref yo), (1, .int (nI 0)), (2, .int (nI np)), (3, .ref q_4), (4, .int (nI 0))] [3, 4, 2, 1, 0] rfl ?_
    refine x_ws [(yo, OB 5 [.int (nI 0), .int ri, .ref yt, .ref ys, .ref yf, .ref yc, .int (nI co), .int (nI dn), .ref yd]), (ys, AI cI 2 (sz2 nw np)), (yf, AR cA 2 (gr2 g0 g1)), (g0, AI cI 40 bw), (g1, AI cI 40 bp), (yc, AR cA 2 (gr2 k0 k1)), (k0, AI cI 40 cw), (k1, AI cI 40 cp), (q_4, AI cI (2 * np) (flG (mdG np) 0))] (by rw [flG_0]; try rfl) ?_
    exact K_5 (2 * np - 0 + 1) 0 (by first | assumption | omega) (Nat.lt_succ_self _)
  ·
    exact absurd h_3 (by omega)
abbrev rm_m_repeatX0 : Room := { frames := 1, cells := 0, slots := 0, locals := 21 }
set_option maxRecDepth 100000 in
set_option maxHeartbeats 4000000 in
theorem c_m_repeatX0 (l : Launch) (D : va_G) (tys : List (ClassId × FieldType)) (cI cJ cA : ClassId) (hI : tys[0]? = some (cI, .int)) (hJ : tys[1]? = some (cJ, .long)) (hR : tys[2]? = some (cA, .array .int)) (yo : Nat) (thr : Int32) (ri : Int32) (yt : Nat) (ys : Nat) (yf : Nat) (yc : Nat) (co : Nat) (dn : Nat) (yd : Nat) (nw : Nat) (np : Nat) (hnp : np ≤ 40) (h2 : 40 < 2 * np) : MI l yX5_repeat wsX5_repeat rm_m_repeatX0 D tys [.ref yo, .int (nI 0)] [(yo, OB 5 [.int thr, .int ri, .ref yt, .ref ys, .ref yf, .ref yc, .int (nI co), .int (nI dn), .ref yd]), (ys, AI cI 2 (sz2 nw np))] Unit (fun r (_ : Unit) => r = nI 0) (fun (_ : Unit) => [(yo, OB 5 [.int (nI 1), .int ri, .ref yt, .ref ys, .ref yf, .ref yc, .int (nI co), .int (nI dn), .ref yd]), (ys, AI cI 2 (sz2 nw np))]) 0 0 := by
  intro sz
  refine x_met (cc := cX5_repeat) (maxL := 5) (ret := (some .int)) (by decide +kernel) rfl (by show _ ≤ _; simp [lg_sl, Value.category]) [(0, .ref yo), (1, .int (nI 0))] rfl ?_
  intro p e s m args below meth c Q A H0 C hK hNW hlk hrt hnm hQ hH0 hAA hA
  refine x_aload_n C dX5_repeat_0 rfl 0 rfl ?_
  refine x_iconst C (nI 0) dX5_repeat_1 (by decide +kernel) ?_
  refine x_put C hK in_X5_repeat_X5 tyX5 tyX5_ok nmX5 0 rfl rfl 0 (by decide) (by decide +kernel) rfl rfl (tyX5_ok 0 (by decide)) rfl rfl (Nat.le_of_ble_eq_true rfl) [(yo, OB 5 [.int (nI 0), .int ri, .ref yt, .ref ys, .ref yf, .ref yc, .int (nI co), .int (nI dn), .ref yd]), (ys, AI cI 2 (sz2 nw np))] rfl dX5_repeat_2 ?_
  refine x_aload_n C dX5_repeat_5 rfl 0 rfl ?_
  refine x_get C hK in_X5_repeat_X5 0 rfl rfl 3 (by decide) (by decide +kernel) rfl rfl dX5_repeat_6 ?_
  refine x_iload_n C dX5_repeat_9 rfl 1 rfl ?_
  refine x_calli (x_runS C hK hNW (c_m_of0 l D tys cI cJ cA hI hJ hR  ) (va_cwS 1 C.2.2.2.2 gX5_repeat_X5_of rfl rfl rfl (by decide +kernel) ⟨by decide, by decide⟩) [] rfl (by decide) (st := [.ref ys]) rfl rfl (Nat.le_of_ble_eq_true rfl) dX5_repeat_10 ⟨by first | decide | omega | exact (show _ ≤ 0 by omega), by first | decide | omega | exact (show _ ≤ 0 by omega)⟩) hA [] rfl [0, 1] [(yo, OB 5 [.int (nI 0), .int ri, .ref yt, .ref ys, .ref yf, .ref yc, .int (nI co), .int (nI dn), .ref yd]), (ys, AI cI 2 (sz2 nw np))] rfl (by decide) (by decide) [0, 1] (by decide) (wf := (fun (u : Unit) => [(yo, OB 5 [.int (nI 0), .int ri, .ref yt, .ref ys, .ref yf, .ref yc, .int (nI co), .int (nI dn), .ref yd]), (ys, AI cI 2 (sz2 nw np))])) (fun _ => rfl) (fun r_1 u h_2 => ?_)
  subst h_2
  refine x_iald C hK 1 0 rfl hI (by omega) (by omega) dX5_repeat_13 ?_
  refine x_topi (nI np) rfl ?_
  refine x_istore_n C [(2, .int (nI np)), (0, .ref yo), (1, .int (nI 0))] dX5_repeat_14 rfl (by decide) rfl ?_
  refine x_iconst C (nI 2) dX5_repeat_15 (by decide +kernel) ?_
  refine x_iload_n C dX5_repeat_16 rfl 0 rfl ?_
  refine xn_imul C dX5_repeat_17 ?_
  refine x_bipush C (nI 40) dX5_repeat_18 (by decide +kernel) ?_
  refine xn_icmp_le C 29 (by omega) (by omega) dX5_repeat_20 (by decide) (fun h_3 => ?_) (fun h_3 => ?_)
  ·
    exact absurd h_3 (by omega)
  ·
    refine x_aload_n C dX5_repeat_23 rfl 1 rfl ?_
    refine x_iconst C (nI 1) dX5_repeat_24 (by decide +kernel) ?_
    refine x_calli (x_runV C hK hNW (c_m_fail l D tys cI cJ cA hI hJ hR yo (nI 0) ri yt ys yf yc co dn yd 1 ) (cwV 1 C.2.2.2.2 gX5_repeat_X5_fail rfl rfl rfl (by decide +kernel) ⟨by decide, by decide⟩) [0] rfl (by decide) 0 5 rfl rfl rfl (st := []) rfl rfl (Nat.le_of_ble_eq_true rfl) dX5_repeat_25 ⟨by first | decide | omega | exact (show _ ≤ 0 by omega), by first | decide | omega | exact (show _ ≤ 0 by omega)⟩) hA [0] rfl [1] [(ys, AI cI 2 (sz2 nw np))] rfl (by decide) (by decide) [1, 0] (by decide) (wf := (fun (u : Unit) => [(yo, OB 5 [.int (nI 1), .int ri, .ref yt, .ref ys, .ref yf, .ref yc, .int (nI co), .int (nI dn), .ref yd]), (ys, AI cI 2 (sz2 nw np))])) (fun _ => rfl) (fun r_4 u h_5 => ?_)
    subst h_5
    refine x_iret C hK hlk hrt hQ hH0 hAA () ?_ [0, 1] (by decide) rfl (by first | decide | omega) (by first | decide | omega) dX5_repeat_28
    first | rfl | (exact ⟨rfl, rfl⟩) | trivial | assumption | omega
abbrev rm_m_cut1 : Room := { frames := 1, cells := 0, slots := 0, locals := 22 }
set_option maxRecDepth 100000 in
set_option maxHeartbeats 4000000 in
theorem c_m_cut1 (l : Launch) (D : va_G) (tys : List (ClassId × FieldType)) (cI cJ cA : ClassId) (hI : tys[0]? = some (cI, .int)) (hJ : tys[1]? = some (cJ, .long)) (hR : tys[2]? = some (cA, .array .int)) (yo : Nat) (thr : Int32) (ri : Int32) (yt : Nat) (ys : Nat) (yf : Nat) (yc : Nat) (co : Nat) (dn : Nat) (yd : Nat) (nw : Nat) (np : Nat) (lf : Nat) (hnw : nw ≤ 40) (hlf : lf ≤ nw) : MI l yX5_cut wsX5_cut rm_m_cut1 D tys [.ref yo, .int (nI 1), .int (nI lf)] [(yo, OB 5 [.int thr, .int ri, .ref yt, .ref ys, .ref yf, .ref yc, .int (nI co), .int (nI dn), .ref yd]), (ys, AI cI 2 (sz2 nw np))] Unit (fun r (_ : Unit) => r = nI (nw - lf)) (fun (_ : Unit) => [(yo, OB 5 [.int (nI 0), .int ri, .ref yt, .ref ys, .ref yf, .ref yc, .int (nI co), .int (nI dn), .ref yd]), (ys, AI cI 2 (sz2 lf np))]) 0 0 := by
  intro sz
  refine x_met (cc := cX5_cut) (maxL := 4) (ret := (some .int)) (by decide +kernel) rfl (by show _ ≤ _; simp [lg_sl, Value.category]) [(0, .ref yo), (1, .int (nI 1)), (2, .int (nI lf))] rfl ?_
  intro p e s m args below meth c Q A H0 C hK hNW hlk hrt hnm hQ hH0 hAA hA
  refine x_aload_n C dX5_cut_0 rfl 0 rfl ?_
  refine x_iconst C (nI 0) dX5_cut_1 (by decide +kernel) ?_
  refine x_put C hK in_X5_cut_X5 tyX5 tyX5_ok nmX5 0 rfl rfl 0 (by decide) (by decide +kernel) rfl rfl (tyX5_ok 0 (by decide)) rfl rfl (Nat.le_of_ble_eq_true rfl) [(yo, OB 5 [.int (nI 0), .int ri, .ref yt, .ref ys, .ref yf, .ref yc, .int (nI co), .int (nI dn), .ref yd]), (ys, AI cI 2 (sz2 nw np))] rfl dX5_cut_2 ?_
  refine x_aload_n C dX5_cut_5 rfl 0 rfl ?_
  refine x_get C hK in_X5_cut_X5 0 rfl rfl 3 (by decide) (by decide +kernel) rfl rfl dX5_cut_6 ?_
  refine x_iload_n C dX5_cut_9 rfl 1 rfl ?_
  refine x_calli (x_runS C hK hNW (c_m_of1 l D tys cI cJ cA hI hJ hR  ) (va_cwS 1 C.2.2.2.2 gX5_cut_X5_of rfl rfl rfl (by decide +kernel) ⟨by decide, by decide⟩) [] rfl (by decide) (st := [.ref ys]) rfl rfl (Nat.le_of_ble_eq_true rfl) dX5_cut_10 ⟨by first | decide | omega | exact (show _ ≤ 0 by omega), by first | decide | omega | exact (show _ ≤ 0 by omega)⟩) hA [] rfl [0, 1] [(yo, OB 5 [.int (nI 0), .int ri, .ref yt, .ref ys, .ref yf, .ref yc, .int (nI co), .int (nI dn), .ref yd]), (ys, AI cI 2 (sz2 nw np))] rfl (by decide) (by decide) [0, 1] (by decide) (wf := (fun (u : Unit) => [(yo, OB 5 [.int (nI 0), .int ri, .ref yt, .ref ys, .ref yf, .ref yc, .int (nI co), .int (nI dn), .ref yd]), (ys, AI cI 2 (sz2 nw np))])) (fun _ => rfl) (fun r_1 u h_2 => ?_)
  subst h_2
  refine x_iald C hK 1 0 rfl hI (by omega) (by omega) dX5_cut_13 ?_
  refine x_topi (nI nw) rfl ?_
  refine x_istore_n C [(3, .int (nI nw)), (0, .ref yo), (1, .int (nI 1)), (2, .int (nI lf))] dX5_cut_14 rfl (by decide) rfl ?_
  refine x_iload_n C dX5_cut_15 rfl 3 rfl ?_
  refine x_iconst C (nI 0) dX5_cut_16 (by decide +kernel) ?_
  refine x_iload_n C dX5_cut_17 rfl 0 rfl ?_
  refine x_calli (x_runS C hK hNW (c_m_isIn0 l D tys cI cJ cA hI hJ hR (nI lf) nw (by first | omega | assumption)) (va_cwS 3 C.2.2.2.2 gX5_cut_X5_isIn rfl rfl rfl (by decide +kernel) ⟨by decide, by decide⟩) [] rfl (by decide) (st := []) rfl rfl (Nat.le_of_ble_eq_true rfl) dX5_cut_18 ⟨by first | decide | omega | exact (show _ ≤ 0 by omega), by first | decide | omega | exact (show _ ≤ 0 by omega)⟩) hA [] rfl [0, 1] [(yo, OB 5 [.int (nI 0), .int ri, .ref yt, .ref ys, .ref yf, .ref yc, .int (nI co), .int (nI dn), .ref yd]), (ys, AI cI 2 (sz2 nw np))] rfl (by decide) (by decide) [0, 1] (by decide) (wf := (fun (u : Unit) => [(yo, OB 5 [.int (nI 0), .int ri, .ref yt, .ref ys, .ref yf, .ref yc, .int (nI co), .int (nI dn), .ref yd]), (ys, AI cI 2 (sz2 nw np))])) (fun _ => rfl) (fun r_3 u h_4 => ?_)
  subst h_4
  refine x_if_ne C 30 dX5_cut_21 (by decide) (fun h_5 => ?_) (fun h_5 => ?_)
  ·
    refine x_aload_n C dX5_cut_30 rfl 1 rfl ?_
    refine x_get C hK in_X5_cut_X5 0 rfl rfl 3 (by decide) (by decide +kernel) rfl rfl dX5_cut_31 ?_
    refine x_iload_n C dX5_cut_34 rfl 2 rfl ?_
    refine x_calli (x_runS C hK hNW (c_m_of1 l D tys cI cJ cA hI hJ hR  ) (va_cwS 1 C.2.2.2.2 gX5_cut_X5_of rfl rfl rfl (by decide +kernel) ⟨by decide, by decide⟩) [] rfl (by decide) (st := [.ref ys]) rfl rfl (Nat.le_of_ble_eq_true rfl) dX5_cut_35 ⟨by first | decide | omega | exact (show _ ≤ 0 by omega), by first | decide | omega | exact (show _ ≤ 0 by omega)⟩) hA [] rfl [0, 1] [(yo, OB 5 [.int (nI 0), .int ri, .ref yt, .ref ys, .ref yf, .ref yc, .int (nI co), .int (nI dn), .ref yd]), (ys, AI cI 2 (sz2 nw np))] rfl (by decide) (by decide) [0, 1] (by decide) (wf := (fun (u : Unit) => [(yo, OB 5 [.int (nI 0), .int ri, .ref yt, .ref ys, .ref yf, .ref yc, .int (nI co), .int (nI dn), .ref yd]), (ys, AI cI 2 (sz2 nw np))])) (fun _ => rfl) (fun r_6 u h_7 => ?_)
    subst h_7
    refine x_iload_n C dX5_cut_38 rfl 3 rfl ?_
    refine x_iast C hK 1 0 rfl hI (by omega) (by omega) [(yo, OB 5 [.int (nI 0), .int ri, .ref yt, .ref ys, .ref yf, .ref yc, .int (nI co), .int (nI dn), .ref yd]), (ys, AI cI 2 (upd (sz2 nw np) 0 (nI lf)))] rfl dX5_cut_39 ?_
    refine x_ws [(yo, OB 5 [.int (nI 0), .int ri, .ref yt, .ref ys, .ref yf, .ref yc, .int (nI co), .int (nI dn), .ref yd]), (ys, AI cI 2 (sz2 lf np))] (by rw [sz2_u0]) ?_
    refine x_iload_n C dX5_cut_40 rfl 0 rfl ?_
    refine x_iload_n C dX5_cut_41 rfl 3 rfl ?_
    refine xn_isub C (by omega) dX5_cut_42 ?_
    refine x_iret C hK hlk hrt hQ hH0 hAA () ?_ [0, 1] (by decide) rfl (by first | decide | omega) (by first | decide | omega) dX5_cut_43
    first | rfl | (exact ⟨rfl, rfl⟩) | trivial | assumption | omega
  ·
    exact absurd ((bI_eq0 h_5).symm.trans ((below_n (j := lf) (b := nw + 1) (by omega)).trans (decide_eq_true (by omega)))) (by decide)
abbrev rm_m_cutX1 : Room := { frames := 1, cells := 0, slots := 0, locals := 22 }
set_option maxRecDepth 100000 in
set_option maxHeartbeats 4000000 in
theorem c_m_cutX1 (l : Launch) (D : va_G) (tys : List (ClassId × FieldType)) (cI cJ cA : ClassId) (hI : tys[0]? = some (cI, .int)) (hJ : tys[1]? = some (cJ, .long)) (hR : tys[2]? = some (cA, .array .int)) (yo : Nat) (thr : Int32) (ri : Int32) (yt : Nat) (ys : Nat) (yf : Nat) (yc : Nat) (co : Nat) (dn : Nat) (yd : Nat) (nw : Nat) (np : Nat) (lf : Int32) (hnw : nw ≤ 40) (hlf : below lf (nw + 1) = false) : MI l yX5_cut wsX5_cut rm_m_cutX1 D tys [.ref yo, .int (nI 1), .int lf] [(yo, OB 5 [.int thr, .int ri, .ref yt, .ref ys, .ref yf, .ref yc, .int (nI co), .int (nI dn), .ref yd]), (ys, AI cI 2 (sz2 nw np))] Unit (fun r (_ : Unit) => r = nI 0) (fun (_ : Unit) => [(yo, OB 5 [.int (nI 1), .int ri, .ref yt, .ref ys, .ref yf, .ref yc, .int (nI co), .int (nI dn), .ref yd]), (ys, AI cI 2 (sz2 nw np))]) 0 0 := by
  intro sz
  refine x_met (cc := cX5_cut) (maxL := 4) (ret := (some .int)) (by decide +kernel) rfl (by show _ ≤ _; simp [lg_sl, Value.category]) [(0, .ref yo), (1, .int (nI 1)), (2, .int lf)] rfl ?_
  intro p e s m args below meth c Q A H0 C hK hNW hlk hrt hnm hQ hH0 hAA hA
  refine x_aload_n C dX5_cut_0 rfl 0 rfl ?_
  refine x_iconst C (nI 0) dX5_cut_1 (by decide +kernel) ?_
  refine x_put C hK in_X5_cut_X5 tyX5 tyX5_ok nmX5 0 rfl rfl 0 (by decide) (by decide +kernel) rfl rfl (tyX5_ok 0 (by decide)) rfl rfl (Nat.le_of_ble_eq_true rfl) [(yo, OB 5 [.int (nI 0), .int ri, .ref yt, .ref ys, .ref yf, .ref yc, .int (nI co), .int (nI dn), .ref yd]), (ys, AI cI 2 (sz2 nw np))] rfl dX5_cut_2 ?_
  refine x_aload_n C dX5_cut_5 rfl 0 rfl ?_
  refine x_get C hK in_X5_cut_X5 0 rfl rfl 3 (by decide) (by decide +kernel) rfl rfl dX5_cut_6 ?_
  refine x_iload_n C dX5_cut_9 rfl 1 rfl ?_
  refine x_calli (x_runS C hK hNW (c_m_of1 l D tys cI cJ cA hI hJ hR  ) (va_cwS 1 C.2.2.2.2 gX5_cut_X5_of rfl rfl rfl (by decide +kernel) ⟨by decide, by decide⟩) [] rfl (by decide) (st := [.ref ys]) rfl rfl (Nat.le_of_ble_eq_true rfl) dX5_cut_10 ⟨by first | decide | omega | exact (show _ ≤ 0 by omega), by first | decide | omega | exact (show _ ≤ 0 by omega)⟩) hA [] rfl [0, 1] [(yo, OB 5 [.int (nI 0), .int ri, .ref yt, .ref ys, .ref yf, .ref yc, .int (nI co), .int (nI dn), .ref yd]), (ys, AI cI 2 (sz2 nw np))] rfl (by decide) (by decide) [0, 1] (by decide) (wf := (fun (u : Unit) => [(yo, OB 5 [.int (nI 0), .int ri, .ref yt, .ref ys, .ref yf, .ref yc, .int (nI co), .int (nI dn), .ref yd]), (ys, AI cI 2 (sz2 nw np))])) (fun _ => rfl) (fun r_1 u h_2 => ?_)
  subst h_2
  refine x_iald C hK 1 0 rfl hI (by omega) (by omega) dX5_cut_13 ?_
  refine x_topi (nI nw) rfl ?_
  refine x_istore_n C [(3, .int (nI nw)), (0, .ref yo), (1, .int (nI 1)), (2, .int lf)] dX5_cut_14 rfl (by decide) rfl ?_
  refine x_iload_n C dX5_cut_15 rfl 3 rfl ?_
  refine x_iconst C (nI 0) dX5_cut_16 (by decide +kernel) ?_
  refine x_iload_n C dX5_cut_17 rfl 0 rfl ?_
  refine x_calli (x_runS C hK hNW (c_m_isIn0 l D tys cI cJ cA hI hJ hR lf nw (by first | omega | assumption)) (va_cwS 3 C.2.2.2.2 gX5_cut_X5_isIn rfl rfl rfl (by decide +kernel) ⟨by decide, by decide⟩) [] rfl (by decide) (st := []) rfl rfl (Nat.le_of_ble_eq_true rfl) dX5_cut_18 ⟨by first | decide | omega | exact (show _ ≤ 0 by omega), by first | decide | omega | exact (show _ ≤ 0 by omega)⟩) hA [] rfl [0, 1] [(yo, OB 5 [.int (nI 0), .int ri, .ref yt, .ref ys, .ref yf, .ref yc, .int (nI co), .int (nI dn), .ref yd]), (ys, AI cI 2 (sz2 nw np))] rfl (by decide) (by decide) [0, 1] (by decide) (wf := (fun (u : Unit) => [(yo, OB 5 [.int (nI 0), .int ri, .ref yt, .ref ys, .ref yf, .ref yc, .int (nI co), .int (nI dn), .ref yd]), (ys, AI cI 2 (sz2 nw np))])) (fun _ => rfl) (fun r_3 u h_4 => ?_)
  subst h_4
  refine x_if_ne C 30 dX5_cut_21 (by decide) (fun h_5 => ?_) (fun h_5 => ?_)
  ·
    exact absurd ((bI_ne0 h_5).symm.trans hlf) (by decide)
  ·
    refine x_aload_n C dX5_cut_24 rfl 1 rfl ?_
    refine x_iconst C (nI 1) dX5_cut_25 (by decide +kernel) ?_
    refine x_calli (x_runV C hK hNW (c_m_fail l D tys cI cJ cA hI hJ hR yo (nI 0) ri yt ys yf yc co dn yd 1 ) (cwV 1 C.2.2.2.2 gX5_cut_X5_fail rfl rfl rfl (by decide +kernel) ⟨by decide, by decide⟩) [0] rfl (by decide) 0 5 rfl rfl rfl (st := []) rfl rfl (Nat.le_of_ble_eq_true rfl) dX5_cut_26 ⟨by first | decide | omega | exact (show _ ≤ 0 by omega), by first | decide | omega | exact (show _ ≤ 0 by omega)⟩) hA [0] rfl [1] [(ys, AI cI 2 (sz2 nw np))] rfl (by decide) (by decide) [1, 0] (by decide) (wf := (fun (u : Unit) => [(yo, OB 5 [.int (nI 1), .int ri, .ref yt, .ref ys, .ref yf, .ref yc, .int (nI co), .int (nI dn), .ref yd]), (ys, AI cI 2 (sz2 nw np))])) (fun _ => rfl) (fun r_6 u h_7 => ?_)
    subst h_7
    refine x_iret C hK hlk hrt hQ hH0 hAA () ?_ [0, 1] (by decide) rfl (by first | decide | omega) (by first | decide | omega) dX5_cut_29
    first | rfl | (exact ⟨rfl, rfl⟩) | trivial | assumption | omega
abbrev rm_m_cut0 : Room := { frames := 1, cells := 0, slots := 0, locals := 22 }
set_option maxRecDepth 100000 in
set_option maxHeartbeats 4000000 in
theorem c_m_cut0 (l : Launch) (D : va_G) (tys : List (ClassId × FieldType)) (cI cJ cA : ClassId) (hI : tys[0]? = some (cI, .int)) (hJ : tys[1]? = some (cJ, .long)) (hR : tys[2]? = some (cA, .array .int)) (yo : Nat) (thr : Int32) (ri : Int32) (yt : Nat) (ys : Nat) (yf : Nat) (yc : Nat) (co : Nat) (dn : Nat) (yd : Nat) (nw : Nat) (np : Nat) (lf : Nat) (hnp : np ≤ 40) (hlf : lf ≤ np) : MI l yX5_cut wsX5_cut rm_m_cut0 D tys [.ref yo, .int (nI 0), .int (nI lf)] [(yo, OB 5 [.int thr, .int ri, .ref yt, .ref ys, .ref yf, .ref yc, .int (nI co), .int (nI dn), .ref yd]), (ys, AI cI 2 (sz2 nw np))] Unit (fun r (_ : Unit) => r = nI (np - lf)) (fun (_ : Unit) => [(yo, OB 5 [.int (nI 0), .int ri, .ref yt, .ref ys, .ref yf, .ref yc, .int (nI co), .int (nI dn), .ref yd]), (ys, AI cI 2 (sz2 nw lf))]) 0 0 := by
  intro sz
  refine x_met (cc := cX5_cut) (maxL := 4) (ret := (some .int)) (by decide +kernel) rfl (by show _ ≤ _; simp [lg_sl, Value.category]) [(0, .ref yo), (1, .int (nI 0)), (2, .int (nI lf))] rfl ?_
  intro p e s m args below meth c Q A H0 C hK hNW hlk hrt hnm hQ hH0 hAA hA
  refine x_aload_n C dX5_cut_0 rfl 0 rfl ?_
  refine x_iconst C (nI 0) dX5_cut_1 (by decide +kernel) ?_
  refine x_put C hK in_X5_cut_X5 tyX5 tyX5_ok nmX5 0 rfl rfl 0 (by decide) (by decide +kernel) rfl rfl (tyX5_ok 0 (by decide)) rfl rfl (Nat.le_of_ble_eq_true rfl) [(yo, OB 5 [.int (nI 0), .int ri, .ref yt, .ref ys, .ref yf, .ref yc, .int (nI co), .int (nI dn), .ref yd]), (ys, AI cI 2 (sz2 nw np))] rfl dX5_cut_2 ?_
  refine x_aload_n C dX5_cut_5 rfl 0 rfl ?_
  refine x_get C hK in_X5_cut_X5 0 rfl rfl 3 (by decide) (by decide +kernel) rfl rfl dX5_cut_6 ?_
  refine x_iload_n C dX5_cut_9 rfl 1 rfl ?_
  refine x_calli (x_runS C hK hNW (c_m_of0 l D tys cI cJ cA hI hJ hR  ) (va_cwS 1 C.2.2.2.2 gX5_cut_X5_of rfl rfl rfl (by decide +kernel) ⟨by decide, by decide⟩) [] rfl (by decide) (st := [.ref ys]) rfl rfl (Nat.le_of_ble_eq_true rfl) dX5_cut_10 ⟨by first | decide | omega | exact (show _ ≤ 0 by omega), by first | decide | omega | exact (show _ ≤ 0 by omega)⟩) hA [] rfl [0, 1] [(yo, OB 5 [.int (nI 0), .int ri, .ref yt, .ref ys, .ref yf, .ref yc, .int (nI co), .int (nI dn), .ref yd]), (ys, AI cI 2 (sz2 nw np))] rfl (by decide) (by decide) [0, 1] (by decide) (wf := (fun (u : Unit) => [(yo, OB 5 [.int (nI 0), .int ri, .ref yt, .ref ys, .ref yf, .ref yc, .int (nI co), .int (nI dn), .ref yd]), (ys, AI cI 2 (sz2 nw np))])) (fun _ => rfl) (fun r_1 u h_2 => ?_)
  subst h_2
  refine x_iald C hK 1 0 rfl hI (by omega) (by omega) dX5_cut_13 ?_
  refine x_topi (nI np) rfl ?_
  refine x_istore_n C [(3, .int (nI np)), (0, .ref yo), (1, .int (nI 0)), (2, .int (nI lf))] dX5_cut_14 rfl (by decide) rfl ?_
  refine x_iload_n C dX5_cut_15 rfl 3 rfl ?_
  refine x_iconst C (nI 0) dX5_cut_16 (by decide +kernel) ?_
  refine x_iload_n C dX5_cut_17 rfl 0 rfl ?_
  refine x_calli (x_runS C hK hNW (c_m_isIn0 l D tys cI cJ cA hI hJ hR (nI lf) np (by first | omega | assumption)) (va_cwS 3 C.2.2.2.2 gX5_cut_X5_isIn rfl rfl rfl (by decide +kernel) ⟨by decide, by decide⟩) [] rfl (by decide) (st := []) rfl rfl (Nat.le_of_ble_eq_true rfl) dX5_cut_18 ⟨by first | decide | omega | exact (show _ ≤ 0 by omega), by first | decide | omega | exact (show _ ≤ 0 by omega)⟩) hA [] rfl [0, 1] [(yo, OB 5 [.int (nI 0), .int ri, .ref yt, .ref ys, .ref yf, .ref yc, .int (nI co), .int (nI dn), .ref yd]), (ys, AI cI 2 (sz2 nw np))] rfl (by decide) (by decide) [0, 1] (by decide) (wf := (fun (u : Unit) => [(yo, OB 5 [.int (nI 0), .int ri, .ref yt, .ref ys, .ref yf, .ref yc, .int (nI co), .int (nI dn), .ref yd]), (ys, AI cI 2 (sz2 nw np))])) (fun _ => rfl) (fun r_3 u h_4 => ?_)
  subst h_4
  refine x_if_ne C 30 dX5_cut_21 (by decide) (fun h_5 => ?_) (fun h_5 => ?_)
  ·
    refine x_aload_n C dX5_cut_30 rfl 1 rfl ?_
    refine x_get C hK in_X5_cut_X5 0 rfl rfl 3 (by decide) (by decide +kernel) rfl rfl dX5_cut_31 ?_
    refine x_iload_n C dX5_cut_34 rfl 2 rfl ?_
    refine x_calli (x_runS C hK hNW (c_m_of0 l D tys cI cJ cA hI hJ hR  ) (va_cwS 1 C.2.2.2.2 gX5_cut_X5_of rfl rfl rfl (by decide +kernel) ⟨by decide, by decide⟩) [] rfl (by decide) (st := [.ref ys]) rfl rfl (Nat.le_of_ble_eq_true rfl) dX5_cut_35 ⟨by first | decide | omega | exact (show _ ≤ 0 by omega), by first | decide | omega | exact (show _ ≤ 0 by omega)⟩) hA [] rfl [0, 1] [(yo, OB 5 [.int (nI 0), .int ri, .ref yt, .ref ys, .ref yf, .ref yc, .int (nI co), .int (nI dn), .ref yd]), (ys, AI cI 2 (sz2 nw np))] rfl (by decide) (by decide) [0, 1] (by decide) (wf := (fun (u : Unit) => [(yo, OB 5 [.int (nI 0), .int ri, .ref yt, .ref ys, .ref yf, .ref yc, .int (nI co), .int (nI dn), .ref yd]), (ys, AI cI 2 (sz2 nw np))])) (fun _ => rfl) (fun r_6 u h_7 => ?_)
    subst h_7
    refine x_iload_n C dX5_cut_38 rfl 3 rfl ?_
    refine x_iast C hK 1 0 rfl hI (by omega) (by omega) [(yo, OB 5 [.int (nI 0), .int ri, .ref yt, .ref ys, .ref yf, .ref yc, .int (nI co), .int (nI dn), .ref yd]), (ys, AI cI 2 (upd (sz2 nw np) 1 (nI lf)))] rfl dX5_cut_39 ?_
    refine x_ws [(yo, OB 5 [.int (nI 0), .int ri, .ref yt, .ref ys, .ref yf, .ref yc, .int (nI co), .int (nI dn), .ref yd]), (ys, AI cI 2 (sz2 nw lf))] (by rw [sz2_u1]) ?_
    refine x_iload_n C dX5_cut_40 rfl 0 rfl ?_
    refine x_iload_n C dX5_cut_41 rfl 3 rfl ?_
    refine xn_isub C (by omega) dX5_cut_42 ?_
    refine x_iret C hK hlk hrt hQ hH0 hAA () ?_ [0, 1] (by decide) rfl (by first | decide | omega) (by first | decide | omega) dX5_cut_43
    first | rfl | (exact ⟨rfl, rfl⟩) | trivial | assumption | omega
  ·
    exact absurd ((bI_eq0 h_5).symm.trans ((below_n (j := lf) (b := np + 1) (by omega)).trans (decide_eq_true (by omega)))) (by decide)
abbrev rm_m_cutX0 : Room := { frames := 1, cells := 0, slots := 0, locals := 22 }
set_option maxRecDepth 100000 in
set_option maxHeartbeats 4000000 in
theorem c_m_cutX0 (l : Launch) (D : va_G) (tys : List (ClassId × FieldType)) (cI cJ cA : ClassId) (hI : tys[0]? = some (cI, .int)) (hJ : tys[1]? = some (cJ, .long)) (hR : tys[2]? = some (cA, .array .int)) (yo : Nat) (thr : Int32) (ri : Int32) (yt : Nat) (ys : Nat) (yf : Nat) (yc : Nat) (co : Nat) (dn : Nat) (yd : Nat) (nw : Nat) (np : Nat) (lf : Int32) (hnp : np ≤ 40) (hlf : below lf (np + 1) = false) : MI l yX5_cut wsX5_cut rm_m_cutX0 D tys [.ref yo, .int (nI 0), .int lf] [(yo, OB 5 [.int thr, .int ri, .ref yt, .ref ys, .ref yf, .ref yc, .int (nI co), .int (nI dn), .ref yd]), (ys, AI cI 2 (sz2 nw np))] Unit (fun r (_ : Unit) => r = nI 0) (fun (_ : Unit) => [(yo, OB 5 [.int (nI 1), .int ri, .ref yt, .ref ys, .ref yf, .ref yc, .int (nI co), .int (nI dn), .ref yd]), (ys, AI cI 2 (sz2 nw np))]) 0 0 := by
  intro sz
  refine x_met (cc := cX5_cut) (maxL := 4) (ret := (some .int)) (by decide +kernel) rfl (by show _ ≤ _; simp [lg_sl, Value.category]) [(0, .ref yo), (1, .int (nI 0)), (2, .int lf)] rfl ?_
  intro p e s m args below meth c Q A H0 C hK hNW hlk hrt hnm hQ hH0 hAA hA
  refine x_aload_n C dX5_cut_0 rfl 0 rfl ?_
  refine x_iconst C (nI 0) dX5_cut_1 (by decide +kernel) ?_
  refine x_put C hK in_X5_cut_X5 tyX5 tyX5_ok nmX5 0 rfl rfl 0 (by decide) (by decide +kernel) rfl rfl (tyX5_ok 0 (by decide)) rfl rfl (Nat.le_of_ble_eq_true rfl) [(yo, OB 5 [.int (nI 0), .int ri, .ref yt, .ref ys, .ref yf, .ref yc, .int (nI co), .int (nI dn), .ref yd]), (ys, AI cI 2 (sz2 nw np))] rfl dX5_cut_2 ?_
  refine x_aload_n C dX5_cut_5 rfl 0 rfl ?_
  refine x_get C hK in_X5_cut_X5 0 rfl rfl 3 (by decide) (by decide +kernel) rfl rfl dX5_cut_6 ?_
  refine x_iload_n C dX5_cut_9 rfl 1 rfl ?_
  refine x_calli (x_runS C hK hNW (c_m_of0 l D tys cI cJ cA hI hJ hR  ) (va_cwS 1 C.2.2.2.2 gX5_cut_X5_of rfl rfl rfl (by decide +kernel) ⟨by decide, by decide⟩) [] rfl (by decide) (st := [.ref ys]) rfl rfl (Nat.le_of_ble_eq_true rfl) dX5_cut_10 ⟨by first | decide | omega | exact (show _ ≤ 0 by omega), by first | decide | omega | exact (show _ ≤ 0 by omega)⟩) hA [] rfl [0, 1] [(yo, OB 5 [.int (nI 0), .int ri, .ref yt, .ref ys, .ref yf, .ref yc, .int (nI co), .int (nI dn), .ref yd]), (ys, AI cI 2 (sz2 nw np))] rfl (by decide) (by decide) [0, 1] (by decide) (wf := (fun (u : Unit) => [(yo, OB 5 [.int (nI 0), .int ri, .ref yt, .ref ys, .ref yf, .ref yc, .int (nI co), .int (nI dn), .ref yd]), (ys, AI cI 2 (sz2 nw np))])) (fun _ => rfl) (fun r_1 u h_2 => ?_)
  subst h_2
  refine x_iald C hK 1 0 rfl hI (by omega) (by omega) dX5_cut_13 ?_
  refine x_topi (nI np) rfl ?_
  refine x_istore_n C [(3, .int (nI np)), (0, .ref yo), (1, .int (nI 0)), (2, .int lf)] dX5_cut_14 rfl (by decide) rfl ?_
  refine x_iload_n C dX5_cut_15 rfl 3 rfl ?_
  refine x_iconst C (nI 0) dX5_cut_16 (by decide +kernel) ?_
  refine x_iload_n C dX5_cut_17 rfl 0 rfl ?_
  refine x_calli (x_runS C hK hNW (c_m_isIn0 l D tys cI cJ cA hI hJ hR lf np (by first | omega | assumption)) (va_cwS 3 C.2.2.2.2 gX5_cut_X5_isIn rfl rfl rfl (by decide +kernel) ⟨by decide, by decide⟩) [] rfl (by decide) (st := []) rfl rfl (Nat.le_of_ble_eq_true rfl) dX5_cut_18 ⟨by first | decide | omega | exact (show _ ≤ 0 by omega), by first | decide | omega | exact (show _ ≤ 0 by omega)⟩) hA [] rfl [0, 1] [(yo, OB 5 [.int (nI 0), .int ri, .ref yt, .ref ys, .ref yf, .ref yc, .int (nI co), .int (nI dn), .ref yd]), (ys, AI cI 2 (sz2 nw np))] rfl (by decide) (by decide) [0, 1] (by decide) (wf := (fun (u : Unit) => [(yo, OB 5 [.int (nI 0), .int ri, .ref yt, .ref ys, .ref yf, .ref yc, .int (nI co), .int (nI dn), .ref yd]), (ys, AI cI 2 (sz2 nw np))])) (fun _ => rfl) (fun r_3 u h_4 => ?_)
  subst h_4
  refine x_if_ne C 30 dX5_cut_21 (by decide) (fun h_5 => ?_) (fun h_5 => ?_)
  ·
    exact absurd ((bI_ne0 h_5).symm.trans hlf) (by decide)
  ·
    refine x_aload_n C dX5_cut_24 rfl 1 rfl ?_
    refine x_iconst C (nI 1) dX5_cut_25 (by decide +kernel) ?_
    refine x_calli (x_runV C hK hNW (c_m_fail l D tys cI cJ cA hI hJ hR yo (nI 0) ri yt ys yf yc co dn yd 1 ) (cwV 1 C.2.2.2.2 gX5_cut_X5_fail rfl rfl rfl (by decide +kernel) ⟨by decide, by decide⟩) [0] rfl (by decide) 0 5 rfl rfl rfl (st := []) rfl rfl (Nat.le_of_ble_eq_true rfl) dX5_cut_26 ⟨by first | decide | omega | exact (show _ ≤ 0 by omega), by first | decide | omega | exact (show _ ≤ 0 by omega)⟩) hA [0] rfl [1] [(ys, AI cI 2 (sz2 nw np))] rfl (by decide) (by decide) [1, 0] (by decide) (wf := (fun (u : Unit) => [(yo, OB 5 [.int (nI 1), .int ri, .ref yt, .ref ys, .ref yf, .ref yc, .int (nI co), .int (nI dn), .ref yd]), (ys, AI cI 2 (sz2 nw np))])) (fun _ => rfl) (fun r_6 u h_7 => ?_)
    subst h_7
    refine x_iret C hK hlk hrt hQ hH0 hAA () ?_ [0, 1] (by decide) rfl (by first | decide | omega) (by first | decide | omega) dX5_cut_29
    first | rfl | (exact ⟨rfl, rfl⟩) | trivial | assumption | omega
abbrev rm_m_above : Room := { frames := 1, cells := 0, slots := 0, locals := 23 }
set_option maxRecDepth 100000 in
set_option maxHeartbeats 4000000 in
theorem c_m_above (l : Launch) (D : va_G) (tys : List (ClassId × FieldType)) (cI cJ cA : ClassId) (hI : tys[0]? = some (cI, .int)) (hJ : tys[1]? = some (cJ, .long)) (hR : tys[2]? = some (cA, .array .int)) (yo : Nat) (thr : Int32) (ri : Int32) (yt : Nat) (ys : Nat) (yf : Nat) (yc : Nat) (co : Nat) (dn : Nat) (yd : Nat) (nw : Nat) (np : Nat) (ti : Nat → Int32) (g0 : Nat) (g1 : Nat) (bw : Nat → Int32) (bp : Nat → Int32) (pk : Nat) (hnw : nw ≤ 40) (hpk : pk < 40) (hri : ri = 0 ∨ ri = 1) (hbw : ∀ k, k < nw → ∃ j, j < 8 ∧ bw k = nI j) : ML l yX5_above wsX5_above rm_m_above D tys [.ref yo, .int (nI pk)] [(yo, OB 5 [.int thr, .int ri, .ref yt, .ref ys, .ref yf, .ref yc, .int (nI co), .int (nI dn), .ref yd]), (ys, AI cI 2 (sz2 nw np)), (yt, AI cI 10 ti), (yf, AR cA 2 (gr2 g0 g1)), (g0, AI cI 40 bw), (g1, AI cI 40 bp)] Unit (fun r (_ : Unit) => r = mkB (fun y0 => hbit (suA ri ti (bp pk)) (bw y0)) nw) (fun (_ : Unit) => [(yo, OB 5 [.int thr, .int ri, .ref yt, .ref ys, .ref yf, .ref yc, .int (nI co), .int (nI dn), .ref yd]), (ys, AI cI 2 (sz2 nw np)), (yt, AI cI 10 ti), (yf, AR cA 2 (gr2 g0 g1)), (g0, AI cI 40 bw), (g1, AI cI 40 bp)]) 0 0 := by
  intro sz
  refine x_met (cc := cX5_above) (maxL := 6) (ret := (some .long)) (by decide +kernel) rfl (by show _ ≤ _; simp [lg_sl, Value.category]) [(0, .ref yo), (1, .int (nI pk))] rfl ?_
  intro p e s m args below meth c Q A H0 C hK hNW hlk hrt hnm hQ hH0 hAA hA
  refine x_aload_n C dX5_above_0 rfl 0 rfl ?_
  refine x_iload_n C dX5_above_1 rfl 1 rfl ?_
  refine x_calli (x_runV C hK hNW (c_m_moved l D tys cI cJ cA hI hJ hR yo thr ri yt ys yf yc co dn yd ti g0 g1 bw bp pk (by first | omega | assumption)) (cwV 1 C.2.2.2.2 gX5_above_X5_moved rfl rfl rfl (by decide +kernel) ⟨by decide, by decide⟩) [0, 2, 3, 4, 5] rfl (by decide) 0 5 rfl rfl rfl (st := []) rfl rfl (Nat.le_of_ble_eq_true rfl) dX5_above_2 ⟨by first | decide | omega | exact (show _ ≤ 0 by omega), by first | decide | omega | exact (show _ ≤ 0 by omega)⟩) hA [0, 2, 3, 4, 5] rfl [1] [(ys, AI cI 2 (sz2 nw np))] rfl (by decide) (by decide) [1, 0, 2, 3, 4, 5] (by decide) (wf := (fun (u : Unit) => [(yo, OB 5 [.int thr, .int ri, .ref yt, .ref ys, .ref yf, .ref yc, .int (nI co), .int (nI dn), .ref yd]), (ys, AI cI 2 (sz2 nw np)), (yt, AI cI 10 ti), (yf, AR cA 2 (gr2 g0 g1)), (g0, AI cI 40 bw), (g1, AI cI 40 bp)])) (fun _ => rfl) (fun r_1 u h_2 => ?_)
  subst h_2
  refine x_istore_n C [(2, .int (mvF (bp pk) ti 10)), (0, .ref yo), (1, .int (nI pk))] dX5_above_5 rfl (by decide) rfl ?_
  refine x_lconst C (0 : Int64) dX5_above_6 rfl ?_
  refine x_lstore_n C [(3, .long (0 : Int64)), (2, .int (mvF (bp pk) ti 10)), (0, .ref yo), (1, .int (nI pk))] dX5_above_7 rfl (by decide) rfl ?_
  refine x_iconst C (nI 0) dX5_above_8 (by decide +kernel) ?_
  refine x_istore C [(5, .int (nI 0)), (3, .long (0 : Int64)), (2, .int (mvF (bp pk) ti 10)), (0, .ref yo), (1, .int (nI pk))] dX5_above_9 (by decide) rfl ?_
  have K_3 : ∀ (fuel : Nat) (i : Nat), (i ≤ nw) → nw - i < fuel → X_ p l e rm_m_above s m args below meth c Q D A H0 6 0 0 [(yo, OB 5 [.int thr, .int ri, .ref yt, .ref ys, .ref yf, .ref yc, .int (nI co), .int (nI dn), .ref yd]), (ys, AI cI 2 (sz2 nw np)), (yt, AI cI 10 ti), (yf, AR cA 2 (gr2 g0 g1)), (g0, AI cI 40 bw), (g1, AI cI 40 bp)] [(0, .ref yo), (1, .int (nI pk)), (2, .int (mvF (bp pk) ti 10)), (3, .long (mkB (fun y0 => hbit (suA ri ti (bp pk)) (bw y0)) i)), (5, .int (nI i))] 11 [] := by
    intro fuel
    induction fuel with
    | zero =>
      intros
      exact absurd (by assumption) (Nat.not_lt_zero _)
    | succ fuel ih_K_3 =>
      intro i hi hm_4
      refine x_iload C dX5_above_11 4 rfl ?_
      refine x_aload_n C dX5_above_13 rfl 0 rfl ?_
      refine x_get C hK in_X5_above_X5 0 rfl rfl 3 (by decide) (by decide +kernel) rfl rfl dX5_above_14 ?_
      refine x_iconst C (nI 0) dX5_above_17 (by decide +kernel) ?_
      refine x_iald C hK 1 0 rfl hI (by omega) (by omega) dX5_above_18 ?_
      refine x_topi (nI nw) rfl ?_
      refine xn_icmp_ge C 64 (by omega) (by omega) dX5_above_19 (by decide) (fun h_5 => ?_) (fun h_5 => ?_)
      ·
        have heq_i : nw = i := by omega
        subst heq_i
        refine x_lload_n C dX5_above_64 rfl 3 rfl ?_
        refine x_lret C hK hlk hrt hQ hH0 hAA () ?_ [0, 1, 2, 3, 4, 5] (by decide) rfl (by first | decide | omega) (by first | decide | omega) dX5_above_65
        first | rfl | (exact ⟨rfl, rfl⟩) | trivial | assumption | omega
      ·
        refine x_iload_n C dX5_above_22 rfl 2 rfl ?_
        refine x_aload_n C dX5_above_23 rfl 0 rfl ?_
        refine x_get C hK in_X5_above_X5 0 rfl rfl 4 (by decide) (by decide +kernel) rfl rfl dX5_above_24 ?_
        refine x_iconst C (nI 0) dX5_above_27 (by decide +kernel) ?_
        refine x_aald C hK (r := g0) 3 2 rfl hR rfl (by omega) (by omega) (by rfl) dX5_above_28 ?_
        refine x_iload C dX5_above_29 4 rfl ?_
        refine x_iald C hK 4 0 rfl hI (by omega) (by omega) dX5_above_31 ?_
        refine x_ishr C _ dX5_above_32 rfl ?_
        refine x_iconst C (nI 1) dX5_above_33 (by decide +kernel) ?_
        refine x_iand C _ dX5_above_34 rfl ?_
        refine x_iconst C (nI 1) dX5_above_35 (by decide +kernel) ?_
        refine x_icmp_ne C 43 dX5_above_36 (by decide) (fun h_6 => ?_) (fun h_6 => ?_)
        ·
          refine x_iconst C (nI 0) dX5_above_43 (by decide +kernel) ?_
          refine x_aload_n C dX5_above_44 rfl 0 rfl ?_
          refine x_get C hK in_X5_above_X5 0 rfl rfl 1 (by decide) (by decide +kernel) rfl rfl dX5_above_45 ?_
          refine x_icmp_ne C 58 dX5_above_48 (by decide) (fun h_7 => ?_) (fun h_7 => ?_)
          ·
            refine xn_iinc C (i + 1) [(5, .int (nI (i + 1))), (0, .ref yo), (1, .int (nI pk)), (2, .int (mvF (bp pk) ti 10)), (3, .long (mkB (fun y0 => hbit (suA ri ti (bp pk)) (bw y0)) i))] dX5_above_58 4 rfl (by rw [show Int32.ofInt 1 = nI 1 from by decide +kernel]; exact nI_add _ _) (by decide) rfl ?_
            refine x_goto C 11 dX5_above_61 (by decide) ?_
            refine x_lv [(0, .ref yo), (1, .int (nI pk)), (2, .int (mvF (bp pk) ti 10)), (3, .long (mkB (fun y0 => hbit (suA ri ti (bp pk)) (bw y0)) (i + 1))), (5, .int (nI (i + 1)))] [1, 2, 3, 4, 0] (by rw [show mkB (fun y0 => hbit (suA ri ti (bp pk)) (bw y0)) (i + 1) = mkB (fun y0 => hbit (suA ri ti (bp pk)) (bw y0)) i from by have hv := hbw i (by omega); first | exact (mkB_y (ab_yy hv (by assumption) (by assumption))).symm | exact mkB_n (ab_yn hv (by assumption) (by assumption) hri) | exact (mkB_y (ab_ny hv (by assumption) (by assumption))).symm | exact mkB_n (ab_nn hv (by assumption) (by assumption) hri) | exact mkB_y (ab_yy hv (by assumption) (by assumption)) | exact (mkB_n (ab_yn hv (by assumption) (by assumption) hri)).symm | exact mkB_y (ab_ny hv (by assumption) (by assumption)) | exact (mkB_n (ab_nn hv (by assumption) (by assumption) hri)).symm]; rfl) ?_
            exact ih_K_3 (i + 1) (by first | assumption | omega) (by omega)
          ·
            refine x_lload_n C dX5_above_51 rfl 3 rfl ?_
            refine x_lconst C (1 : Int64) dX5_above_52 rfl ?_
            refine x_iload C dX5_above_53 4 rfl ?_
            refine x_lshl C _ dX5_above_55 rfl ?_
            refine x_lor C _ dX5_above_56 rfl ?_
            refine x_lstore_n C [(3, .long ((mkB (fun y0 => hbit (suA ri ti (bp pk)) (bw y0)) i) ||| ((1 : Int64) <<< ((nI i).toInt64 &&& 63)))), (0, .ref yo), (1, .int (nI pk)), (2, .int (mvF (bp pk) ti 10)), (5, .int (nI i))] dX5_above_57 rfl (by decide) rfl ?_
            refine xn_iinc C (i + 1) [(5, .int (nI (i + 1))), (3, .long ((mkB (fun y0 => hbit (suA ri ti (bp pk)) (bw y0)) i) ||| ((1 : Int64) <<< ((nI i).toInt64 &&& 63)))), (0, .ref yo), (1, .int (nI pk)), (2, .int (mvF (bp pk) ti 10))] dX5_above_58 4 rfl (by rw [show Int32.ofInt 1 = nI 1 from by decide +kernel]; exact nI_add _ _) (by decide) rfl ?_
            refine x_goto C 11 dX5_above_61 (by decide) ?_
            refine x_lv [(0, .ref yo), (1, .int (nI pk)), (2, .int (mvF (bp pk) ti 10)), (3, .long (mkB (fun y0 => hbit (suA ri ti (bp pk)) (bw y0)) (i + 1))), (5, .int (nI (i + 1)))] [2, 3, 4, 1, 0] (by rw [show mkB (fun y0 => hbit (suA ri ti (bp pk)) (bw y0)) (i + 1) = (mkB (fun y0 => hbit (suA ri ti (bp pk)) (bw y0)) i) ||| ((1 : Int64) <<< ((nI i).toInt64 &&& 63)) from by have hv := hbw i (by omega); first | exact (mkB_y (ab_yy hv (by assumption) (by assumption))).symm | exact mkB_n (ab_yn hv (by assumption) (by assumption) hri) | exact (mkB_y (ab_ny hv (by assumption) (by assumption))).symm | exact mkB_n (ab_nn hv (by assumption) (by assumption) hri) | exact mkB_y (ab_yy hv (by assumption) (by assumption)) | exact (mkB_n (ab_yn hv (by assumption) (by assumption) hri)).symm | exact mkB_y (ab_ny hv (by assumption) (by assumption)) | exact (mkB_n (ab_nn hv (by assumption) (by assumption) hri)).symm]; rfl) ?_
            exact ih_K_3 (i + 1) (by first | assumption | omega) (by omega)
        ·
          refine x_iconst C (nI 1) dX5_above_39 (by decide +kernel) ?_
          refine x_goto C 44 dX5_above_40 (by decide) ?_
          refine x_aload_n C dX5_above_44 rfl 0 rfl ?_
          refine x_get C hK in_X5_above_X5 0 rfl rfl 1 (by decide) (by decide +kernel) rfl rfl dX5_above_45 ?_
          refine x_icmp_ne C 58 dX5_above_48 (by decide) (fun h_8 => ?_) (fun h_8 => ?_)
          ·
            refine xn_iinc C (i + 1) [(5, .int (nI (i + 1))), (0, .ref yo), (1, .int (nI pk)), (2, .int (mvF (bp pk) ti 10)), (3, .long (mkB (fun y0 => hbit (suA ri ti (bp pk)) (bw y0)) i))] dX5_above_58 4 rfl (by rw [show Int32.ofInt 1 = nI 1 from by decide +kernel]; exact nI_add _ _) (by decide) rfl ?_
            refine x_goto C 11 dX5_above_61 (by decide) ?_
            refine x_lv [(0, .ref yo), (1, .int (nI pk)), (2, .int (mvF (bp pk) ti 10)), (3, .long (mkB (fun y0 => hbit (suA ri ti (bp pk)) (bw y0)) (i + 1))), (5, .int (nI (i + 1)))] [1, 2, 3, 4, 0] (by rw [show mkB (fun y0 => hbit (suA ri ti (bp pk)) (bw y0)) (i + 1) = mkB (fun y0 => hbit (suA ri ti (bp pk)) (bw y0)) i from by have hv := hbw i (by omega); first | exact (mkB_y (ab_yy hv (by assumption) (by assumption))).symm | exact mkB_n (ab_yn hv (by assumption) (by assumption) hri) | exact (mkB_y (ab_ny hv (by assumption) (by assumption))).symm | exact mkB_n (ab_nn hv (by assumption) (by assumption) hri) | exact mkB_y (ab_yy hv (by assumption) (by assumption)) | exact (mkB_n (ab_yn hv (by assumption) (by assumption) hri)).symm | exact mkB_y (ab_ny hv (by assumption) (by assumption)) | exact (mkB_n (ab_nn hv (by assumption) (by assumption) hri)).symm]; rfl) ?_
            exact ih_K_3 (i + 1) (by first | assumption | omega) (by omega)
          ·
            refine x_lload_n C dX5_above_51 rfl 3 rfl ?_
            refine x_lconst C (1 : Int64) dX5_above_52 rfl ?_
            refine x_iload C dX5_above_53 4 rfl ?_
            refine x_lshl C _ dX5_above_55 rfl ?_
            refine x_lor C _ dX5_above_56 rfl ?_
            refine x_lstore_n C [(3, .long ((mkB (fun y0 => hbit (suA ri ti (bp pk)) (bw y0)) i) ||| ((1 : Int64) <<< ((nI i).toInt64 &&& 63)))), (0, .ref yo), (1, .int (nI pk)), (2, .int (mvF (bp pk) ti 10)), (5, .int (nI i))] dX5_above_57 rfl (by decide) rfl ?_
            refine xn_iinc C (i + 1) [(5, .int (nI (i + 1))), (3, .long ((mkB (fun y0 => hbit (suA ri ti (bp pk)) (bw y0)) i) ||| ((1 : Int64) <<< ((nI i).toInt64 &&& 63)))), (0, .ref yo), (1, .int (nI pk)), (2, .int (mvF (bp pk) ti 10))] dX5_above_58 4 rfl (by rw [show Int32.ofInt 1 = nI 1 from by decide +kernel]; exact nI_add _ _) (by decide) rfl ?_
            refine x_goto C 11 dX5_above_61 (by decide) ?_
            refine x_lv [(0, .ref yo), (1, .int (nI pk)), (2, .int (mvF (bp pk) ti 10)), (3, .long (mkB (fun y0 => hbit (suA ri ti (bp pk)) (bw y0)) (i + 1))), (5, .int (nI (i + 1)))] [2, 3, 4, 1, 0] (by rw [show mkB (fun y0 => hbit (suA ri ti (bp pk)) (bw y0)) (i + 1) = (mkB (fun y0 => hbit (suA ri ti (bp pk)) (bw y0)) i) ||| ((1 : Int64) <<< ((nI i).toInt64 &&& 63)) from by have hv := hbw i (by omega); first | exact (mkB_y (ab_yy hv (by assumption) (by assumption))).symm | exact mkB_n (ab_yn hv (by assumption) (by assumption) hri) | exact (mkB_y (ab_ny hv (by assumption) (by assumption))).symm | exact mkB_n (ab_nn hv (by assumption) (by assumption) hri) | exact mkB_y (ab_yy hv (by assumption) (by assumption)) | exact (mkB_n (ab_yn hv (by assumption) (by assumption) hri)).symm | exact mkB_y (ab_ny hv (by assumption) (by assumption)) | exact (mkB_n (ab_nn hv (by assumption) (by assumption) hri)).symm]; rfl) ?_
            exact ih_K_3 (i + 1) (by first | assumption | omega) (by omega)
  refine x_lv [(0, .ref yo), (1, .int (nI pk)), (2, .int (mvF (bp pk) ti 10)), (3, .long (mkB (fun y0 => hbit (suA ri ti (bp pk)) (bw y0)) 0)), (5, .int (nI 0))] [3, 4, 2, 1, 0] (by rw [show mkB (fun y0 => hbit (suA ri ti (bp pk)) (bw y0)) 0 = (0 : Int64) from by rfl]; rfl) ?_
  exact K_3 (nw - 0 + 1) 0 (by first | assumption | omega) (Nat.lt_succ_self _)
abbrev rm_m_isPlace : Room := { frames := 1, cells := 0, slots := 0, locals := 22 }
set_option maxRecDepth 100000 in
set_option maxHeartbeats 4000000 in
theorem c_m_isPlace (l : Launch) (D : va_G) (tys : List (ClassId × FieldType)) (cI cJ cA : ClassId) (hI : tys[0]? = some (cI, .int)) (hJ : tys[1]? = some (cJ, .long)) (hR : tys[2]? = some (cA, .array .int)) (yo : Nat) (thr : Int32) (ri : Int32) (yt : Nat) (ys : Nat) (yf : Nat) (yc : Nat) (co : Nat) (dn : Nat) (yd : Nat) (nw : Nat) (np : Nat) (pk : Int32) (en : Int32) (hnw : nw ≤ 40) (hnp : np ≤ 40) : MI l yX5_isPlace wsX5_isPlace rm_m_isPlace D tys [.ref yo, .int pk, .int en] [(yo, OB 5 [.int thr, .int ri, .ref yt, .ref ys, .ref yf, .ref yc, .int (nI co), .int (nI dn), .ref yd]), (ys, AI cI 2 (sz2 nw np))] Unit (fun r (_ : Unit) => r = bI (below pk np && below en nw)) (fun (_ : Unit) => [(yo, OB 5 [.int thr, .int ri, .ref yt, .ref ys, .ref yf, .ref yc, .int (nI co), .int (nI dn), .ref yd]), (ys, AI cI 2 (sz2 nw np))]) 0 0 := by
  intro sz
  refine x_met (cc := cX5_isPlace) (maxL := 3) (ret := (some .boolean)) (by decide +kernel) rfl (by show _ ≤ _; simp [lg_sl, Value.category]) [(0, .ref yo), (1, .int pk), (2, .int en)] rfl ?_
  intro p e s m args below meth c Q A H0 C hK hNW hlk hrt hnm hQ hH0 hAA hA
  refine x_iload_n C dX5_isPlace_0 rfl 1 rfl ?_
  refine x_iconst C (nI 0) dX5_isPlace_1 (by decide +kernel) ?_
  refine x_aload_n C dX5_isPlace_2 rfl 0 rfl ?_
  refine x_get C hK in_X5_isPlace_X5 0 rfl rfl 3 (by decide) (by decide +kernel) rfl rfl dX5_isPlace_3 ?_
  refine x_iconst C (nI 1) dX5_isPlace_6 (by decide +kernel) ?_
  refine x_iald C hK 1 0 rfl hI (by omega) (by omega) dX5_isPlace_7 ?_
  refine x_topi (nI np) rfl ?_
  refine x_iconst C (nI 1) dX5_isPlace_8 (by decide +kernel) ?_
  refine x_isub C _ dX5_isPlace_9 rfl ?_
  refine x_calli (x_runS C hK hNW (c_m_isInS l D tys cI cJ cA hI hJ hR pk np (by first | omega | assumption)) (va_cwS 3 C.2.2.2.2 gX5_isPlace_X5_isIn rfl rfl rfl (by decide +kernel) ⟨by decide, by decide⟩) [] rfl (by decide) (st := []) rfl rfl (Nat.le_of_ble_eq_true rfl) dX5_isPlace_10 ⟨by first | decide | omega | exact (show _ ≤ 0 by omega), by first | decide | omega | exact (show _ ≤ 0 by omega)⟩) hA [] rfl [0, 1] [(yo, OB 5 [.int thr, .int ri, .ref yt, .ref ys, .ref yf, .ref yc, .int (nI co), .int (nI dn), .ref yd]), (ys, AI cI 2 (sz2 nw np))] rfl (by decide) (by decide) [0, 1] (by decide) (wf := (fun (u : Unit) => [(yo, OB 5 [.int thr, .int ri, .ref yt, .ref ys, .ref yf, .ref yc, .int (nI co), .int (nI dn), .ref yd]), (ys, AI cI 2 (sz2 nw np))])) (fun _ => rfl) (fun r_1 u h_2 => ?_)
  subst h_2
  refine x_if_eq C 36 dX5_isPlace_13 (by decide) (fun h_3 => ?_) (fun h_3 => ?_)
  ·
    refine x_iconst C (nI 0) dX5_isPlace_36 (by decide +kernel) ?_
    refine x_zret C hK hlk hrt hQ hH0 hAA () (by first | (left; rfl) | (right; rfl) | assumption | (simp; done)) ?_ [0, 1] (by decide) rfl (by first | decide | omega) (by first | decide | omega) dX5_isPlace_37
    first | exact bAnd_tt (by assumption) (by assumption) | exact bAnd_f1 (by assumption) | exact bAnd_f2 (by assumption)
  ·
    refine x_iload_n C dX5_isPlace_16 rfl 2 rfl ?_
    refine x_iconst C (nI 0) dX5_isPlace_17 (by decide +kernel) ?_
    refine x_aload_n C dX5_isPlace_18 rfl 0 rfl ?_
    refine x_get C hK in_X5_isPlace_X5 0 rfl rfl 3 (by decide) (by decide +kernel) rfl rfl dX5_isPlace_19 ?_
    refine x_iconst C (nI 0) dX5_isPlace_22 (by decide +kernel) ?_
    refine x_iald C hK 1 0 rfl hI (by omega) (by omega) dX5_isPlace_23 ?_
    refine x_topi (nI nw) rfl ?_
    refine x_iconst C (nI 1) dX5_isPlace_24 (by decide +kernel) ?_
    refine x_isub C _ dX5_isPlace_25 rfl ?_
    refine x_calli (x_runS C hK hNW (c_m_isInS l D tys cI cJ cA hI hJ hR en nw (by first | omega | assumption)) (va_cwS 3 C.2.2.2.2 gX5_isPlace_X5_isIn rfl rfl rfl (by decide +kernel) ⟨by decide, by decide⟩) [] rfl (by decide) (st := []) rfl rfl (Nat.le_of_ble_eq_true rfl) dX5_isPlace_26 ⟨by first | decide | omega | exact (show _ ≤ 0 by omega), by first | decide | omega | exact (show _ ≤ 0 by omega)⟩) hA [] rfl [0, 1] [(yo, OB 5 [.int thr, .int ri, .ref yt, .ref ys, .ref yf, .ref yc, .int (nI co), .int (nI dn), .ref yd]), (ys, AI cI 2 (sz2 nw np))] rfl (by decide) (by decide) [0, 1] (by decide) (wf := (fun (u : Unit) => [(yo, OB 5 [.int thr, .int ri, .ref yt, .ref ys, .ref yf, .ref yc, .int (nI co), .int (nI dn), .ref yd]), (ys, AI cI 2 (sz2 nw np))])) (fun _ => rfl) (fun r_4 u h_5 => ?_)
    subst h_5
    refine x_if_eq C 36 dX5_isPlace_29 (by decide) (fun h_6 => ?_) (fun h_6 => ?_)
    ·
      refine x_iconst C (nI 0) dX5_isPlace_36 (by decide +kernel) ?_
      refine x_zret C hK hlk hrt hQ hH0 hAA () (by first | (left; rfl) | (right; rfl) | assumption | (simp; done)) ?_ [0, 1] (by decide) rfl (by first | decide | omega) (by first | decide | omega) dX5_isPlace_37
      first | exact bAnd_tt (by assumption) (by assumption) | exact bAnd_f1 (by assumption) | exact bAnd_f2 (by assumption)
    ·
      refine x_iconst C (nI 1) dX5_isPlace_32 (by decide +kernel) ?_
      refine x_goto C 37 dX5_isPlace_33 (by decide) ?_
      refine x_zret C hK hlk hrt hQ hH0 hAA () (by first | (left; rfl) | (right; rfl) | assumption | (simp; done)) ?_ [0, 1] (by decide) rfl (by first | decide | omega) (by first | decide | omega) dX5_isPlace_37
      first | exact bAnd_tt (by assumption) (by assumption) | exact bAnd_f1 (by assumption) | exact bAnd_f2 (by assumption)
abbrev rm_m_onTop : Room := { frames := 2, cells := 0, slots := 0, locals := 48 }
set_option maxRecDepth 100000 in
set_option maxHeartbeats 4000000 in
theorem c_m_onTop (l : Launch) (D : va_G) (tys : List (ClassId × FieldType)) (cI cJ cA : ClassId) (hI : tys[0]? = some (cI, .int)) (hJ : tys[1]? = some (cJ, .long)) (hR : tys[2]? = some (cA, .array .int)) (yo : Nat) (thr : Int32) (ri : Int32) (yt : Nat) (ys : Nat) (yf : Nat) (yc : Nat) (co : Nat) (dn : Nat) (yd : Nat) (nw : Nat) (np : Nat) (ti : Nat → Int32) (g0 : Nat) (g1 : Nat) (bw : Nat → Int32) (bp : Nat → Int32) (pk : Nat) (en : Nat) (hnw : nw ≤ 40) (hnp : np ≤ 40) (hpk : pk < np) (hen : en < nw) (hri : ri = 0 ∨ ri = 1) (hbw : ∀ k, k < nw → ∃ j, j < 8 ∧ bw k = nI j) : MI l yX5_isWarpOnTop wsX5_isWarpOnTop rm_m_onTop D tys [.ref yo, .int (nI pk), .int (nI en)] [(yo, OB 5 [.int thr, .int ri, .ref yt, .ref ys, .ref yf, .ref yc, .int (nI co), .int (nI dn), .ref yd]), (ys, AI cI 2 (sz2 nw np)), (yt, AI cI 10 ti), (yf, AR cA 2 (gr2 g0 g1)), (g0, AI cI 40 bw), (g1, AI cI 40 bp)] Unit (fun r (_ : Unit) => r = bI (hbit (suA ri ti (bp pk)) (bw en))) (fun (_ : Unit) => [(yo, OB 5 [.int (nI 0), .int ri, .ref yt, .ref ys, .ref yf, .ref yc, .int (nI co), .int (nI dn), .ref yd]), (ys, AI cI 2 (sz2 nw np)), (yt, AI cI 10 ti), (yf, AR cA 2 (gr2 g0 g1)), (g0, AI cI 40 bw), (g1, AI cI 40 bp)]) 0 0 := by
  intro sz
  refine x_met (cc := cX5_isWarpOnTop) (maxL := 3) (ret := (some .boolean)) (by decide +kernel) rfl (by show _ ≤ _; simp [lg_sl, Value.category]) [(0, .ref yo), (1, .int (nI pk)), (2, .int (nI en))] rfl ?_
  intro p e s m args below meth c Q A H0 C hK hNW hlk hrt hnm hQ hH0 hAA hA
  refine x_aload_n C dX5_isWarpOnTop_0 rfl 0 rfl ?_
  refine x_aload_n C dX5_isWarpOnTop_1 rfl 0 rfl ?_
  refine x_iload_n C dX5_isWarpOnTop_2 rfl 1 rfl ?_
  refine x_iload_n C dX5_isWarpOnTop_3 rfl 2 rfl ?_
  refine x_calli (x_runV C hK hNW (c_m_isPlace l D tys cI cJ cA hI hJ hR yo thr ri yt ys yf yc co dn yd nw np (nI pk) (nI en) (by first | omega | assumption) (by first | omega | assumption)) (cwV 2 C.2.2.2.2 gX5_isWarpOnTop_X5_isPlace rfl rfl rfl (by decide +kernel) ⟨by decide, by decide⟩) [0, 1] rfl (by decide) 0 5 rfl rfl rfl (st := [.ref yo]) rfl rfl (Nat.le_of_ble_eq_true rfl) dX5_isWarpOnTop_4 ⟨by first | decide | omega | exact (show _ ≤ 0 by omega), by first | decide | omega | exact (show _ ≤ 0 by omega)⟩) hA [0, 1] rfl [2, 3, 4, 5] [(yt, AI cI 10 ti), (yf, AR cA 2 (gr2 g0 g1)), (g0, AI cI 40 bw), (g1, AI cI 40 bp)] rfl (by decide) (by decide) [4, 5, 0, 1, 2, 3] (by decide) (wf := (fun (u : Unit) => [(yo, OB 5 [.int thr, .int ri, .ref yt, .ref ys, .ref yf, .ref yc, .int (nI co), .int (nI dn), .ref yd]), (ys, AI cI 2 (sz2 nw np)), (yt, AI cI 10 ti), (yf, AR cA 2 (gr2 g0 g1)), (g0, AI cI 40 bw), (g1, AI cI 40 bp)])) (fun _ => rfl) (fun r_1 u h_2 => ?_)
  subst h_2
  refine x_if_eq C 14 dX5_isWarpOnTop_7 (by decide) (fun h_3 => ?_) (fun h_3 => ?_)
  ·
    exact absurd ((bI_eq0 h_3).symm.trans (pl_ok hpk hen (by omega) (by omega))) (by decide)
  ·
    refine x_iconst C (nI 0) dX5_isWarpOnTop_10 (by decide +kernel) ?_
    refine x_goto C 15 dX5_isWarpOnTop_11 (by decide) ?_
    refine x_put C hK in_X5_isWarpOnTop_X5 tyX5 tyX5_ok nmX5 0 rfl rfl 0 (by decide) (by decide +kernel) rfl rfl (tyX5_ok 0 (by decide)) rfl rfl (Nat.le_of_ble_eq_true rfl) [(yo, OB 5 [.int (nI 0), .int ri, .ref yt, .ref ys, .ref yf, .ref yc, .int (nI co), .int (nI dn), .ref yd]), (ys, AI cI 2 (sz2 nw np)), (yt, AI cI 10 ti), (yf, AR cA 2 (gr2 g0 g1)), (g0, AI cI 40 bw), (g1, AI cI 40 bp)] rfl dX5_isWarpOnTop_15 ?_
    refine x_aload_n C dX5_isWarpOnTop_18 rfl 0 rfl ?_
    refine x_get C hK in_X5_isWarpOnTop_X5 0 rfl rfl 0 (by decide) (by decide +kernel) rfl rfl dX5_isWarpOnTop_19 ?_
    refine xn_if_ne C 41 (by omega) dX5_isWarpOnTop_22 (by decide) (fun h_4 => ?_) (fun h_4 => ?_)
    ·
      exact absurd h_4 (by first | decide | omega)
    ·
      refine x_aload_n C dX5_isWarpOnTop_25 rfl 0 rfl ?_
      refine x_iload_n C dX5_isWarpOnTop_26 rfl 1 rfl ?_
      refine x_calll (x_runV C hK hNW (c_m_above l D tys cI cJ cA hI hJ hR yo (nI 0) ri yt ys yf yc co dn yd nw np ti g0 g1 bw bp pk (by first | omega | assumption) (by first | omega | assumption) (by first | omega | assumption) (by first | omega | assumption)) (cwV 1 C.2.2.2.2 gX5_isWarpOnTop_X5_above rfl rfl rfl (by decide +kernel) ⟨by decide, by decide⟩) [0, 1, 2, 3, 4, 5] rfl (by decide) 0 5 rfl rfl rfl (st := []) rfl rfl (Nat.le_of_ble_eq_true rfl) dX5_isWarpOnTop_27 ⟨by first | decide | omega | exact (show _ ≤ 0 by omega), by first | decide | omega | exact (show _ ≤ 0 by omega)⟩) hA [0, 1, 2, 3, 4, 5] rfl [] [] rfl (by decide) (by decide) [0, 1, 2, 3, 4, 5] (by decide) (wf := (fun (u : Unit) => [(yo, OB 5 [.int (nI 0), .int ri, .ref yt, .ref ys, .ref yf, .ref yc, .int (nI co), .int (nI dn), .ref yd]), (ys, AI cI 2 (sz2 nw np)), (yt, AI cI 10 ti), (yf, AR cA 2 (gr2 g0 g1)), (g0, AI cI 40 bw), (g1, AI cI 40 bp)])) (fun _ => rfl) (fun r_5 u h_6 => ?_)
      subst h_6
      refine x_iload_n C dX5_isWarpOnTop_30 rfl 2 rfl ?_
      refine x_calli (x_runS C hK hNW (c_m_has l D tys cI cJ cA hI hJ hR (mkB (fun y0 => hbit (suA ri ti (bp pk)) (bw y0)) nw) (nI en) ) (va_cwS 2 C.2.2.2.2 gX5_isWarpOnTop_X5_has rfl rfl rfl (by decide +kernel) ⟨by decide, by decide⟩) [] rfl (by decide) (st := []) rfl rfl (Nat.le_of_ble_eq_true rfl) dX5_isWarpOnTop_31 ⟨by first | decide | omega | exact (show _ ≤ 0 by omega), by first | decide | omega | exact (show _ ≤ 0 by omega)⟩) hA [] rfl [0, 1, 2, 3, 4, 5] [(yo, OB 5 [.int (nI 0), .int ri, .ref yt, .ref ys, .ref yf, .ref yc, .int (nI co), .int (nI dn), .ref yd]), (ys, AI cI 2 (sz2 nw np)), (yt, AI cI 10 ti), (yf, AR cA 2 (gr2 g0 g1)), (g0, AI cI 40 bw), (g1, AI cI 40 bp)] rfl (by decide) (by decide) [0, 1, 2, 3, 4, 5] (by decide) (wf := (fun (u : Unit) => [(yo, OB 5 [.int (nI 0), .int ri, .ref yt, .ref ys, .ref yf, .ref yc, .int (nI co), .int (nI dn), .ref yd]), (ys, AI cI 2 (sz2 nw np)), (yt, AI cI 10 ti), (yf, AR cA 2 (gr2 g0 g1)), (g0, AI cI 40 bw), (g1, AI cI 40 bp)])) (fun _ => rfl) (fun r_7 u h_8 => ?_)
      subst h_8
      refine x_topi (bI (hbit (suA ri ti (bp pk)) (bw en))) (by rw [mkB_hb (p := fun y0 => hbit (suA ri ti (bp pk)) (bw y0)) (n := nw) (i := en) (by omega) (by omega)]) ?_
      refine x_if_eq C 41 dX5_isWarpOnTop_34 (by decide) (fun h_9 => ?_) (fun h_9 => ?_)
      ·
        refine x_iconst C (nI 0) dX5_isWarpOnTop_41 (by decide +kernel) ?_
        refine x_zret C hK hlk hrt hQ hH0 hAA () (by first | exact Or.inl rfl | exact Or.inr rfl) ?_ [0, 1, 2, 3, 4, 5] (by decide) rfl (by first | decide | omega) (by first | decide | omega) dX5_isWarpOnTop_42
        first | exact bI_r1 (by assumption) | exact bI_r0 (by assumption)
      ·
        refine x_iconst C (nI 1) dX5_isWarpOnTop_37 (by decide +kernel) ?_
        refine x_goto C 42 dX5_isWarpOnTop_38 (by decide) ?_
        refine x_zret C hK hlk hrt hQ hH0 hAA () (by first | exact Or.inl rfl | exact Or.inr rfl) ?_ [0, 1, 2, 3, 4, 5] (by decide) rfl (by first | decide | omega) (by first | decide | omega) dX5_isWarpOnTop_42
        first | exact bI_r1 (by assumption) | exact bI_r0 (by assumption)
abbrev rm_m_onTopX : Room := { frames := 2, cells := 0, slots := 0, locals := 44 }
set_option maxRecDepth 100000 in
set_option maxHeartbeats 4000000 in
theorem c_m_onTopX (l : Launch) (D : va_G) (tys : List (ClassId × FieldType)) (cI cJ cA : ClassId) (hI : tys[0]? = some (cI, .int)) (hJ : tys[1]? = some (cJ, .long)) (hR : tys[2]? = some (cA, .array .int)) (yo : Nat) (thr : Int32) (ri : Int32) (yt : Nat) (ys : Nat) (yf : Nat) (yc : Nat) (co : Nat) (dn : Nat) (yd : Nat) (nw : Nat) (np : Nat) (pk : Int32) (en : Int32) (hnw : nw ≤ 40) (hnp : np ≤ 40) (hx : ¬ (below pk np = true ∧ below en nw = true)) : MI l yX5_isWarpOnTop wsX5_isWarpOnTop rm_m_onTopX D tys [.ref yo, .int pk, .int en] [(yo, OB 5 [.int thr, .int ri, .ref yt, .ref ys, .ref yf, .ref yc, .int (nI co), .int (nI dn), .ref yd]), (ys, AI cI 2 (sz2 nw np))] Unit (fun r (_ : Unit) => r = nI 0) (fun (_ : Unit) => [(yo, OB 5 [.int (nI 1), .int ri, .ref yt, .ref ys, .ref yf, .ref yc, .int (nI co), .int (nI dn), .ref yd]), (ys, AI cI 2 (sz2 nw np))]) 0 0 := by
  intro sz
  refine x_met (cc := cX5_isWarpOnTop) (maxL := 3) (ret := (some .boolean)) (by decide +kernel) rfl (by show _ ≤ _; simp [lg_sl, Value.category]) [(0, .ref yo), (1, .int pk), (2, .int en)] rfl ?_
  intro p e s m args below meth c Q A H0 C hK hNW hlk hrt hnm hQ hH0 hAA hA
  refine x_aload_n C dX5_isWarpOnTop_0 rfl 0 rfl ?_
  refine x_aload_n C dX5_isWarpOnTop_1 rfl 0 rfl ?_
  refine x_iload_n C dX5_isWarpOnTop_2 rfl 1 rfl ?_
  refine x_iload_n C dX5_isWarpOnTop_3 rfl 2 rfl ?_
  refine x_calli (x_runV C hK hNW (c_m_isPlace l D tys cI cJ cA hI hJ hR yo thr ri yt ys yf yc co dn yd nw np pk en (by first | omega | assumption) (by first | omega | assumption)) (cwV 2 C.2.2.2.2 gX5_isWarpOnTop_X5_isPlace rfl rfl rfl (by decide +kernel) ⟨by decide, by decide⟩) [0, 1] rfl (by decide) 0 5 rfl rfl rfl (st := [.ref yo]) rfl rfl (Nat.le_of_ble_eq_true rfl) dX5_isWarpOnTop_4 ⟨by first | decide | omega | exact (show _ ≤ 0 by omega), by first | decide | omega | exact (show _ ≤ 0 by omega)⟩) hA [0, 1] rfl [] [] rfl (by decide) (by decide) [0, 1] (by decide) (wf := (fun (u : Unit) => [(yo, OB 5 [.int thr, .int ri, .ref yt, .ref ys, .ref yf, .ref yc, .int (nI co), .int (nI dn), .ref yd]), (ys, AI cI 2 (sz2 nw np))])) (fun _ => rfl) (fun r_1 u h_2 => ?_)
  subst h_2
  refine x_if_eq C 14 dX5_isWarpOnTop_7 (by decide) (fun h_3 => ?_) (fun h_3 => ?_)
  ·
    refine x_iconst C (nI 1) dX5_isWarpOnTop_14 (by decide +kernel) ?_
    refine x_put C hK in_X5_isWarpOnTop_X5 tyX5 tyX5_ok nmX5 0 rfl rfl 0 (by decide) (by decide +kernel) rfl rfl (tyX5_ok 0 (by decide)) rfl rfl (Nat.le_of_ble_eq_true rfl) [(yo, OB 5 [.int (nI 1), .int ri, .ref yt, .ref ys, .ref yf, .ref yc, .int (nI co), .int (nI dn), .ref yd]), (ys, AI cI 2 (sz2 nw np))] rfl dX5_isWarpOnTop_15 ?_
    refine x_aload_n C dX5_isWarpOnTop_18 rfl 0 rfl ?_
    refine x_get C hK in_X5_isWarpOnTop_X5 0 rfl rfl 0 (by decide) (by decide +kernel) rfl rfl dX5_isWarpOnTop_19 ?_
    refine xn_if_ne C 41 (by omega) dX5_isWarpOnTop_22 (by decide) (fun h_4 => ?_) (fun h_4 => ?_)
    ·
      refine x_iconst C (nI 0) dX5_isWarpOnTop_41 (by decide +kernel) ?_
      refine x_zret C hK hlk hrt hQ hH0 hAA () (by first | (left; rfl) | (right; rfl) | assumption | (simp; done)) ?_ [0, 1] (by decide) rfl (by first | decide | omega) (by first | decide | omega) dX5_isWarpOnTop_42
      first | rfl | (exact ⟨rfl, rfl⟩) | trivial | assumption | omega
    ·
      exact absurd h_4 (by first | decide | omega)
  ·
    exact absurd ((bI_ne0 h_3).symm.trans (pl_no hx)) (by decide)
abbrev rm_m_colour : Room := { frames := 2, cells := 0, slots := 0, locals := 48 }
set_option maxRecDepth 100000 in
set_option maxHeartbeats 4000000 in
theorem c_m_colour (l : Launch) (D : va_G) (tys : List (ClassId × FieldType)) (cI cJ cA : ClassId) (hI : tys[0]? = some (cI, .int)) (hJ : tys[1]? = some (cJ, .long)) (hR : tys[2]? = some (cA, .array .int)) (yo : Nat) (thr : Int32) (ri : Int32) (yt : Nat) (ys : Nat) (yf : Nat) (yc : Nat) (co : Nat) (dn : Nat) (yd : Nat) (nw : Nat) (np : Nat) (ti : Nat → Int32) (g0 : Nat) (g1 : Nat) (bw : Nat → Int32) (bp : Nat → Int32) (k0 : Nat) (k1 : Nat) (cw : Nat → Int32) (cp : Nat → Int32) (pk : Nat) (en : Nat) (hnw : nw ≤ 40) (hnp : np ≤ 40) (hpk : pk < np) (hen : en < nw) (hri : ri = 0 ∨ ri = 1) (hbw : ∀ k, k < nw → ∃ j, j < 8 ∧ bw k = nI j) : MI l yX5_colour wsX5_colour rm_m_colour D tys [.ref yo, .int (nI pk), .int (nI en)] [(yo, OB 5 [.int thr, .int ri, .ref yt, .ref ys, .ref yf, .ref yc, .int (nI co), .int (nI dn), .ref yd]), (ys, AI cI 2 (sz2 nw np)), (yt, AI cI 10 ti), (yf, AR cA 2 (gr2 g0 g1)), (g0, AI cI 40 bw), (g1, AI cI 40 bp), (yc, AR cA 2 (gr2 k0 k1)), (k0, AI cI 40 cw), (k1, AI cI 40 cp)] Unit (fun r (_ : Unit) => r = if hbit (suA ri ti (bp pk)) (bw en) then cw en else cp pk) (fun (_ : Unit) => [(yo, OB 5 [.int (nI 0), .int ri, .ref yt, .ref ys, .ref yf, .ref yc, .int (nI co), .int (nI dn), .ref yd]), (ys, AI cI 2 (sz2 nw np)), (yt, AI cI 10 ti), (yf, AR cA 2 (gr2 g0 g1)), (g0, AI cI 40 bw), (g1, AI cI 40 bp), (yc, AR cA 2 (gr2 k0 k1)), (k0, AI cI 40 cw), (k1, AI cI 40 cp)]) 0 0 := by
  intro sz
  refine x_met (cc := cX5_colour) (maxL := 3) (ret := (some .int)) (by decide +kernel) rfl (by show _ ≤ _; simp [lg_sl, Value.category]) [(0, .ref yo), (1, .int (nI pk)), (2, .int (nI en))] rfl ?_
  intro p e s m args below meth c Q A H0 C hK hNW hlk hrt hnm hQ hH0 hAA hA
  refine x_aload_n C dX5_colour_0 rfl 0 rfl ?_
  refine x_iconst C (nI 0) dX5_colour_1 (by decide +kernel) ?_
  refine x_put C hK in_X5_colour_X5 tyX5 tyX5_ok nmX5 0 rfl rfl 0 (by decide) (by decide +kernel) rfl rfl (tyX5_ok 0 (by decide)) rfl rfl (Nat.le_of_ble_eq_true rfl) [(yo, OB 5 [.int (nI 0), .int ri, .ref yt, .ref ys, .ref yf, .ref yc, .int (nI co), .int (nI dn), .ref yd]), (ys, AI cI 2 (sz2 nw np)), (yt, AI cI 10 ti), (yf, AR cA 2 (gr2 g0 g1)), (g0, AI cI 40 bw), (g1, AI cI 40 bp), (yc, AR cA 2 (gr2 k0 k1)), (k0, AI cI 40 cw), (k1, AI cI 40 cp)] rfl dX5_colour_2 ?_
  refine x_aload_n C dX5_colour_5 rfl 0 rfl ?_
  refine x_iload_n C dX5_colour_6 rfl 1 rfl ?_
  refine x_iload_n C dX5_colour_7 rfl 2 rfl ?_
  refine x_calli (x_runV C hK hNW (c_m_isPlace l D tys cI cJ cA hI hJ hR yo (nI 0) ri yt ys yf yc co dn yd nw np (nI pk) (nI en) (by first | omega | assumption) (by first | omega | assumption)) (cwV 2 C.2.2.2.2 gX5_colour_X5_isPlace rfl rfl rfl (by decide +kernel) ⟨by decide, by decide⟩) [0, 1] rfl (by decide) 0 5 rfl rfl rfl (st := []) rfl rfl (Nat.le_of_ble_eq_true rfl) dX5_colour_8 ⟨by first | decide | omega | exact (show _ ≤ 0 by omega), by first | decide | omega | exact (show _ ≤ 0 by omega)⟩) hA [0, 1] rfl [2, 3, 4, 5, 6, 7, 8] [(yt, AI cI 10 ti), (yf, AR cA 2 (gr2 g0 g1)), (g0, AI cI 40 bw), (g1, AI cI 40 bp), (yc, AR cA 2 (gr2 k0 k1)), (k0, AI cI 40 cw), (k1, AI cI 40 cp)] rfl (by decide) (by decide) [7, 8, 0, 1, 2, 3, 4, 5, 6] (by decide) (wf := (fun (u : Unit) => [(yo, OB 5 [.int (nI 0), .int ri, .ref yt, .ref ys, .ref yf, .ref yc, .int (nI co), .int (nI dn), .ref yd]), (ys, AI cI 2 (sz2 nw np)), (yt, AI cI 10 ti), (yf, AR cA 2 (gr2 g0 g1)), (g0, AI cI 40 bw), (g1, AI cI 40 bp), (yc, AR cA 2 (gr2 k0 k1)), (k0, AI cI 40 cw), (k1, AI cI 40 cp)])) (fun _ => rfl) (fun r_1 u h_2 => ?_)
  subst h_2
  refine x_if_ne C 20 dX5_colour_11 (by decide) (fun h_3 => ?_) (fun h_3 => ?_)
  ·
    refine x_aload_n C dX5_colour_20 rfl 0 rfl ?_
    refine x_iload_n C dX5_colour_21 rfl 1 rfl ?_
    refine x_calll (x_runV C hK hNW (c_m_above l D tys cI cJ cA hI hJ hR yo (nI 0) ri yt ys yf yc co dn yd nw np ti g0 g1 bw bp pk (by first | omega | assumption) (by first | omega | assumption) (by first | omega | assumption) (by first | omega | assumption)) (cwV 1 C.2.2.2.2 gX5_colour_X5_above rfl rfl rfl (by decide +kernel) ⟨by decide, by decide⟩) [0, 1, 2, 3, 4, 5] rfl (by decide) 0 5 rfl rfl rfl (st := []) rfl rfl (Nat.le_of_ble_eq_true rfl) dX5_colour_22 ⟨by first | decide | omega | exact (show _ ≤ 0 by omega), by first | decide | omega | exact (show _ ≤ 0 by omega)⟩) hA [0, 1, 2, 3, 4, 5] rfl [6, 7, 8] [(yc, AR cA 2 (gr2 k0 k1)), (k0, AI cI 40 cw), (k1, AI cI 40 cp)] rfl (by decide) (by decide) [3, 4, 5, 6, 7, 8, 0, 1, 2] (by decide) (wf := (fun (u : Unit) => [(yo, OB 5 [.int (nI 0), .int ri, .ref yt, .ref ys, .ref yf, .ref yc, .int (nI co), .int (nI dn), .ref yd]), (ys, AI cI 2 (sz2 nw np)), (yt, AI cI 10 ti), (yf, AR cA 2 (gr2 g0 g1)), (g0, AI cI 40 bw), (g1, AI cI 40 bp), (yc, AR cA 2 (gr2 k0 k1)), (k0, AI cI 40 cw), (k1, AI cI 40 cp)])) (fun _ => rfl) (fun r_4 u h_5 => ?_)
    subst h_5
    refine x_iload_n C dX5_colour_25 rfl 2 rfl ?_
    refine x_calli (x_runS C hK hNW (c_m_has l D tys cI cJ cA hI hJ hR (mkB (fun y0 => hbit (suA ri ti (bp pk)) (bw y0)) nw) (nI en) ) (va_cwS 2 C.2.2.2.2 gX5_colour_X5_has rfl rfl rfl (by decide +kernel) ⟨by decide, by decide⟩) [] rfl (by decide) (st := []) rfl rfl (Nat.le_of_ble_eq_true rfl) dX5_colour_26 ⟨by first | decide | omega | exact (show _ ≤ 0 by omega), by first | decide | omega | exact (show _ ≤ 0 by omega)⟩) hA [] rfl [0, 1, 2, 3, 4, 5, 6, 7, 8] [(yo, OB 5 [.int (nI 0), .int ri, .ref yt, .ref ys, .ref yf, .ref yc, .int (nI co), .int (nI dn), .ref yd]), (ys, AI cI 2 (sz2 nw np)), (yt, AI cI 10 ti), (yf, AR cA 2 (gr2 g0 g1)), (g0, AI cI 40 bw), (g1, AI cI 40 bp), (yc, AR cA 2 (gr2 k0 k1)), (k0, AI cI 40 cw), (k1, AI cI 40 cp)] rfl (by decide) (by decide) [0, 1, 2, 3, 4, 5, 6, 7, 8] (by decide) (wf := (fun (u : Unit) => [(yo, OB 5 [.int (nI 0), .int ri, .ref yt, .ref ys, .ref yf, .ref yc, .int (nI co), .int (nI dn), .ref yd]), (ys, AI cI 2 (sz2 nw np)), (yt, AI cI 10 ti), (yf, AR cA 2 (gr2 g0 g1)), (g0, AI cI 40 bw), (g1, AI cI 40 bp), (yc, AR cA 2 (gr2 k0 k1)), (k0, AI cI 40 cw), (k1, AI cI 40 cp)])) (fun _ => rfl) (fun r_6 u h_7 => ?_)
    subst h_7
    refine x_topi (bI (hbit (suA ri ti (bp pk)) (bw en))) (by rw [mkB_hb (p := fun y0 => hbit (suA ri ti (bp pk)) (bw y0)) (n := nw) (i := en) (by omega) (by omega)]) ?_
    refine x_if_eq C 43 dX5_colour_29 (by decide) (fun h_8 => ?_) (fun h_8 => ?_)
    ·
      refine x_aload_n C dX5_colour_43 rfl 0 rfl ?_
      refine x_get C hK in_X5_colour_X5 0 rfl rfl 5 (by decide) (by decide +kernel) rfl rfl dX5_colour_44 ?_
      refine x_iconst C (nI 1) dX5_colour_47 (by decide +kernel) ?_
      refine x_aald C hK (r := k1) 6 2 rfl hR rfl (by omega) (by omega) (by rfl) dX5_colour_48 ?_
      refine x_iload_n C dX5_colour_49 rfl 1 rfl ?_
      refine x_iald C hK 8 0 rfl hI (by omega) (by omega) dX5_colour_50 ?_
      refine x_iret C hK hlk hrt hQ hH0 hAA () ?_ [0, 1, 2, 3, 4, 5, 6, 7, 8] (by decide) rfl (by first | decide | omega) (by first | decide | omega) dX5_colour_51
      first | (rw [if_pos (bI_ne0 (by assumption))]; done) | exact (if_neg (fun q => absurd (q.symm.trans (bI_eq0 (by assumption))) (by decide))).symm
    ·
      refine x_aload_n C dX5_colour_32 rfl 0 rfl ?_
      refine x_get C hK in_X5_colour_X5 0 rfl rfl 5 (by decide) (by decide +kernel) rfl rfl dX5_colour_33 ?_
      refine x_iconst C (nI 0) dX5_colour_36 (by decide +kernel) ?_
      refine x_aald C hK (r := k0) 6 2 rfl hR rfl (by omega) (by omega) (by rfl) dX5_colour_37 ?_
      refine x_iload_n C dX5_colour_38 rfl 2 rfl ?_
      refine x_iald C hK 7 0 rfl hI (by omega) (by omega) dX5_colour_39 ?_
      refine x_goto C 51 dX5_colour_40 (by decide) ?_
      refine x_iret C hK hlk hrt hQ hH0 hAA () ?_ [0, 1, 2, 3, 4, 5, 6, 7, 8] (by decide) rfl (by first | decide | omega) (by first | decide | omega) dX5_colour_51
      first | (rw [if_pos (bI_ne0 (by assumption))]; done) | exact (if_neg (fun q => absurd (q.symm.trans (bI_eq0 (by assumption))) (by decide))).symm
  ·
    exact absurd ((bI_eq0 h_3).symm.trans (pl_ok hpk hen (by omega) (by omega))) (by decide)
abbrev rm_m_colourX : Room := { frames := 2, cells := 0, slots := 0, locals := 44 }
set_option maxRecDepth 100000 in
set_option maxHeartbeats 4000000 in
theorem c_m_colourX (l : Launch) (D : va_G) (tys : List (ClassId × FieldType)) (cI cJ cA : ClassId) (hI : tys[0]? = some (cI, .int)) (hJ : tys[1]? = some (cJ, .long)) (hR : tys[2]? = some (cA, .array .int)) (yo : Nat) (thr : Int32) (ri : Int32) (yt : Nat) (ys : Nat) (yf : Nat) (yc : Nat) (co : Nat) (dn : Nat) (yd : Nat) (nw : Nat) (np : Nat) (pk : Int32) (en : Int32) (hnw : nw ≤ 40) (hnp : np ≤ 40) (hx : ¬ (below pk np = true ∧ below en nw = true)) : MI l yX5_colour wsX5_colour rm_m_colourX D tys [.ref yo, .int pk, .int en] [(yo, OB 5 [.int thr, .int ri, .ref yt, .ref ys, .ref yf, .ref yc, .int (nI co), .int (nI dn), .ref yd]), (ys, AI cI 2 (sz2 nw np))] Unit (fun r (_ : Unit) => r = nI 0) (fun (_ : Unit) => [(yo, OB 5 [.int (nI 1), .int ri, .ref yt, .ref ys, .ref yf, .ref yc, .int (nI co), .int (nI dn), .ref yd]), (ys, AI cI 2 (sz2 nw np))]) 0 0 := by
  intro sz
  refine x_met (cc := cX5_colour) (maxL := 3) (ret := (some .int)) (by decide +kernel) rfl (by show _ ≤ _; simp [lg_sl, Value.category]) [(0, .ref yo), (1, .int pk), (2, .int en)] rfl ?_
  intro p e s m args below meth c Q A H0 C hK hNW hlk hrt hnm hQ hH0 hAA hA
  refine x_aload_n C dX5_colour_0 rfl 0 rfl ?_
  refine x_iconst C (nI 0) dX5_colour_1 (by decide +kernel) ?_
  refine x_put C hK in_X5_colour_X5 tyX5 tyX5_ok nmX5 0 rfl rfl 0 (by decide) (by decide +kernel) rfl rfl (tyX5_ok 0 (by decide)) rfl rfl (Nat.le_of_ble_eq_true rfl) [(yo, OB 5 [.int (nI 0), .int ri, .ref yt, .ref ys, .ref yf, .ref yc, .int (nI co), .int (nI dn), .ref yd]), (ys, AI cI 2 (sz2 nw np))] rfl dX5_colour_2 ?_
  refine x_aload_n C dX5_colour_5 rfl 0 rfl ?_
  refine x_iload_n C dX5_colour_6 rfl 1 rfl ?_
  refine x_iload_n C dX5_colour_7 rfl 2 rfl ?_
  refine x_calli (x_runV C hK hNW (c_m_isPlace l D tys cI cJ cA hI hJ hR yo (nI 0) ri yt ys yf yc co dn yd nw np pk en (by first | omega | assumption) (by first | omega | assumption)) (cwV 2 C.2.2.2.2 gX5_colour_X5_isPlace rfl rfl rfl (by decide +kernel) ⟨by decide, by decide⟩) [0, 1] rfl (by decide) 0 5 rfl rfl rfl (st := []) rfl rfl (Nat.le_of_ble_eq_true rfl) dX5_colour_8 ⟨by first | decide | omega | exact (show _ ≤ 0 by omega), by first | decide | omega | exact (show _ ≤ 0 by omega)⟩) hA [0, 1] rfl [] [] rfl (by decide) (by decide) [0, 1] (by decide) (wf := (fun (u : Unit) => [(yo, OB 5 [.int (nI 0), .int ri, .ref yt, .ref ys, .ref yf, .ref yc, .int (nI co), .int (nI dn), .ref yd]), (ys, AI cI 2 (sz2 nw np))])) (fun _ => rfl) (fun r_1 u h_2 => ?_)
  subst h_2
  refine x_if_ne C 20 dX5_colour_11 (by decide) (fun h_3 => ?_) (fun h_3 => ?_)
  ·
    exact absurd ((bI_ne0 h_3).symm.trans (pl_no hx)) (by decide)
  ·
    refine x_aload_n C dX5_colour_14 rfl 0 rfl ?_
    refine x_iconst C (nI 1) dX5_colour_15 (by decide +kernel) ?_
    refine x_calli (x_runV C hK hNW (c_m_fail l D tys cI cJ cA hI hJ hR yo (nI 0) ri yt ys yf yc co dn yd 1 ) (cwV 1 C.2.2.2.2 gX5_colour_X5_fail rfl rfl rfl (by decide +kernel) ⟨by decide, by decide⟩) [0] rfl (by decide) 0 5 rfl rfl rfl (st := []) rfl rfl (Nat.le_of_ble_eq_true rfl) dX5_colour_16 ⟨by first | decide | omega | exact (show _ ≤ 0 by omega), by first | decide | omega | exact (show _ ≤ 0 by omega)⟩) hA [0] rfl [1] [(ys, AI cI 2 (sz2 nw np))] rfl (by decide) (by decide) [1, 0] (by decide) (wf := (fun (u : Unit) => [(yo, OB 5 [.int (nI 1), .int ri, .ref yt, .ref ys, .ref yf, .ref yc, .int (nI co), .int (nI dn), .ref yd]), (ys, AI cI 2 (sz2 nw np))])) (fun _ => rfl) (fun r_4 u h_5 => ?_)
    subst h_5
    refine x_iret C hK hlk hrt hQ hH0 hAA () ?_ [0, 1] (by decide) rfl (by first | decide | omega) (by first | decide | omega) dX5_colour_19
    first | rfl | (exact ⟨rfl, rfl⟩) | trivial | assumption | omega
