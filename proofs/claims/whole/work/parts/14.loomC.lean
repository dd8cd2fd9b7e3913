/-! LoomDraft, third part -/
theorem in_X4_longestFloat_X0 : ∀ w ∈ wsX00, w ∈ wsX4_longestFloat := by decide +kernel
theorem in_X4_longestFloat_X3 : ∀ w ∈ wsX30, w ∈ wsX4_longestFloat := by decide +kernel
theorem in_X4_longestFloat_X4 : ∀ w ∈ wsX40, w ∈ wsX4_longestFloat := by decide +kernel
theorem in_X4_floats_X0 : ∀ w ∈ wsX00, w ∈ wsX4_floats := by decide +kernel
theorem in_X4_floats_X3 : ∀ w ∈ wsX30, w ∈ wsX4_floats := by decide +kernel
theorem in_X4_floats_X4 : ∀ w ∈ wsX40, w ∈ wsX4_floats := by decide +kernel
theorem in_X4_warpShare_X0 : ∀ w ∈ wsX00, w ∈ wsX4_warpShare := by decide +kernel
theorem in_X4_warpShare_X3 : ∀ w ∈ wsX30, w ∈ wsX4_warpShare := by decide +kernel
theorem in_X4_warpShare_X4 : ∀ w ∈ wsX40, w ∈ wsX4_warpShare := by decide +kernel
theorem in_X4_period_X3 : ∀ w ∈ wsX30, w ∈ wsX4_period := by decide +kernel
theorem in_X4_period_X4 : ∀ w ∈ wsX40, w ∈ wsX4_period := by decide +kernel
theorem in_X4_layers_X0 : ∀ w ∈ wsX00, w ∈ wsX4_layers := by decide +kernel
theorem in_X4_layers_X2 : ∀ w ∈ wsX20, w ∈ wsX4_layers := by decide +kernel
theorem in_X4_layers_X3 : ∀ w ∈ wsX30, w ∈ wsX4_layers := by decide +kernel
theorem in_X4_layers_X4 : ∀ w ∈ wsX40, w ∈ wsX4_layers := by decide +kernel
theorem in_X4_hangsTogether_X0 : ∀ w ∈ wsX00, w ∈ wsX4_hangsTogether := by decide +kernel
theorem in_X4_hangsTogether_X2 : ∀ w ∈ wsX20, w ∈ wsX4_hangsTogether := by decide +kernel
theorem in_X4_hangsTogether_X3 : ∀ w ∈ wsX30, w ∈ wsX4_hangsTogether := by decide +kernel
theorem in_X4_hangsTogether_X4 : ∀ w ∈ wsX40, w ∈ wsX4_hangsTogether := by decide +kernel
abbrev rm_longest11 : Room := { frames := 4, cells := 0, slots := 0, locals := 93 }
set_option maxRecDepth 100000 in
set_option maxHeartbeats 4000000 in
theorem c_longest11 (l : Launch) (D : va_G) (tys : List (ClassId × FieldType)) (cI cJ : ClassId) (hI : tys[0]? = some (cI, .int)) (hJ : tys[1]? = some (cJ, .long)) (x : Nat) (qw : Nat) (qv : Nat) (qt : Nat) (ri : Int32) (qd : Nat) (qc : Nat) (ql : Nat) (wa : Nat) (wo : Nat) (nw : Nat) (bw : Nat → Int32) (cw : Nat → Int32) (pa : Nat) (po : Nat) (np : Nat) (bp : Nat → Int32) (cp : Nat → Int32) (ti : Nat → Int32) (ce : Nat) (cf : Nat) (ven : Int32) (vpn : Int32) (fe : Nat → Int64) (ff : Nat → Int32) (hnw : nw ≤ 40) (hnp : np ≤ 40) : MI l yX4_longestFloat wsX4_longestFloat rm_longest11 D tys [.ref x, .int (nI 1), .int (nI 1)] [(x, OB 4 [.ref qw, .ref qv, .ref qt, .int ri, .ref qd, .ref qc, .ref ql]), (qw, OB 3 [.ref wa, .ref wo, .int (nI nw)]), (wa, AI cI 40 bw), (wo, AI cI 40 cw), (qv, OB 3 [.ref pa, .ref po, .int (nI np)]), (pa, AI cI 40 bp), (po, AI cI 40 cp), (qt, AI cI 10 ti), (qc, OB 0 [.ref ce, .ref cf, .int ven, .int vpn]), (ce, AJ cJ 40 fe), (cf, AI cI 41 ff)] Nat (fun r (Lm : Nat) => r = nI Lm ∧ isLF (cfT (fun x0 y0 => hbit ((wvF ri ti bp bw nw fe np) y0) (nI x0) == true) np (flF ff 0 41) nw) Lm) (fun (Lm : Nat) => [(x, OB 4 [.ref qw, .ref qv, .ref qt, .int ri, .ref qd, .ref qc, .ref ql]), (qw, OB 3 [.ref wa, .ref wo, .int (nI nw)]), (wa, AI cI 40 bw), (wo, AI cI 40 cw), (qv, OB 3 [.ref pa, .ref po, .int (nI np)]), (pa, AI cI 40 bp), (po, AI cI 40 cp), (qt, AI cI 10 ti), (qc, OB 0 [.ref ce, .ref cf, .int (nI nw), .int (nI np)]), (ce, AJ cJ 40 (wvF ri ti bp bw nw fe np)), (cf, AI cI 41 (cfT (fun x0 y0 => hbit ((wvF ri ti bp bw nw fe np) y0) (nI x0) == true) np (flF ff 0 41) nw))]) 0 0 := by
  intro sz
  refine x_met (cc := cX4_longestFloat) (maxL := 4) (ret := (some .int)) (by decide +kernel) rfl (by show _ ≤ _; simp [lg_sl, Value.category]) [(0, .ref x), (1, .int (nI 1)), (2, .int (nI 1))] rfl ?_
  intro p e s m args below meth c Q A H0 C hK hNW hlk hrt hnm hQ hH0 hAA hA
  refine x_aload_n C dX4_longestFloat_0 rfl 0 rfl ?_
  refine x_callv (x_runV C hK hNW (c_weave l D tys cI cJ hI hJ x qw qv qt ri qd qc ql wa wo nw bw cw pa po np bp cp ti ce cf ven vpn fe ff (by first | omega | assumption) (by first | omega | assumption)) (cwV 0 C.2.2.2.2 gX4_longestFloat_X4_weave rfl rfl rfl (by decide +kernel) ⟨by decide, by decide⟩) [0, 1, 2, 3, 4, 5, 6, 7, 8, 9, 10] rfl (by decide) 0 4 rfl rfl rfl (st := []) rfl rfl (Nat.le_of_ble_eq_true rfl) dX4_longestFloat_1 ⟨by first | decide | omega, by first | decide | omega⟩) hA [0, 1, 2, 3, 4, 5, 6, 7, 8, 9, 10] rfl [] [] rfl (by decide) (by decide) [0, 1, 2, 3, 4, 5, 6, 7, 8, 9, 10] (by decide) (wf := (fun (u : Unit) => [(x, OB 4 [.ref qw, .ref qv, .ref qt, .int ri, .ref qd, .ref qc, .ref ql]), (qw, OB 3 [.ref wa, .ref wo, .int (nI nw)]), (wa, AI cI 40 bw), (wo, AI cI 40 cw), (qv, OB 3 [.ref pa, .ref po, .int (nI np)]), (pa, AI cI 40 bp), (po, AI cI 40 cp), (qt, AI cI 10 ti), (qc, OB 0 [.ref ce, .ref cf, .int (nI nw), .int (nI np)]), (ce, AJ cJ 40 (wvF ri ti bp bw nw fe np)), (cf, AI cI 41 ff)])) (fun _ => rfl) (fun u h_2 => ?_)
  refine x_aload_n C dX4_longestFloat_4 rfl 0 rfl ?_
  refine x_get C hK in_X4_longestFloat_X4 0 rfl rfl 5 (by decide) (by decide +kernel) rfl rfl dX4_longestFloat_5 ?_
  refine x_iload_n C dX4_longestFloat_8 rfl 1 rfl ?_
  refine x_iload_n C dX4_longestFloat_9 rfl 2 rfl ?_
  refine x_callv (x_runVN C hK hNW (c_cl_cf11 l D tys cI cJ hI hJ qc ce cf nw np (wvF ri ti bp bw nw fe np) ff (by first | omega | assumption) (by first | omega | assumption)) ⟨va_cnB 2 C.2.2.2.2 gX4_longestFloat_X0_countFloats_n116 rfl rfl rfl (hNW.at 5 rfl) (C.2.2.2.2 (.initialized RX0) (by decide +kernel)) (by decide +kernel) ⟨by decide, by decide⟩, C.2.2.2.2 (.instanceMethod yX0_countFloats) (by decide +kernel), C.2.2.2.2 (.selects RX0 yX0_countFloats yX0_countFloats) (by decide +kernel)⟩ [8, 9, 10] rfl (by decide) 8 0 rfl rfl rfl (st := []) rfl rfl (Nat.le_of_ble_eq_true rfl) dX4_longestFloat_10 ⟨by first | decide | omega, by first | decide | omega⟩) hA [8, 9, 10] rfl [0, 1, 2, 3, 4, 5, 6, 7] [(x, OB 4 [.ref qw, .ref qv, .ref qt, .int ri, .ref qd, .ref qc, .ref ql]), (qw, OB 3 [.ref wa, .ref wo, .int (nI nw)]), (wa, AI cI 40 bw), (wo, AI cI 40 cw), (qv, OB 3 [.ref pa, .ref po, .int (nI np)]), (pa, AI cI 40 bp), (po, AI cI 40 cp), (qt, AI cI 10 ti)] rfl (by decide) (by decide) [0, 1, 2, 3, 4, 5, 6, 7, 8, 9, 10] (by decide) (wf := (fun (u : Unit) => [(x, OB 4 [.ref qw, .ref qv, .ref qt, .int ri, .ref qd, .ref qc, .ref ql]), (qw, OB 3 [.ref wa, .ref wo, .int (nI nw)]), (wa, AI cI 40 bw), (wo, AI cI 40 cw), (qv, OB 3 [.ref pa, .ref po, .int (nI np)]), (pa, AI cI 40 bp), (po, AI cI 40 cp), (qt, AI cI 10 ti), (qc, OB 0 [.ref ce, .ref cf, .int (nI nw), .int (nI np)]), (ce, AJ cJ 40 (wvF ri ti bp bw nw fe np)), (cf, AI cI 41 (cfT (fun x0 y0 => hbit ((wvF ri ti bp bw nw fe np) y0) (nI x0) == true) np (flF ff 0 41) nw))])) (fun _ => rfl) (fun u h_4 => ?_)
  refine x_bipush C (nI 40) dX4_longestFloat_13 (by decide +kernel) ?_
  refine x_istore_n C [(3, .int (nI 40)), (0, .ref x), (1, .int (nI 1)), (2, .int (nI 1))] dX4_longestFloat_15 rfl (by decide) rfl ?_
  have K_5 : ∀ (fuel : Nat) (i : Nat), (i ≤ 40) → (∀ j, i < j → j ≤ 40 → (cfT (fun x0 y0 => hbit ((wvF ri ti bp bw nw fe np) y0) (nI x0) == true) np (flF ff 0 41) nw) j = 0) → i < fuel → X_ p l e rm_longest11 s m args below meth c Q D A H0 4 0 0 [(x, OB 4 [.ref qw, .ref qv, .ref qt, .int ri, .ref qd, .ref qc, .ref ql]), (qw, OB 3 [.ref wa, .ref wo, .int (nI nw)]), (wa, AI cI 40 bw), (wo, AI cI 40 cw), (qv, OB 3 [.ref pa, .ref po, .int (nI np)]), (pa, AI cI 40 bp), (po, AI cI 40 cp), (qt, AI cI 10 ti), (qc, OB 0 [.ref ce, .ref cf, .int (nI nw), .int (nI np)]), (ce, AJ cJ 40 (wvF ri ti bp bw nw fe np)), (cf, AI cI 41 (cfT (fun x0 y0 => hbit ((wvF ri ti bp bw nw fe np) y0) (nI x0) == true) np (flF ff 0 41) nw))] [(0, .ref x), (3, .int (nI i))] 16 [] := by
    intro fuel
    induction fuel with
    | zero =>
      intros
      exact absurd (by assumption) (Nat.not_lt_zero _)
    | succ fuel ih_K_5 =>
      intro i hi hx hm_6
      refine x_iload_n C dX4_longestFloat_16 rfl 1 rfl ?_
      refine xn_if_le C 38 (by omega) dX4_longestFloat_17 (by decide) (fun h_7 => ?_) (fun h_7 => ?_)
      ·
        refine x_iload_n C dX4_longestFloat_38 rfl 1 rfl ?_
        refine x_iret C hK hlk hrt hQ hH0 hAA i ?_ [0, 1, 2, 3, 4, 5, 6, 7, 8, 9, 10] (by decide) rfl (by first | decide | omega) (by first | decide | omega) dX4_longestFloat_39
        exact ⟨rfl, hi, by first | exact Or.inl (by omega) | exact Or.inr (by assumption), hx⟩
      ·
        refine x_aload_n C dX4_longestFloat_20 rfl 0 rfl ?_
        refine x_get C hK in_X4_longestFloat_X4 0 rfl rfl 5 (by decide) (by decide +kernel) rfl rfl dX4_longestFloat_21 ?_
        refine x_getN C hK hNW in_X4_longestFloat_X0 8 rfl rfl 1 (by decide) 38 rfl rfl rfl dX4_longestFloat_24 ?_
        refine x_iload_n C dX4_longestFloat_27 rfl 1 rfl ?_
        refine x_iald C hK 10 0 rfl hI (by omega) (by omega) dX4_longestFloat_28 ?_
        refine x_if_ne C 38 dX4_longestFloat_29 (by decide) (fun h_8 => ?_) (fun h_8 => ?_)
        ·
          refine x_iload_n C dX4_longestFloat_38 rfl 1 rfl ?_
          refine x_iret C hK hlk hrt hQ hH0 hAA i ?_ [0, 1, 2, 3, 4, 5, 6, 7, 8, 9, 10] (by decide) rfl (by first | decide | omega) (by first | decide | omega) dX4_longestFloat_39
          exact ⟨rfl, hi, by first | exact Or.inl (by omega) | exact Or.inr (by assumption), hx⟩
        ·
          refine xn_iinc C (i - 1) [(3, .int (nI (i - 1))), (0, .ref x)] dX4_longestFloat_32 1 rfl (by rw [show Int32.ofInt (-1) = -nI 1 from by decide +kernel]; exact gx_addneg (by omega)) (by decide) rfl ?_
          refine x_goto C 16 dX4_longestFloat_35 (by decide) ?_
          refine x_lv [(0, .ref x), (3, .int (nI (i - 1)))] [1, 0] rfl ?_
          exact ih_K_5 (i - 1) (by first | assumption | omega) (by intro j h1 h2; by_cases e : j = i; { subst e; first | assumption | exact Classical.not_not.mp (by assumption) }; exact hx j (by omega) h2) (by omega)
  refine x_lv [(0, .ref x), (3, .int (nI 40))] [1, 0] rfl ?_
  exact K_5 (40 + 1) 40 (by first | assumption | omega) (by intro j h1 h2; omega) (Nat.lt_succ_self _)
abbrev rm_longest10 : Room := { frames := 4, cells := 0, slots := 0, locals := 93 }
set_option maxRecDepth 100000 in
set_option maxHeartbeats 4000000 in
theorem c_longest10 (l : Launch) (D : va_G) (tys : List (ClassId × FieldType)) (cI cJ : ClassId) (hI : tys[0]? = some (cI, .int)) (hJ : tys[1]? = some (cJ, .long)) (x : Nat) (qw : Nat) (qv : Nat) (qt : Nat) (ri : Int32) (qd : Nat) (qc : Nat) (ql : Nat) (wa : Nat) (wo : Nat) (nw : Nat) (bw : Nat → Int32) (cw : Nat → Int32) (pa : Nat) (po : Nat) (np : Nat) (bp : Nat → Int32) (cp : Nat → Int32) (ti : Nat → Int32) (ce : Nat) (cf : Nat) (ven : Int32) (vpn : Int32) (fe : Nat → Int64) (ff : Nat → Int32) (hnw : nw ≤ 40) (hnp : np ≤ 40) : MI l yX4_longestFloat wsX4_longestFloat rm_longest10 D tys [.ref x, .int (nI 1), .int (nI 0)] [(x, OB 4 [.ref qw, .ref qv, .ref qt, .int ri, .ref qd, .ref qc, .ref ql]), (qw, OB 3 [.ref wa, .ref wo, .int (nI nw)]), (wa, AI cI 40 bw), (wo, AI cI 40 cw), (qv, OB 3 [.ref pa, .ref po, .int (nI np)]), (pa, AI cI 40 bp), (po, AI cI 40 cp), (qt, AI cI 10 ti), (qc, OB 0 [.ref ce, .ref cf, .int ven, .int vpn]), (ce, AJ cJ 40 fe), (cf, AI cI 41 ff)] Nat (fun r (Lm : Nat) => r = nI Lm ∧ isLF (cfT (fun x0 y0 => hbit ((wvF ri ti bp bw nw fe np) y0) (nI x0) == false) np (flF ff 0 41) nw) Lm) (fun (Lm : Nat) => [(x, OB 4 [.ref qw, .ref qv, .ref qt, .int ri, .ref qd, .ref qc, .ref ql]), (qw, OB 3 [.ref wa, .ref wo, .int (nI nw)]), (wa, AI cI 40 bw), (wo, AI cI 40 cw), (qv, OB 3 [.ref pa, .ref po, .int (nI np)]), (pa, AI cI 40 bp), (po, AI cI 40 cp), (qt, AI cI 10 ti), (qc, OB 0 [.ref ce, .ref cf, .int (nI nw), .int (nI np)]), (ce, AJ cJ 40 (wvF ri ti bp bw nw fe np)), (cf, AI cI 41 (cfT (fun x0 y0 => hbit ((wvF ri ti bp bw nw fe np) y0) (nI x0) == false) np (flF ff 0 41) nw))]) 0 0 := by
  intro sz
  refine x_met (cc := cX4_longestFloat) (maxL := 4) (ret := (some .int)) (by decide +kernel) rfl (by show _ ≤ _; simp [lg_sl, Value.category]) [(0, .ref x), (1, .int (nI 1)), (2, .int (nI 0))] rfl ?_
  intro p e s m args below meth c Q A H0 C hK hNW hlk hrt hnm hQ hH0 hAA hA
  refine x_aload_n C dX4_longestFloat_0 rfl 0 rfl ?_
  refine x_callv (x_runV C hK hNW (c_weave l D tys cI cJ hI hJ x qw qv qt ri qd qc ql wa wo nw bw cw pa po np bp cp ti ce cf ven vpn fe ff (by first | omega | assumption) (by first | omega | assumption)) (cwV 0 C.2.2.2.2 gX4_longestFloat_X4_weave rfl rfl rfl (by decide +kernel) ⟨by decide, by decide⟩) [0, 1, 2, 3, 4, 5, 6, 7, 8, 9, 10] rfl (by decide) 0 4 rfl rfl rfl (st := []) rfl rfl (Nat.le_of_ble_eq_true rfl) dX4_longestFloat_1 ⟨by first | decide | omega, by first | decide | omega⟩) hA [0, 1, 2, 3, 4, 5, 6, 7, 8, 9, 10] rfl [] [] rfl (by decide) (by decide) [0, 1, 2, 3, 4, 5, 6, 7, 8, 9, 10] (by decide) (wf := (fun (u : Unit) => [(x, OB 4 [.ref qw, .ref qv, .ref qt, .int ri, .ref qd, .ref qc, .ref ql]), (qw, OB 3 [.ref wa, .ref wo, .int (nI nw)]), (wa, AI cI 40 bw), (wo, AI cI 40 cw), (qv, OB 3 [.ref pa, .ref po, .int (nI np)]), (pa, AI cI 40 bp), (po, AI cI 40 cp), (qt, AI cI 10 ti), (qc, OB 0 [.ref ce, .ref cf, .int (nI nw), .int (nI np)]), (ce, AJ cJ 40 (wvF ri ti bp bw nw fe np)), (cf, AI cI 41 ff)])) (fun _ => rfl) (fun u h_2 => ?_)
  refine x_aload_n C dX4_longestFloat_4 rfl 0 rfl ?_
  refine x_get C hK in_X4_longestFloat_X4 0 rfl rfl 5 (by decide) (by decide +kernel) rfl rfl dX4_longestFloat_5 ?_
  refine x_iload_n C dX4_longestFloat_8 rfl 1 rfl ?_
  refine x_iload_n C dX4_longestFloat_9 rfl 2 rfl ?_
  refine x_callv (x_runVN C hK hNW (c_cl_cf10 l D tys cI cJ hI hJ qc ce cf nw np (wvF ri ti bp bw nw fe np) ff (by first | omega | assumption) (by first | omega | assumption)) ⟨va_cnB 2 C.2.2.2.2 gX4_longestFloat_X0_countFloats_n116 rfl rfl rfl (hNW.at 5 rfl) (C.2.2.2.2 (.initialized RX0) (by decide +kernel)) (by decide +kernel) ⟨by decide, by decide⟩, C.2.2.2.2 (.instanceMethod yX0_countFloats) (by decide +kernel), C.2.2.2.2 (.selects RX0 yX0_countFloats yX0_countFloats) (by decide +kernel)⟩ [8, 9, 10] rfl (by decide) 8 0 rfl rfl rfl (st := []) rfl rfl (Nat.le_of_ble_eq_true rfl) dX4_longestFloat_10 ⟨by first | decide | omega, by first | decide | omega⟩) hA [8, 9, 10] rfl [0, 1, 2, 3, 4, 5, 6, 7] [(x, OB 4 [.ref qw, .ref qv, .ref qt, .int ri, .ref qd, .ref qc, .ref ql]), (qw, OB 3 [.ref wa, .ref wo, .int (nI nw)]), (wa, AI cI 40 bw), (wo, AI cI 40 cw), (qv, OB 3 [.ref pa, .ref po, .int (nI np)]), (pa, AI cI 40 bp), (po, AI cI 40 cp), (qt, AI cI 10 ti)] rfl (by decide) (by decide) [0, 1, 2, 3, 4, 5, 6, 7, 8, 9, 10] (by decide) (wf := (fun (u : Unit) => [(x, OB 4 [.ref qw, .ref qv, .ref qt, .int ri, .ref qd, .ref qc, .ref ql]), (qw, OB 3 [.ref wa, .ref wo, .int (nI nw)]), (wa, AI cI 40 bw), (wo, AI cI 40 cw), (qv, OB 3 [.ref pa, .ref po, .int (nI np)]), (pa, AI cI 40 bp), (po, AI cI 40 cp), (qt, AI cI 10 ti), (qc, OB 0 [.ref ce, .ref cf, .int (nI nw), .int (nI np)]), (ce, AJ cJ 40 (wvF ri ti bp bw nw fe np)), (cf, AI cI 41 (cfT (fun x0 y0 => hbit ((wvF ri ti bp bw nw fe np) y0) (nI x0) == false) np (flF ff 0 41) nw))])) (fun _ => rfl) (fun u h_4 => ?_)
  refine x_bipush C (nI 40) dX4_longestFloat_13 (by decide +kernel) ?_
  refine x_istore_n C [(3, .int (nI 40)), (0, .ref x), (1, .int (nI 1)), (2, .int (nI 0))] dX4_longestFloat_15 rfl (by decide) rfl ?_
  have K_5 : ∀ (fuel : Nat) (i : Nat), (i ≤ 40) → (∀ j, i < j → j ≤ 40 → (cfT (fun x0 y0 => hbit ((wvF ri ti bp bw nw fe np) y0) (nI x0) == false) np (flF ff 0 41) nw) j = 0) → i < fuel → X_ p l e rm_longest10 s m args below meth c Q D A H0 4 0 0 [(x, OB 4 [.ref qw, .ref qv, .ref qt, .int ri, .ref qd, .ref qc, .ref ql]), (qw, OB 3 [.ref wa, .ref wo, .int (nI nw)]), (wa, AI cI 40 bw), (wo, AI cI 40 cw), (qv, OB 3 [.ref pa, .ref po, .int (nI np)]), (pa, AI cI 40 bp), (po, AI cI 40 cp), (qt, AI cI 10 ti), (qc, OB 0 [.ref ce, .ref cf, .int (nI nw), .int (nI np)]), (ce, AJ cJ 40 (wvF ri ti bp bw nw fe np)), (cf, AI cI 41 (cfT (fun x0 y0 => hbit ((wvF ri ti bp bw nw fe np) y0) (nI x0) == false) np (flF ff 0 41) nw))] [(0, .ref x), (3, .int (nI i))] 16 [] := by
    intro fuel
    induction fuel with
    | zero =>
      intros
      exact absurd (by assumption) (Nat.not_lt_zero _)
    | succ fuel ih_K_5 =>
      intro i hi hx hm_6
      refine x_iload_n C dX4_longestFloat_16 rfl 1 rfl ?_
      refine xn_if_le C 38 (by omega) dX4_longestFloat_17 (by decide) (fun h_7 => ?_) (fun h_7 => ?_)
      ·
        refine x_iload_n C dX4_longestFloat_38 rfl 1 rfl ?_
        refine x_iret C hK hlk hrt hQ hH0 hAA i ?_ [0, 1, 2, 3, 4, 5, 6, 7, 8, 9, 10] (by decide) rfl (by first | decide | omega) (by first | decide | omega) dX4_longestFloat_39
        exact ⟨rfl, hi, by first | exact Or.inl (by omega) | exact Or.inr (by assumption), hx⟩
      ·
        refine x_aload_n C dX4_longestFloat_20 rfl 0 rfl ?_
        refine x_get C hK in_X4_longestFloat_X4 0 rfl rfl 5 (by decide) (by decide +kernel) rfl rfl dX4_longestFloat_21 ?_
        refine x_getN C hK hNW in_X4_longestFloat_X0 8 rfl rfl 1 (by decide) 38 rfl rfl rfl dX4_longestFloat_24 ?_
        refine x_iload_n C dX4_longestFloat_27 rfl 1 rfl ?_
        refine x_iald C hK 10 0 rfl hI (by omega) (by omega) dX4_longestFloat_28 ?_
        refine x_if_ne C 38 dX4_longestFloat_29 (by decide) (fun h_8 => ?_) (fun h_8 => ?_)
        ·
          refine x_iload_n C dX4_longestFloat_38 rfl 1 rfl ?_
          refine x_iret C hK hlk hrt hQ hH0 hAA i ?_ [0, 1, 2, 3, 4, 5, 6, 7, 8, 9, 10] (by decide) rfl (by first | decide | omega) (by first | decide | omega) dX4_longestFloat_39
          exact ⟨rfl, hi, by first | exact Or.inl (by omega) | exact Or.inr (by assumption), hx⟩
        ·
          refine xn_iinc C (i - 1) [(3, .int (nI (i - 1))), (0, .ref x)] dX4_longestFloat_32 1 rfl (by rw [show Int32.ofInt (-1) = -nI 1 from by decide +kernel]; exact gx_addneg (by omega)) (by decide) rfl ?_
          refine x_goto C 16 dX4_longestFloat_35 (by decide) ?_
          refine x_lv [(0, .ref x), (3, .int (nI (i - 1)))] [1, 0] rfl ?_
          exact ih_K_5 (i - 1) (by first | assumption | omega) (by intro j h1 h2; by_cases e : j = i; { subst e; first | assumption | exact Classical.not_not.mp (by assumption) }; exact hx j (by omega) h2) (by omega)
  refine x_lv [(0, .ref x), (3, .int (nI 40))] [1, 0] rfl ?_
  exact K_5 (40 + 1) 40 (by first | assumption | omega) (by intro j h1 h2; omega) (Nat.lt_succ_self _)
abbrev rm_longest01 : Room := { frames := 4, cells := 0, slots := 0, locals := 93 }
set_option maxRecDepth 100000 in
set_option maxHeartbeats 4000000 in
theorem c_longest01 (l : Launch) (D : va_G) (tys : List (ClassId × FieldType)) (cI cJ : ClassId) (hI : tys[0]? = some (cI, .int)) (hJ : tys[1]? = some (cJ, .long)) (x : Nat) (qw : Nat) (qv : Nat) (qt : Nat) (ri : Int32) (qd : Nat) (qc : Nat) (ql : Nat) (wa : Nat) (wo : Nat) (nw : Nat) (bw : Nat → Int32) (cw : Nat → Int32) (pa : Nat) (po : Nat) (np : Nat) (bp : Nat → Int32) (cp : Nat → Int32) (ti : Nat → Int32) (ce : Nat) (cf : Nat) (ven : Int32) (vpn : Int32) (fe : Nat → Int64) (ff : Nat → Int32) (hnw : nw ≤ 40) (hnp : np ≤ 40) : MI l yX4_longestFloat wsX4_longestFloat rm_longest01 D tys [.ref x, .int (nI 0), .int (nI 1)] [(x, OB 4 [.ref qw, .ref qv, .ref qt, .int ri, .ref qd, .ref qc, .ref ql]), (qw, OB 3 [.ref wa, .ref wo, .int (nI nw)]), (wa, AI cI 40 bw), (wo, AI cI 40 cw), (qv, OB 3 [.ref pa, .ref po, .int (nI np)]), (pa, AI cI 40 bp), (po, AI cI 40 cp), (qt, AI cI 10 ti), (qc, OB 0 [.ref ce, .ref cf, .int ven, .int vpn]), (ce, AJ cJ 40 fe), (cf, AI cI 41 ff)] Nat (fun r (Lm : Nat) => r = nI Lm ∧ isLF (cfT (fun x0 y0 => hbit ((wvF ri ti bp bw nw fe np) x0) (nI y0) == false) nw (flF ff 0 41) np) Lm) (fun (Lm : Nat) => [(x, OB 4 [.ref qw, .ref qv, .ref qt, .int ri, .ref qd, .ref qc, .ref ql]), (qw, OB 3 [.ref wa, .ref wo, .int (nI nw)]), (wa, AI cI 40 bw), (wo, AI cI 40 cw), (qv, OB 3 [.ref pa, .ref po, .int (nI np)]), (pa, AI cI 40 bp), (po, AI cI 40 cp), (qt, AI cI 10 ti), (qc, OB 0 [.ref ce, .ref cf, .int (nI nw), .int (nI np)]), (ce, AJ cJ 40 (wvF ri ti bp bw nw fe np)), (cf, AI cI 41 (cfT (fun x0 y0 => hbit ((wvF ri ti bp bw nw fe np) x0) (nI y0) == false) nw (flF ff 0 41) np))]) 0 0 := by
  intro sz
  refine x_met (cc := cX4_longestFloat) (maxL := 4) (ret := (some .int)) (by decide +kernel) rfl (by show _ ≤ _; simp [lg_sl, Value.category]) [(0, .ref x), (1, .int (nI 0)), (2, .int (nI 1))] rfl ?_
  intro p e s m args below meth c Q A H0 C hK hNW hlk hrt hnm hQ hH0 hAA hA
  refine x_aload_n C dX4_longestFloat_0 rfl 0 rfl ?_
  refine x_callv (x_runV C hK hNW (c_weave l D tys cI cJ hI hJ x qw qv qt ri qd qc ql wa wo nw bw cw pa po np bp cp ti ce cf ven vpn fe ff (by first | omega | assumption) (by first | omega | assumption)) (cwV 0 C.2.2.2.2 gX4_longestFloat_X4_weave rfl rfl rfl (by decide +kernel) ⟨by decide, by decide⟩) [0, 1, 2, 3, 4, 5, 6, 7, 8, 9, 10] rfl (by decide) 0 4 rfl rfl rfl (st := []) rfl rfl (Nat.le_of_ble_eq_true rfl) dX4_longestFloat_1 ⟨by first | decide | omega, by first | decide | omega⟩) hA [0, 1, 2, 3, 4, 5, 6, 7, 8, 9, 10] rfl [] [] rfl (by decide) (by decide) [0, 1, 2, 3, 4, 5, 6, 7, 8, 9, 10] (by decide) (wf := (fun (u : Unit) => [(x, OB 4 [.ref qw, .ref qv, .ref qt, .int ri, .ref qd, .ref qc, .ref ql]), (qw, OB 3 [.ref wa, .ref wo, .int (nI nw)]), (wa, AI cI 40 bw), (wo, AI cI 40 cw), (qv, OB 3 [.ref pa, .ref po, .int (nI np)]), (pa, AI cI 40 bp), (po, AI cI 40 cp), (qt, AI cI 10 ti), (qc, OB 0 [.ref ce, .ref cf, .int (nI nw), .int (nI np)]), (ce, AJ cJ 40 (wvF ri ti bp bw nw fe np)), (cf, AI cI 41 ff)])) (fun _ => rfl) (fun u h_2 => ?_)
  refine x_aload_n C dX4_longestFloat_4 rfl 0 rfl ?_
  refine x_get C hK in_X4_longestFloat_X4 0 rfl rfl 5 (by decide) (by decide +kernel) rfl rfl dX4_longestFloat_5 ?_
  refine x_iload_n C dX4_longestFloat_8 rfl 1 rfl ?_
  refine x_iload_n C dX4_longestFloat_9 rfl 2 rfl ?_
  refine x_callv (x_runVN C hK hNW (c_cl_cf01 l D tys cI cJ hI hJ qc ce cf nw np (wvF ri ti bp bw nw fe np) ff (by first | omega | assumption) (by first | omega | assumption)) ⟨va_cnB 2 C.2.2.2.2 gX4_longestFloat_X0_countFloats_n116 rfl rfl rfl (hNW.at 5 rfl) (C.2.2.2.2 (.initialized RX0) (by decide +kernel)) (by decide +kernel) ⟨by decide, by decide⟩, C.2.2.2.2 (.instanceMethod yX0_countFloats) (by decide +kernel), C.2.2.2.2 (.selects RX0 yX0_countFloats yX0_countFloats) (by decide +kernel)⟩ [8, 9, 10] rfl (by decide) 8 0 rfl rfl rfl (st := []) rfl rfl (Nat.le_of_ble_eq_true rfl) dX4_longestFloat_10 ⟨by first | decide | omega, by first | decide | omega⟩) hA [8, 9, 10] rfl [0, 1, 2, 3, 4, 5, 6, 7] [(x, OB 4 [.ref qw, .ref qv, .ref qt, .int ri, .ref qd, .ref qc, .ref ql]), (qw, OB 3 [.ref wa, .ref wo, .int (nI nw)]), (wa, AI cI 40 bw), (wo, AI cI 40 cw), (qv, OB 3 [.ref pa, .ref po, .int (nI np)]), (pa, AI cI 40 bp), (po, AI cI 40 cp), (qt, AI cI 10 ti)] rfl (by decide) (by decide) [0, 1, 2, 3, 4, 5, 6, 7, 8, 9, 10] (by decide) (wf := (fun (u : Unit) => [(x, OB 4 [.ref qw, .ref qv, .ref qt, .int ri, .ref qd, .ref qc, .ref ql]), (qw, OB 3 [.ref wa, .ref wo, .int (nI nw)]), (wa, AI cI 40 bw), (wo, AI cI 40 cw), (qv, OB 3 [.ref pa, .ref po, .int (nI np)]), (pa, AI cI 40 bp), (po, AI cI 40 cp), (qt, AI cI 10 ti), (qc, OB 0 [.ref ce, .ref cf, .int (nI nw), .int (nI np)]), (ce, AJ cJ 40 (wvF ri ti bp bw nw fe np)), (cf, AI cI 41 (cfT (fun x0 y0 => hbit ((wvF ri ti bp bw nw fe np) x0) (nI y0) == false) nw (flF ff 0 41) np))])) (fun _ => rfl) (fun u h_4 => ?_)
  refine x_bipush C (nI 40) dX4_longestFloat_13 (by decide +kernel) ?_
  refine x_istore_n C [(3, .int (nI 40)), (0, .ref x), (1, .int (nI 0)), (2, .int (nI 1))] dX4_longestFloat_15 rfl (by decide) rfl ?_
  have K_5 : ∀ (fuel : Nat) (i : Nat), (i ≤ 40) → (∀ j, i < j → j ≤ 40 → (cfT (fun x0 y0 => hbit ((wvF ri ti bp bw nw fe np) x0) (nI y0) == false) nw (flF ff 0 41) np) j = 0) → i < fuel → X_ p l e rm_longest01 s m args below meth c Q D A H0 4 0 0 [(x, OB 4 [.ref qw, .ref qv, .ref qt, .int ri, .ref qd, .ref qc, .ref ql]), (qw, OB 3 [.ref wa, .ref wo, .int (nI nw)]), (wa, AI cI 40 bw), (wo, AI cI 40 cw), (qv, OB 3 [.ref pa, .ref po, .int (nI np)]), (pa, AI cI 40 bp), (po, AI cI 40 cp), (qt, AI cI 10 ti), (qc, OB 0 [.ref ce, .ref cf, .int (nI nw), .int (nI np)]), (ce, AJ cJ 40 (wvF ri ti bp bw nw fe np)), (cf, AI cI 41 (cfT (fun x0 y0 => hbit ((wvF ri ti bp bw nw fe np) x0) (nI y0) == false) nw (flF ff 0 41) np))] [(0, .ref x), (3, .int (nI i))] 16 [] := by
    intro fuel
    induction fuel with
    | zero =>
      intros
      exact absurd (by assumption) (Nat.not_lt_zero _)
    | succ fuel ih_K_5 =>
      intro i hi hx hm_6
      refine x_iload_n C dX4_longestFloat_16 rfl 1 rfl ?_
      refine xn_if_le C 38 (by omega) dX4_longestFloat_17 (by decide) (fun h_7 => ?_) (fun h_7 => ?_)
      ·
        refine x_iload_n C dX4_longestFloat_38 rfl 1 rfl ?_
        refine x_iret C hK hlk hrt hQ hH0 hAA i ?_ [0, 1, 2, 3, 4, 5, 6, 7, 8, 9, 10] (by decide) rfl (by first | decide | omega) (by first | decide | omega) dX4_longestFloat_39
        exact ⟨rfl, hi, by first | exact Or.inl (by omega) | exact Or.inr (by assumption), hx⟩
      ·
        refine x_aload_n C dX4_longestFloat_20 rfl 0 rfl ?_
        refine x_get C hK in_X4_longestFloat_X4 0 rfl rfl 5 (by decide) (by decide +kernel) rfl rfl dX4_longestFloat_21 ?_
        refine x_getN C hK hNW in_X4_longestFloat_X0 8 rfl rfl 1 (by decide) 38 rfl rfl rfl dX4_longestFloat_24 ?_
        refine x_iload_n C dX4_longestFloat_27 rfl 1 rfl ?_
        refine x_iald C hK 10 0 rfl hI (by omega) (by omega) dX4_longestFloat_28 ?_
        refine x_if_ne C 38 dX4_longestFloat_29 (by decide) (fun h_8 => ?_) (fun h_8 => ?_)
        ·
          refine x_iload_n C dX4_longestFloat_38 rfl 1 rfl ?_
          refine x_iret C hK hlk hrt hQ hH0 hAA i ?_ [0, 1, 2, 3, 4, 5, 6, 7, 8, 9, 10] (by decide) rfl (by first | decide | omega) (by first | decide | omega) dX4_longestFloat_39
          exact ⟨rfl, hi, by first | exact Or.inl (by omega) | exact Or.inr (by assumption), hx⟩
        ·
          refine xn_iinc C (i - 1) [(3, .int (nI (i - 1))), (0, .ref x)] dX4_longestFloat_32 1 rfl (by rw [show Int32.ofInt (-1) = -nI 1 from by decide +kernel]; exact gx_addneg (by omega)) (by decide) rfl ?_
          refine x_goto C 16 dX4_longestFloat_35 (by decide) ?_
          refine x_lv [(0, .ref x), (3, .int (nI (i - 1)))] [1, 0] rfl ?_
          exact ih_K_5 (i - 1) (by first | assumption | omega) (by intro j h1 h2; by_cases e : j = i; { subst e; first | assumption | exact Classical.not_not.mp (by assumption) }; exact hx j (by omega) h2) (by omega)
  refine x_lv [(0, .ref x), (3, .int (nI 40))] [1, 0] rfl ?_
  exact K_5 (40 + 1) 40 (by first | assumption | omega) (by intro j h1 h2; omega) (Nat.lt_succ_self _)
abbrev rm_longest00 : Room := { frames := 4, cells := 0, slots := 0, locals := 93 }
set_option maxRecDepth 100000 in
set_option maxHeartbeats 4000000 in
theorem c_longest00 (l : Launch) (D : va_G) (tys : List (ClassId × FieldType)) (cI cJ : ClassId) (hI : tys[0]? = some (cI, .int)) (hJ : tys[1]? = some (cJ, .long)) (x : Nat) (qw : Nat) (qv : Nat) (qt : Nat) (ri : Int32) (qd : Nat) (qc : Nat) (ql : Nat) (wa : Nat) (wo : Nat) (nw : Nat) (bw : Nat → Int32) (cw : Nat → Int32) (pa : Nat) (po : Nat) (np : Nat) (bp : Nat → Int32) (cp : Nat → Int32) (ti : Nat → Int32) (ce : Nat) (cf : Nat) (ven : Int32) (vpn : Int32) (fe : Nat → Int64) (ff : Nat → Int32) (hnw : nw ≤ 40) (hnp : np ≤ 40) : MI l yX4_longestFloat wsX4_longestFloat rm_longest00 D tys [.ref x, .int (nI 0), .int (nI 0)] [(x, OB 4 [.ref qw, .ref qv, .ref qt, .int ri, .ref qd, .ref qc, .ref ql]), (qw, OB 3 [.ref wa, .ref wo, .int (nI nw)]), (wa, AI cI 40 bw), (wo, AI cI 40 cw), (qv, OB 3 [.ref pa, .ref po, .int (nI np)]), (pa, AI cI 40 bp), (po, AI cI 40 cp), (qt, AI cI 10 ti), (qc, OB 0 [.ref ce, .ref cf, .int ven, .int vpn]), (ce, AJ cJ 40 fe), (cf, AI cI 41 ff)] Nat (fun r (Lm : Nat) => r = nI Lm ∧ isLF (cfT (fun x0 y0 => hbit ((wvF ri ti bp bw nw fe np) x0) (nI y0) == true) nw (flF ff 0 41) np) Lm) (fun (Lm : Nat) => [(x, OB 4 [.ref qw, .ref qv, .ref qt, .int ri, .ref qd, .ref qc, .ref ql]), (qw, OB 3 [.ref wa, .ref wo, .int (nI nw)]), (wa, AI cI 40 bw), (wo, AI cI 40 cw), (qv, OB 3 [.ref pa, .ref po, .int (nI np)]), (pa, AI cI 40 bp), (po, AI cI 40 cp), (qt, AI cI 10 ti), (qc, OB 0 [.ref ce, .ref cf, .int (nI nw), .int (nI np)]), (ce, AJ cJ 40 (wvF ri ti bp bw nw fe np)), (cf, AI cI 41 (cfT (fun x0 y0 => hbit ((wvF ri ti bp bw nw fe np) x0) (nI y0) == true) nw (flF ff 0 41) np))]) 0 0 := by
  intro sz
  refine x_met (cc := cX4_longestFloat) (maxL := 4) (ret := (some .int)) (by decide +kernel) rfl (by show _ ≤ _; simp [lg_sl, Value.category]) [(0, .ref x), (1, .int (nI 0)), (2, .int (nI 0))] rfl ?_
  intro p e s m args below meth c Q A H0 C hK hNW hlk hrt hnm hQ hH0 hAA hA
  refine x_aload_n C dX4_longestFloat_0 rfl 0 rfl ?_
  refine x_callv (x_runV C hK hNW (c_weave l D tys cI cJ hI hJ x qw qv qt ri qd qc ql wa wo nw bw cw pa po np bp cp ti ce cf ven vpn fe ff (by first | omega | assumption) (by first | omega | assumption)) (cwV 0 C.2.2.2.2 gX4_longestFloat_X4_weave rfl rfl rfl (by decide +kernel) ⟨by decide, by decide⟩) [0, 1, 2, 3, 4, 5, 6, 7, 8, 9, 10] rfl (by decide) 0 4 rfl rfl rfl (st := []) rfl rfl (Nat.le_of_ble_eq_true rfl) dX4_longestFloat_1 ⟨by first | decide | omega, by first | decide | omega⟩) hA [0, 1, 2, 3, 4, 5, 6, 7, 8, 9, 10] rfl [] [] rfl (by decide) (by decide) [0, 1, 2, 3, 4, 5, 6, 7, 8, 9, 10] (by decide) (wf := (fun (u : Unit) => [(x, OB 4 [.ref qw, .ref qv, .ref qt, .int ri, .ref qd, .ref qc, .ref ql]), (qw, OB 3 [.ref wa, .ref wo, .int (nI nw)]), (wa, AI cI 40 bw), (wo, AI cI 40 cw), (qv, OB 3 [.ref pa, .ref po, .int (nI np)]), (pa, AI cI 40 bp), (po, AI cI 40 cp), (qt, AI cI 10 ti), (qc, OB 0 [.ref ce, .ref cf, .int (nI nw), .int (nI np)]), (ce, AJ cJ 40 (wvF ri ti bp bw nw fe np)), (cf, AI cI 41 ff)])) (fun _ => rfl) (fun u h_2 => ?_)
  refine x_aload_n C dX4_longestFloat_4 rfl 0 rfl ?_
  refine x_get C hK in_X4_longestFloat_X4 0 rfl rfl 5 (by decide) (by decide +kernel) rfl rfl dX4_longestFloat_5 ?_
  refine x_iload_n C dX4_longestFloat_8 rfl 1 rfl ?_
  refine x_iload_n C dX4_longestFloat_9 rfl 2 rfl ?_
  refine x_callv (x_runVN C hK hNW (c_cl_cf00 l D tys cI cJ hI hJ qc ce cf nw np (wvF ri ti bp bw nw fe np) ff (by first | omega | assumption) (by first | omega | assumption)) ⟨va_cnB 2 C.2.2.2.2 gX4_longestFloat_X0_countFloats_n116 rfl rfl rfl (hNW.at 5 rfl) (C.2.2.2.2 (.initialized RX0) (by decide +kernel)) (by decide +kernel) ⟨by decide, by decide⟩, C.2.2.2.2 (.instanceMethod yX0_countFloats) (by decide +kernel), C.2.2.2.2 (.selects RX0 yX0_countFloats yX0_countFloats) (by decide +kernel)⟩ [8, 9, 10] rfl (by decide) 8 0 rfl rfl rfl (st := []) rfl rfl (Nat.le_of_ble_eq_true rfl) dX4_longestFloat_10 ⟨by first | decide | omega, by first | decide | omega⟩) hA [8, 9, 10] rfl [0, 1, 2, 3, 4, 5, 6, 7] [(x, OB 4 [.ref qw, .ref qv, .ref qt, .int ri, .ref qd, .ref qc, .ref ql]), (qw, OB 3 [.ref wa, .ref wo, .int (nI nw)]), (wa, AI cI 40 bw), (wo, AI cI 40 cw), (qv, OB 3 [.ref pa, .ref po, .int (nI np)]), (pa, AI cI 40 bp), (po, AI cI 40 cp), (qt, AI cI 10 ti)] rfl (by decide) (by decide) [0, 1, 2, 3, 4, 5, 6, 7, 8, 9, 10] (by decide) (wf := (fun (u : Unit) => [(x, OB 4 [.ref qw, .ref qv, .ref qt, .int ri, .ref qd, .ref qc, .ref ql]), (qw, OB 3 [.ref wa, .ref wo, .int (nI nw)]), (wa, AI cI 40 bw), (wo, AI cI 40 cw), (qv, OB 3 [.ref pa, .ref po, .int (nI np)]), (pa, AI cI 40 bp), (po, AI cI 40 cp), (qt, AI cI 10 ti), (qc, OB 0 [.ref ce, .ref cf, .int (nI nw), .int (nI np)]), (ce, AJ cJ 40 (wvF ri ti bp bw nw fe np)), (cf, AI cI 41 (cfT (fun x0 y0 => hbit ((wvF ri ti bp bw nw fe np) x0) (nI y0) == true) nw (flF ff 0 41) np))])) (fun _ => rfl) (fun u h_4 => ?_)
  refine x_bipush C (nI 40) dX4_longestFloat_13 (by decide +kernel) ?_
  refine x_istore_n C [(3, .int (nI 40)), (0, .ref x), (1, .int (nI 0)), (2, .int (nI 0))] dX4_longestFloat_15 rfl (by decide) rfl ?_
  have K_5 : ∀ (fuel : Nat) (i : Nat), (i ≤ 40) → (∀ j, i < j → j ≤ 40 → (cfT (fun x0 y0 => hbit ((wvF ri ti bp bw nw fe np) x0) (nI y0) == true) nw (flF ff 0 41) np) j = 0) → i < fuel → X_ p l e rm_longest00 s m args below meth c Q D A H0 4 0 0 [(x, OB 4 [.ref qw, .ref qv, .ref qt, .int ri, .ref qd, .ref qc, .ref ql]), (qw, OB 3 [.ref wa, .ref wo, .int (nI nw)]), (wa, AI cI 40 bw), (wo, AI cI 40 cw), (qv, OB 3 [.ref pa, .ref po, .int (nI np)]), (pa, AI cI 40 bp), (po, AI cI 40 cp), (qt, AI cI 10 ti), (qc, OB 0 [.ref ce, .ref cf, .int (nI nw), .int (nI np)]), (ce, AJ cJ 40 (wvF ri ti bp bw nw fe np)), (cf, AI cI 41 (cfT (fun x0 y0 => hbit ((wvF ri ti bp bw nw fe np) x0) (nI y0) == true) nw (flF ff 0 41) np))] [(0, .ref x), (3, .int (nI i))] 16 [] := by
    intro fuel
    induction fuel with
    | zero =>
      intros
      exact absurd (by assumption) (Nat.not_lt_zero _)
    | succ fuel ih_K_5 =>
      intro i hi hx hm_6
      refine x_iload_n C dX4_longestFloat_16 rfl 1 rfl ?_
      refine xn_if_le C 38 (by omega) dX4_longestFloat_17 (by decide) (fun h_7 => ?_) (fun h_7 => ?_)
      ·
        refine x_iload_n C dX4_longestFloat_38 rfl 1 rfl ?_
        refine x_iret C hK hlk hrt hQ hH0 hAA i ?_ [0, 1, 2, 3, 4, 5, 6, 7, 8, 9, 10] (by decide) rfl (by first | decide | omega) (by first | decide | omega) dX4_longestFloat_39
        exact ⟨rfl, hi, by first | exact Or.inl (by omega) | exact Or.inr (by assumption), hx⟩
      ·
        refine x_aload_n C dX4_longestFloat_20 rfl 0 rfl ?_
        refine x_get C hK in_X4_longestFloat_X4 0 rfl rfl 5 (by decide) (by decide +kernel) rfl rfl dX4_longestFloat_21 ?_
        refine x_getN C hK hNW in_X4_longestFloat_X0 8 rfl rfl 1 (by decide) 38 rfl rfl rfl dX4_longestFloat_24 ?_
        refine x_iload_n C dX4_longestFloat_27 rfl 1 rfl ?_
        refine x_iald C hK 10 0 rfl hI (by omega) (by omega) dX4_longestFloat_28 ?_
        refine x_if_ne C 38 dX4_longestFloat_29 (by decide) (fun h_8 => ?_) (fun h_8 => ?_)
        ·
          refine x_iload_n C dX4_longestFloat_38 rfl 1 rfl ?_
          refine x_iret C hK hlk hrt hQ hH0 hAA i ?_ [0, 1, 2, 3, 4, 5, 6, 7, 8, 9, 10] (by decide) rfl (by first | decide | omega) (by first | decide | omega) dX4_longestFloat_39
          exact ⟨rfl, hi, by first | exact Or.inl (by omega) | exact Or.inr (by assumption), hx⟩
        ·
          refine xn_iinc C (i - 1) [(3, .int (nI (i - 1))), (0, .ref x)] dX4_longestFloat_32 1 rfl (by rw [show Int32.ofInt (-1) = -nI 1 from by decide +kernel]; exact gx_addneg (by omega)) (by decide) rfl ?_
          refine x_goto C 16 dX4_longestFloat_35 (by decide) ?_
          refine x_lv [(0, .ref x), (3, .int (nI (i - 1)))] [1, 0] rfl ?_
          exact ih_K_5 (i - 1) (by first | assumption | omega) (by intro j h1 h2; by_cases e : j = i; { subst e; first | assumption | exact Classical.not_not.mp (by assumption) }; exact hx j (by omega) h2) (by omega)
  refine x_lv [(0, .ref x), (3, .int (nI 40))] [1, 0] rfl ?_
  exact K_5 (40 + 1) 40 (by first | assumption | omega) (by intro j h1 h2; omega) (Nat.lt_succ_self _)
abbrev rm_floats1 : Room := { frames := 4, cells := 0, slots := 0, locals := 93 }
set_option maxRecDepth 100000 in
set_option maxHeartbeats 4000000 in
theorem c_floats1 (l : Launch) (D : va_G) (tys : List (ClassId × FieldType)) (cI cJ : ClassId) (hI : tys[0]? = some (cI, .int)) (hJ : tys[1]? = some (cJ, .long)) (x : Nat) (qw : Nat) (qv : Nat) (qt : Nat) (ri : Int32) (qd : Nat) (qc : Nat) (ql : Nat) (wa : Nat) (wo : Nat) (nw : Nat) (bw : Nat → Int32) (cw : Nat → Int32) (pa : Nat) (po : Nat) (np : Nat) (bp : Nat → Int32) (cp : Nat → Int32) (ti : Nat → Int32) (ce : Nat) (cf : Nat) (ven : Int32) (vpn : Int32) (fe : Nat → Int64) (ff : Nat → Int32) (ln : Nat) (hnw : nw ≤ 40) (hnp : np ≤ 40) (h1 : 1 ≤ ln) (h2 : ln ≤ 40) : MI l yX4_floats wsX4_floats rm_floats1 D tys [.ref x, .int (nI 1), .int (nI ln)] [(x, OB 4 [.ref qw, .ref qv, .ref qt, .int ri, .ref qd, .ref qc, .ref ql]), (qw, OB 3 [.ref wa, .ref wo, .int (nI nw)]), (wa, AI cI 40 bw), (wo, AI cI 40 cw), (qv, OB 3 [.ref pa, .ref po, .int (nI np)]), (pa, AI cI 40 bp), (po, AI cI 40 cp), (qt, AI cI 10 ti), (qc, OB 0 [.ref ce, .ref cf, .int ven, .int vpn]), (ce, AJ cJ 40 fe), (cf, AI cI 41 ff)] Unit (fun r (_ : Unit) => r = (cfT (fun x0 y0 => hbit ((wvF ri ti bp bw nw fe np) y0) (nI x0) == true) np (flF ff 0 41) nw) ln) (fun (_ : Unit) => [(x, OB 4 [.ref qw, .ref qv, .ref qt, .int ri, .ref qd, .ref qc, .ref ql]), (qw, OB 3 [.ref wa, .ref wo, .int (nI nw)]), (wa, AI cI 40 bw), (wo, AI cI 40 cw), (qv, OB 3 [.ref pa, .ref po, .int (nI np)]), (pa, AI cI 40 bp), (po, AI cI 40 cp), (qt, AI cI 10 ti), (qc, OB 0 [.ref ce, .ref cf, .int (nI nw), .int (nI np)]), (ce, AJ cJ 40 (wvF ri ti bp bw nw fe np)), (cf, AI cI 41 (cfT (fun x0 y0 => hbit ((wvF ri ti bp bw nw fe np) y0) (nI x0) == true) np (flF ff 0 41) nw))]) 0 0 := by
  intro sz
  refine x_met (cc := cX4_floats) (maxL := 3) (ret := (some .int)) (by decide +kernel) rfl (by show _ ≤ _; simp [lg_sl, Value.category]) [(0, .ref x), (1, .int (nI 1)), (2, .int (nI ln))] rfl ?_
  intro p e s m args below meth c Q A H0 C hK hNW hlk hrt hnm hQ hH0 hAA hA
  refine x_iload_n C dX4_floats_0 rfl 2 rfl ?_
  refine x_iconst C (nI 1) dX4_floats_1 (by decide +kernel) ?_
  refine xn_icmp_lt C 11 (by omega) (by omega) dX4_floats_2 (by decide) (fun h_1 => ?_) (fun h_1 => ?_)
  ·
    exact absurd h_1 (by omega)
  ·
    refine x_iload_n C dX4_floats_5 rfl 2 rfl ?_
    refine x_bipush C (nI 40) dX4_floats_6 (by decide +kernel) ?_
    refine xn_icmp_le C 19 (by omega) (by omega) dX4_floats_8 (by decide) (fun h_2 => ?_) (fun h_2 => ?_)
    ·
      refine x_aload_n C dX4_floats_19 rfl 0 rfl ?_
      refine x_callv (x_runV C hK hNW (c_weave l D tys cI cJ hI hJ x qw qv qt ri qd qc ql wa wo nw bw cw pa po np bp cp ti ce cf ven vpn fe ff (by first | omega | assumption) (by first | omega | assumption)) (cwV 0 C.2.2.2.2 gX4_floats_X4_weave rfl rfl rfl (by decide +kernel) ⟨by decide, by decide⟩) [0, 1, 2, 3, 4, 5, 6, 7, 8, 9, 10] rfl (by decide) 0 4 rfl rfl rfl (st := []) rfl rfl (Nat.le_of_ble_eq_true rfl) dX4_floats_20 ⟨by first | decide | omega, by first | decide | omega⟩) hA [0, 1, 2, 3, 4, 5, 6, 7, 8, 9, 10] rfl [] [] rfl (by decide) (by decide) [0, 1, 2, 3, 4, 5, 6, 7, 8, 9, 10] (by decide) (wf := (fun (u : Unit) => [(x, OB 4 [.ref qw, .ref qv, .ref qt, .int ri, .ref qd, .ref qc, .ref ql]), (qw, OB 3 [.ref wa, .ref wo, .int (nI nw)]), (wa, AI cI 40 bw), (wo, AI cI 40 cw), (qv, OB 3 [.ref pa, .ref po, .int (nI np)]), (pa, AI cI 40 bp), (po, AI cI 40 cp), (qt, AI cI 10 ti), (qc, OB 0 [.ref ce, .ref cf, .int (nI nw), .int (nI np)]), (ce, AJ cJ 40 (wvF ri ti bp bw nw fe np)), (cf, AI cI 41 ff)])) (fun _ => rfl) (fun u h_4 => ?_)
      refine x_aload_n C dX4_floats_23 rfl 0 rfl ?_
      refine x_get C hK in_X4_floats_X4 0 rfl rfl 5 (by decide) (by decide +kernel) rfl rfl dX4_floats_24 ?_
      refine x_iload_n C dX4_floats_27 rfl 1 rfl ?_
      refine x_iconst C (nI 1) dX4_floats_28 (by decide +kernel) ?_
      refine x_callv (x_runVN C hK hNW (c_cl_cf11 l D tys cI cJ hI hJ qc ce cf nw np (wvF ri ti bp bw nw fe np) ff (by first | omega | assumption) (by first | omega | assumption)) ⟨va_cnB 2 C.2.2.2.2 gX4_floats_X0_countFloats_n116 rfl rfl rfl (hNW.at 5 rfl) (C.2.2.2.2 (.initialized RX0) (by decide +kernel)) (by decide +kernel) ⟨by decide, by decide⟩, C.2.2.2.2 (.instanceMethod yX0_countFloats) (by decide +kernel), C.2.2.2.2 (.selects RX0 yX0_countFloats yX0_countFloats) (by decide +kernel)⟩ [8, 9, 10] rfl (by decide) 8 0 rfl rfl rfl (st := []) rfl rfl (Nat.le_of_ble_eq_true rfl) dX4_floats_29 ⟨by first | decide | omega, by first | decide | omega⟩) hA [8, 9, 10] rfl [0, 1, 2, 3, 4, 5, 6, 7] [(x, OB 4 [.ref qw, .ref qv, .ref qt, .int ri, .ref qd, .ref qc, .ref ql]), (qw, OB 3 [.ref wa, .ref wo, .int (nI nw)]), (wa, AI cI 40 bw), (wo, AI cI 40 cw), (qv, OB 3 [.ref pa, .ref po, .int (nI np)]), (pa, AI cI 40 bp), (po, AI cI 40 cp), (qt, AI cI 10 ti)] rfl (by decide) (by decide) [0, 1, 2, 3, 4, 5, 6, 7, 8, 9, 10] (by decide) (wf := (fun (u : Unit) => [(x, OB 4 [.ref qw, .ref qv, .ref qt, .int ri, .ref qd, .ref qc, .ref ql]), (qw, OB 3 [.ref wa, .ref wo, .int (nI nw)]), (wa, AI cI 40 bw), (wo, AI cI 40 cw), (qv, OB 3 [.ref pa, .ref po, .int (nI np)]), (pa, AI cI 40 bp), (po, AI cI 40 cp), (qt, AI cI 10 ti), (qc, OB 0 [.ref ce, .ref cf, .int (nI nw), .int (nI np)]), (ce, AJ cJ 40 (wvF ri ti bp bw nw fe np)), (cf, AI cI 41 (cfT (fun x0 y0 => hbit ((wvF ri ti bp bw nw fe np) y0) (nI x0) == true) np (flF ff 0 41) nw))])) (fun _ => rfl) (fun u h_6 => ?_)
      refine x_aload_n C dX4_floats_32 rfl 0 rfl ?_
      refine x_get C hK in_X4_floats_X4 0 rfl rfl 5 (by decide) (by decide +kernel) rfl rfl dX4_floats_33 ?_
      refine x_getN C hK hNW in_X4_floats_X0 8 rfl rfl 1 (by decide) 38 rfl rfl rfl dX4_floats_36 ?_
      refine x_iload_n C dX4_floats_39 rfl 2 rfl ?_
      refine x_iald C hK 10 0 rfl hI (by omega) (by omega) dX4_floats_40 ?_
      refine x_iret C hK hlk hrt hQ hH0 hAA () ?_ [0, 1, 2, 3, 4, 5, 6, 7, 8, 9, 10] (by decide) rfl (by first | decide | omega) (by first | decide | omega) dX4_floats_41
      first | rfl | (exact ⟨rfl, rfl⟩) | trivial | assumption | omega
    ·
      exact absurd h_2 (by omega)
abbrev rm_floats0 : Room := { frames := 4, cells := 0, slots := 0, locals := 93 }
set_option maxRecDepth 100000 in
set_option maxHeartbeats 4000000 in
theorem c_floats0 (l : Launch) (D : va_G) (tys : List (ClassId × FieldType)) (cI cJ : ClassId) (hI : tys[0]? = some (cI, .int)) (hJ : tys[1]? = some (cJ, .long)) (x : Nat) (qw : Nat) (qv : Nat) (qt : Nat) (ri : Int32) (qd : Nat) (qc : Nat) (ql : Nat) (wa : Nat) (wo : Nat) (nw : Nat) (bw : Nat → Int32) (cw : Nat → Int32) (pa : Nat) (po : Nat) (np : Nat) (bp : Nat → Int32) (cp : Nat → Int32) (ti : Nat → Int32) (ce : Nat) (cf : Nat) (ven : Int32) (vpn : Int32) (fe : Nat → Int64) (ff : Nat → Int32) (ln : Nat) (hnw : nw ≤ 40) (hnp : np ≤ 40) (h1 : 1 ≤ ln) (h2 : ln ≤ 40) : MI l yX4_floats wsX4_floats rm_floats0 D tys [.ref x, .int (nI 0), .int (nI ln)] [(x, OB 4 [.ref qw, .ref qv, .ref qt, .int ri, .ref qd, .ref qc, .ref ql]), (qw, OB 3 [.ref wa, .ref wo, .int (nI nw)]), (wa, AI cI 40 bw), (wo, AI cI 40 cw), (qv, OB 3 [.ref pa, .ref po, .int (nI np)]), (pa, AI cI 40 bp), (po, AI cI 40 cp), (qt, AI cI 10 ti), (qc, OB 0 [.ref ce, .ref cf, .int ven, .int vpn]), (ce, AJ cJ 40 fe), (cf, AI cI 41 ff)] Unit (fun r (_ : Unit) => r = (cfT (fun x0 y0 => hbit ((wvF ri ti bp bw nw fe np) x0) (nI y0) == false) nw (flF ff 0 41) np) ln) (fun (_ : Unit) => [(x, OB 4 [.ref qw, .ref qv, .ref qt, .int ri, .ref qd, .ref qc, .ref ql]), (qw, OB 3 [.ref wa, .ref wo, .int (nI nw)]), (wa, AI cI 40 bw), (wo, AI cI 40 cw), (qv, OB 3 [.ref pa, .ref po, .int (nI np)]), (pa, AI cI 40 bp), (po, AI cI 40 cp), (qt, AI cI 10 ti), (qc, OB 0 [.ref ce, .ref cf, .int (nI nw), .int (nI np)]), (ce, AJ cJ 40 (wvF ri ti bp bw nw fe np)), (cf, AI cI 41 (cfT (fun x0 y0 => hbit ((wvF ri ti bp bw nw fe np) x0) (nI y0) == false) nw (flF ff 0 41) np))]) 0 0 := by
  intro sz
  refine x_met (cc := cX4_floats) (maxL := 3) (ret := (some .int)) (by decide +kernel) rfl (by show _ ≤ _; simp [lg_sl, Value.category]) [(0, .ref x), (1, .int (nI 0)), (2, .int (nI ln))] rfl ?_
  intro p e s m args below meth c Q A H0 C hK hNW hlk hrt hnm hQ hH0 hAA hA
  refine x_iload_n C dX4_floats_0 rfl 2 rfl ?_
  refine x_iconst C (nI 1) dX4_floats_1 (by decide +kernel) ?_
  refine xn_icmp_lt C 11 (by omega) (by omega) dX4_floats_2 (by decide) (fun h_1 => ?_) (fun h_1 => ?_)
  ·
    exact absurd h_1 (by omega)
  ·
    refine x_iload_n C dX4_floats_5 rfl 2 rfl ?_
    refine x_bipush C (nI 40) dX4_floats_6 (by decide +kernel) ?_
    refine xn_icmp_le C 19 (by omega) (by omega) dX4_floats_8 (by decide) (fun h_2 => ?_) (fun h_2 => ?_)
    ·
      refine x_aload_n C dX4_floats_19 rfl 0 rfl ?_
      refine x_callv (x_runV C hK hNW (c_weave l D tys cI cJ hI hJ x qw qv qt ri qd qc ql wa wo nw bw cw pa po np bp cp ti ce cf ven vpn fe ff (by first | omega | assumption) (by first | omega | assumption)) (cwV 0 C.2.2.2.2 gX4_floats_X4_weave rfl rfl rfl (by decide +kernel) ⟨by decide, by decide⟩) [0, 1, 2, 3, 4, 5, 6, 7, 8, 9, 10] rfl (by decide) 0 4 rfl rfl rfl (st := []) rfl rfl (Nat.le_of_ble_eq_true rfl) dX4_floats_20 ⟨by first | decide | omega, by first | decide | omega⟩) hA [0, 1, 2, 3, 4, 5, 6, 7, 8, 9, 10] rfl [] [] rfl (by decide) (by decide) [0, 1, 2, 3, 4, 5, 6, 7, 8, 9, 10] (by decide) (wf := (fun (u : Unit) => [(x, OB 4 [.ref qw, .ref qv, .ref qt, .int ri, .ref qd, .ref qc, .ref ql]), (qw, OB 3 [.ref wa, .ref wo, .int (nI nw)]), (wa, AI cI 40 bw), (wo, AI cI 40 cw), (qv, OB 3 [.ref pa, .ref po, .int (nI np)]), (pa, AI cI 40 bp), (po, AI cI 40 cp), (qt, AI cI 10 ti), (qc, OB 0 [.ref ce, .ref cf, .int (nI nw), .int (nI np)]), (ce, AJ cJ 40 (wvF ri ti bp bw nw fe np)), (cf, AI cI 41 ff)])) (fun _ => rfl) (fun u h_4 => ?_)
      refine x_aload_n C dX4_floats_23 rfl 0 rfl ?_
      refine x_get C hK in_X4_floats_X4 0 rfl rfl 5 (by decide) (by decide +kernel) rfl rfl dX4_floats_24 ?_
      refine x_iload_n C dX4_floats_27 rfl 1 rfl ?_
      refine x_iconst C (nI 1) dX4_floats_28 (by decide +kernel) ?_
      refine x_callv (x_runVN C hK hNW (c_cl_cf01 l D tys cI cJ hI hJ qc ce cf nw np (wvF ri ti bp bw nw fe np) ff (by first | omega | assumption) (by first | omega | assumption)) ⟨va_cnB 2 C.2.2.2.2 gX4_floats_X0_countFloats_n116 rfl rfl rfl (hNW.at 5 rfl) (C.2.2.2.2 (.initialized RX0) (by decide +kernel)) (by decide +kernel) ⟨by decide, by decide⟩, C.2.2.2.2 (.instanceMethod yX0_countFloats) (by decide +kernel), C.2.2.2.2 (.selects RX0 yX0_countFloats yX0_countFloats) (by decide +kernel)⟩ [8, 9, 10] rfl (by decide) 8 0 rfl rfl rfl (st := []) rfl rfl (Nat.le_of_ble_eq_true rfl) dX4_floats_29 ⟨by first | decide | omega, by first | decide | omega⟩) hA [8, 9, 10] rfl [0, 1, 2, 3, 4, 5, 6, 7] [(x, OB 4 [.ref qw, .ref qv, .ref qt, .int ri, .ref qd, .ref qc, .ref ql]), (qw, OB 3 [.ref wa, .ref wo, .int (nI nw)]), (wa, AI cI 40 bw), (wo, AI cI 40 cw), (qv, OB 3 [.ref pa, .ref po, .int (nI np)]), (pa, AI cI 40 bp), (po, AI cI 40 cp), (qt, AI cI 10 ti)] rfl (by decide) (by decide) [0, 1, 2, 3, 4, 5, 6, 7, 8, 9, 10] (by decide) (wf := (fun (u : Unit) => [(x, OB 4 [.ref qw, .ref qv, .ref qt, .int ri, .ref qd, .ref qc, .ref ql]), (qw, OB 3 [.ref wa, .ref wo, .int (nI nw)]), (wa, AI cI 40 bw), (wo, AI cI 40 cw), (qv, OB 3 [.ref pa, .ref po, .int (nI np)]), (pa, AI cI 40 bp), (po, AI cI 40 cp), (qt, AI cI 10 ti), (qc, OB 0 [.ref ce, .ref cf, .int (nI nw), .int (nI np)]), (ce, AJ cJ 40 (wvF ri ti bp bw nw fe np)), (cf, AI cI 41 (cfT (fun x0 y0 => hbit ((wvF ri ti bp bw nw fe np) x0) (nI y0) == false) nw (flF ff 0 41) np))])) (fun _ => rfl) (fun u h_6 => ?_)
      refine x_aload_n C dX4_floats_32 rfl 0 rfl ?_
      refine x_get C hK in_X4_floats_X4 0 rfl rfl 5 (by decide) (by decide +kernel) rfl rfl dX4_floats_33 ?_
      refine x_getN C hK hNW in_X4_floats_X0 8 rfl rfl 1 (by decide) 38 rfl rfl rfl dX4_floats_36 ?_
      refine x_iload_n C dX4_floats_39 rfl 2 rfl ?_
      refine x_iald C hK 10 0 rfl hI (by omega) (by omega) dX4_floats_40 ?_
      refine x_iret C hK hlk hrt hQ hH0 hAA () ?_ [0, 1, 2, 3, 4, 5, 6, 7, 8, 9, 10] (by decide) rfl (by first | decide | omega) (by first | decide | omega) dX4_floats_41
      first | rfl | (exact ⟨rfl, rfl⟩) | trivial | assumption | omega
    ·
      exact absurd h_2 (by omega)
abbrev rm_floatsX : Room := { frames := 6, cells := 1, slots := 6, locals := 81 }
set_option maxRecDepth 100000 in
set_option maxHeartbeats 4000000 in
theorem c_floatsX (l : Launch) (hl0 : l.stackTraces = false) (D : va_G) (tys : List (ClassId × FieldType)) (cI cJ : ClassId) (hI : tys[0]? = some (cI, .int)) (hJ : tys[1]? = some (cJ, .long)) (x : Nat) (qw : Nat) (qv : Nat) (qt : Nat) (ri : Int32) (qd : Nat) (qc : Nat) (ql : Nat) (w0 : Int32) (ln : Int32) (hx : ¬ (¬ ln < nI 1 ∧ ln ≤ nI 40)) : XI l yX4_floats wsX4_floats rm_floatsX D tys [.ref x, .int w0, .int ln] [(x, OB 4 [.ref qw, .ref qv, .ref qt, .int ri, .ref qd, .ref qc, .ref ql])] Unit (fun _ _ => False) (fun _ => [(x, OB 4 [.ref qw, .ref qv, .ref qt, .int ri, .ref qd, .ref qc, .ref ql])]) [(x, OB 4 [.ref qw, .ref qv, .ref qt, .int ri, .ref qd, .ref qc, .ref ql])] (fun E => E = "java/lang/IllegalArgumentException") 1 6 := by
  intro sz
  refine x_metX (cc := cX4_floats) (maxL := 3) (ret := (some .int)) (by decide +kernel) rfl (by show _ ≤ _; simp [lg_sl, Value.category]) [(0, .ref x), (1, .int w0), (2, .int ln)] rfl ?_
  intro p e s m args below meth c Q A H0 C hK hNW hlk hrt hnm hQ hH0 hAA hA hZ htab
  refine x_iload_n C dX4_floats_0 rfl 2 rfl ?_
  refine x_iconst C (nI 1) dX4_floats_1 (by decide +kernel) ?_
  refine x_icmp_lt C 11 dX4_floats_2 (by decide) (fun h_1 => ?_) (fun h_1 => ?_)
  ·
    exact x_throw0 C hK hNW hl0 hlk htab hQ hH0 hAA hZ (cls := "java/lang/IllegalArgumentException") (names := ["java/lang/RuntimeException", "java/lang/Exception"]) (ik := 52) (ic := 54) (S := Unit) (by decide +kernel) (by decide +kernel) (by decide +kernel) (by decide +kernel) (by decide +kernel) (by decide +kernel) (by decide +kernel) dX4_floats_11 dX4_floats_14 dX4_floats_15 dX4_floats_18 (by decide) (by decide) (by decide) (by decide) rfl [0] (by decide) rfl (by decide) (by decide)
  ·
    refine x_iload_n C dX4_floats_5 rfl 2 rfl ?_
    refine x_bipush C (nI 40) dX4_floats_6 (by decide +kernel) ?_
    refine x_icmp_le C 19 dX4_floats_8 (by decide) (fun h_2 => ?_) (fun h_2 => ?_)
    ·
      exact absurd ⟨by assumption, h_2⟩ hx
    ·
      exact x_throw0 C hK hNW hl0 hlk htab hQ hH0 hAA hZ (cls := "java/lang/IllegalArgumentException") (names := ["java/lang/RuntimeException", "java/lang/Exception"]) (ik := 52) (ic := 54) (S := Unit) (by decide +kernel) (by decide +kernel) (by decide +kernel) (by decide +kernel) (by decide +kernel) (by decide +kernel) (by decide +kernel) dX4_floats_11 dX4_floats_14 dX4_floats_15 dX4_floats_18 (by decide) (by decide) (by decide) (by decide) rfl [0] (by decide) rfl (by decide) (by decide)
abbrev rm_share0 : Room := { frames := 0, cells := 0, slots := 0, locals := 0 }
set_option maxRecDepth 100000 in
set_option maxHeartbeats 4000000 in
theorem c_share0 (l : Launch) (D : va_G) (tys : List (ClassId × FieldType)) (cI cJ : ClassId) (hI : tys[0]? = some (cI, .int)) (hJ : tys[1]? = some (cJ, .long)) (x : Nat) (qw : Nat) (qv : Nat) (qt : Nat) (ri : Int32) (qd : Nat) (qc : Nat) (ql : Nat) (wa : Nat) (wo : Nat) (nw : Nat) (bw : Nat → Int32) (cw : Nat → Int32) (pa : Nat) (po : Nat) (np : Nat) (bp : Nat → Int32) (cp : Nat → Int32) (hnw : nw ≤ 40) (hnp : np ≤ 40) (hz : nw * np = 0) : MD l yX4_warpShare wsX4_warpShare rm_share0 D tys [.ref x] [(x, OB 4 [.ref qw, .ref qv, .ref qt, .int ri, .ref qd, .ref qc, .ref ql]), (qw, OB 3 [.ref wa, .ref wo, .int (nI nw)]), (wa, AI cI 40 bw), (wo, AI cI 40 cw), (qv, OB 3 [.ref pa, .ref po, .int (nI np)]), (pa, AI cI 40 bp), (po, AI cI 40 cp)] Unit (fun r (_ : Unit) => r = 0) (fun (_ : Unit) => [(x, OB 4 [.ref qw, .ref qv, .ref qt, .int ri, .ref qd, .ref qc, .ref ql]), (qw, OB 3 [.ref wa, .ref wo, .int (nI nw)]), (wa, AI cI 40 bw), (wo, AI cI 40 cw), (qv, OB 3 [.ref pa, .ref po, .int (nI np)]), (pa, AI cI 40 bp), (po, AI cI 40 cp)]) 0 0 := by
  intro sz
  refine x_met (cc := cX4_warpShare) (maxL := 2) (ret := (some .double)) (by decide +kernel) rfl (by show _ ≤ _; simp [lg_sl, Value.category]) [(0, .ref x)] rfl ?_
  intro p e s m args below meth c Q A H0 C hK hNW hlk hrt hnm hQ hH0 hAA hA
  have hmul : nw * np ≤ 40 * 40 := Nat.mul_le_mul hnw hnp
  refine x_aload_n C dX4_warpShare_0 rfl 0 rfl ?_
  refine x_get C hK in_X4_warpShare_X4 0 rfl rfl 0 (by decide) (by decide +kernel) rfl rfl dX4_warpShare_1 ?_
  refine x_getN C hK hNW in_X4_warpShare_X3 1 rfl rfl 2 (by decide) 31 rfl rfl rfl dX4_warpShare_4 ?_
  refine x_aload_n C dX4_warpShare_7 rfl 0 rfl ?_
  refine x_get C hK in_X4_warpShare_X4 0 rfl rfl 1 (by decide) (by decide +kernel) rfl rfl dX4_warpShare_8 ?_
  refine x_getN C hK hNW in_X4_warpShare_X3 4 rfl rfl 2 (by decide) 31 rfl rfl rfl dX4_warpShare_11 ?_
  refine xn_imul C dX4_warpShare_14 ?_
  refine x_istore_n C [(1, .int (nI (nw * np))), (0, .ref x)] dX4_warpShare_15 rfl (by decide) rfl ?_
  refine x_iload_n C dX4_warpShare_16 rfl 0 rfl ?_
  refine xn_if_ne C 22 (by omega) dX4_warpShare_17 (by decide) (fun h_1 => ?_) (fun h_1 => ?_)
  ·
    exact absurd hz h_1
  ·
    refine x_dconst0 C dX4_warpShare_20 ?_
    refine x_dret C hK hlk hrt hQ hH0 hAA () ?_ [0, 1, 2, 3, 4, 5, 6] (by decide) rfl (by first | decide | omega) (by first | decide | omega) dX4_warpShare_21
    first | rfl | (exact ⟨rfl, rfl⟩) | trivial | assumption | omega
abbrev rm_share : Room := { frames := 4, cells := 0, slots := 0, locals := 93 }
set_option maxRecDepth 100000 in
set_option maxHeartbeats 4000000 in
theorem c_share (l : Launch) (D : va_G) (tys : List (ClassId × FieldType)) (cI cJ : ClassId) (hI : tys[0]? = some (cI, .int)) (hJ : tys[1]? = some (cJ, .long)) (x : Nat) (qw : Nat) (qv : Nat) (qt : Nat) (ri : Int32) (qd : Nat) (qc : Nat) (ql : Nat) (wa : Nat) (wo : Nat) (nw : Nat) (bw : Nat → Int32) (cw : Nat → Int32) (pa : Nat) (po : Nat) (np : Nat) (bp : Nat → Int32) (cp : Nat → Int32) (ti : Nat → Int32) (ce : Nat) (cf : Nat) (ven : Int32) (vpn : Int32) (fe : Nat → Int64) (ff : Nat → Int32) (hnw : nw ≤ 40) (hnp : np ≤ 40) (hz : 0 < nw * np) : MD l yX4_warpShare wsX4_warpShare rm_share D tys [.ref x] [(x, OB 4 [.ref qw, .ref qv, .ref qt, .int ri, .ref qd, .ref qc, .ref ql]), (qw, OB 3 [.ref wa, .ref wo, .int (nI nw)]), (wa, AI cI 40 bw), (wo, AI cI 40 cw), (qv, OB 3 [.ref pa, .ref po, .int (nI np)]), (pa, AI cI 40 bp), (po, AI cI 40 cp), (qt, AI cI 10 ti), (qc, OB 0 [.ref ce, .ref cf, .int ven, .int vpn]), (ce, AJ cJ 40 fe), (cf, AI cI 41 ff)] Unit (fun r (_ : Unit) => r = FP.ddiv (FP.i2d (plS (wvF ri ti bp bw nw fe np) np)) (FP.i2d (nI (nw * np)))) (fun (_ : Unit) => [(x, OB 4 [.ref qw, .ref qv, .ref qt, .int ri, .ref qd, .ref qc, .ref ql]), (qw, OB 3 [.ref wa, .ref wo, .int (nI nw)]), (wa, AI cI 40 bw), (wo, AI cI 40 cw), (qv, OB 3 [.ref pa, .ref po, .int (nI np)]), (pa, AI cI 40 bp), (po, AI cI 40 cp), (qt, AI cI 10 ti), (qc, OB 0 [.ref ce, .ref cf, .int (nI nw), .int (nI np)]), (ce, AJ cJ 40 (wvF ri ti bp bw nw fe np)), (cf, AI cI 41 ff)]) 0 0 := by
  intro sz
  refine x_met (cc := cX4_warpShare) (maxL := 2) (ret := (some .double)) (by decide +kernel) rfl (by show _ ≤ _; simp [lg_sl, Value.category]) [(0, .ref x)] rfl ?_
  intro p e s m args below meth c Q A H0 C hK hNW hlk hrt hnm hQ hH0 hAA hA
  have hmul : nw * np ≤ 40 * 40 := Nat.mul_le_mul hnw hnp
  refine x_aload_n C dX4_warpShare_0 rfl 0 rfl ?_
  refine x_get C hK in_X4_warpShare_X4 0 rfl rfl 0 (by decide) (by decide +kernel) rfl rfl dX4_warpShare_1 ?_
  refine x_getN C hK hNW in_X4_warpShare_X3 1 rfl rfl 2 (by decide) 31 rfl rfl rfl dX4_warpShare_4 ?_
  refine x_aload_n C dX4_warpShare_7 rfl 0 rfl ?_
  refine x_get C hK in_X4_warpShare_X4 0 rfl rfl 1 (by decide) (by decide +kernel) rfl rfl dX4_warpShare_8 ?_
  refine x_getN C hK hNW in_X4_warpShare_X3 4 rfl rfl 2 (by decide) 31 rfl rfl rfl dX4_warpShare_11 ?_
  refine xn_imul C dX4_warpShare_14 ?_
  refine x_istore_n C [(1, .int (nI (nw * np))), (0, .ref x)] dX4_warpShare_15 rfl (by decide) rfl ?_
  refine x_iload_n C dX4_warpShare_16 rfl 0 rfl ?_
  refine xn_if_ne C 22 (by omega) dX4_warpShare_17 (by decide) (fun h_1 => ?_) (fun h_1 => ?_)
  ·
    refine x_aload_n C dX4_warpShare_22 rfl 1 rfl ?_
    refine x_callv (x_runV C hK hNW (c_weave l D tys cI cJ hI hJ x qw qv qt ri qd qc ql wa wo nw bw cw pa po np bp cp ti ce cf ven vpn fe ff (by first | omega | assumption) (by first | omega | assumption)) (cwV 0 C.2.2.2.2 gX4_warpShare_X4_weave rfl rfl rfl (by decide +kernel) ⟨by decide, by decide⟩) [0, 1, 2, 3, 4, 5, 6, 7, 8, 9, 10] rfl (by decide) 0 4 rfl rfl rfl (st := []) rfl rfl (Nat.le_of_ble_eq_true rfl) dX4_warpShare_23 ⟨by first | decide | omega, by first | decide | omega⟩) hA [0, 1, 2, 3, 4, 5, 6, 7, 8, 9, 10] rfl [] [] rfl (by decide) (by decide) [0, 1, 2, 3, 4, 5, 6, 7, 8, 9, 10] (by decide) (wf := (fun (u : Unit) => [(x, OB 4 [.ref qw, .ref qv, .ref qt, .int ri, .ref qd, .ref qc, .ref ql]), (qw, OB 3 [.ref wa, .ref wo, .int (nI nw)]), (wa, AI cI 40 bw), (wo, AI cI 40 cw), (qv, OB 3 [.ref pa, .ref po, .int (nI np)]), (pa, AI cI 40 bp), (po, AI cI 40 cp), (qt, AI cI 10 ti), (qc, OB 0 [.ref ce, .ref cf, .int (nI nw), .int (nI np)]), (ce, AJ cJ 40 (wvF ri ti bp bw nw fe np)), (cf, AI cI 41 ff)])) (fun _ => rfl) (fun u h_3 => ?_)
    refine x_aload_n C dX4_warpShare_26 rfl 1 rfl ?_
    refine x_get C hK in_X4_warpShare_X4 0 rfl rfl 5 (by decide) (by decide +kernel) rfl rfl dX4_warpShare_27 ?_
    refine x_calli (x_runVN C hK hNW (c_cl_places l D tys cI cJ hI hJ qc ce cf nw np (wvF ri ti bp bw nw fe np) ff (by first | omega | assumption) (by first | omega | assumption)) ⟨va_cnB 0 C.2.2.2.2 gX4_warpShare_X0_placesWithEndUp_n123 rfl rfl rfl (hNW.at 7 rfl) (C.2.2.2.2 (.initialized RX0) (by decide +kernel)) (by decide +kernel) ⟨by decide, by decide⟩, C.2.2.2.2 (.instanceMethod yX0_placesWithEndUp) (by decide +kernel), C.2.2.2.2 (.selects RX0 yX0_placesWithEndUp yX0_placesWithEndUp) (by decide +kernel)⟩ [8, 9, 10] rfl (by decide) 8 0 rfl rfl rfl (st := []) rfl rfl (Nat.le_of_ble_eq_true rfl) dX4_warpShare_30 ⟨by first | decide | omega, by first | decide | omega⟩) hA [8, 9, 10] rfl [0, 1, 2, 3, 4, 5, 6, 7] [(x, OB 4 [.ref qw, .ref qv, .ref qt, .int ri, .ref qd, .ref qc, .ref ql]), (qw, OB 3 [.ref wa, .ref wo, .int (nI nw)]), (wa, AI cI 40 bw), (wo, AI cI 40 cw), (qv, OB 3 [.ref pa, .ref po, .int (nI np)]), (pa, AI cI 40 bp), (po, AI cI 40 cp), (qt, AI cI 10 ti)] rfl (by decide) (by decide) [0, 1, 2, 3, 4, 5, 6, 7, 8, 9, 10] (by decide) (wf := (fun (u : Unit) => [(x, OB 4 [.ref qw, .ref qv, .ref qt, .int ri, .ref qd, .ref qc, .ref ql]), (qw, OB 3 [.ref wa, .ref wo, .int (nI nw)]), (wa, AI cI 40 bw), (wo, AI cI 40 cw), (qv, OB 3 [.ref pa, .ref po, .int (nI np)]), (pa, AI cI 40 bp), (po, AI cI 40 cp), (qt, AI cI 10 ti), (qc, OB 0 [.ref ce, .ref cf, .int (nI nw), .int (nI np)]), (ce, AJ cJ 40 (wvF ri ti bp bw nw fe np)), (cf, AI cI 41 ff)])) (fun _ => rfl) (fun r_4 u h_5 => ?_)
    subst h_5
    refine x_i2d C dX4_warpShare_33 ?_
    refine x_iload_n C dX4_warpShare_34 rfl 0 rfl ?_
    refine x_i2d C dX4_warpShare_35 ?_
    refine x_ddiv C (ddiv_ok (nI_ne0 hz (by omega))) dX4_warpShare_36 ?_
    refine x_dret C hK hlk hrt hQ hH0 hAA () ?_ [0, 1, 2, 3, 4, 5, 6, 7, 8, 9, 10] (by decide) rfl (by first | decide | omega) (by first | decide | omega) dX4_warpShare_37
    first | rfl | (exact ⟨rfl, rfl⟩) | trivial | assumption | omega
  ·
    exact False.elim (by omega)
abbrev rm_period1 : Room := { frames := 2, cells := 0, slots := 0, locals := 44 }
set_option maxRecDepth 100000 in
set_option maxHeartbeats 4000000 in
theorem c_period1 (l : Launch) (D : va_G) (tys : List (ClassId × FieldType)) (cI cJ : ClassId) (hI : tys[0]? = some (cI, .int)) (hJ : tys[1]? = some (cJ, .long)) (x : Nat) (qw : Nat) (qv : Nat) (qt : Nat) (ri : Int32) (qd : Nat) (qc : Nat) (ql : Nat) (wa : Nat) (wo : Nat) (nw : Nat) (bw : Nat → Int32) (cw : Nat → Int32) (hnw : nw ≤ 40) : MI l yX4_period wsX4_period rm_period1 D tys [.ref x, .int (nI 1)] [(x, OB 4 [.ref qw, .ref qv, .ref qt, .int ri, .ref qd, .ref qc, .ref ql]), (qw, OB 3 [.ref wa, .ref wo, .int (nI nw)]), (wa, AI cI 40 bw), (wo, AI cI 40 cw)] Nat (fun r (kp : Nat) => r = nI kp ∧ isPer bw cw nw kp) (fun (kp : Nat) => [(x, OB 4 [.ref qw, .ref qv, .ref qt, .int ri, .ref qd, .ref qc, .ref ql]), (qw, OB 3 [.ref wa, .ref wo, .int (nI nw)]), (wa, AI cI 40 bw), (wo, AI cI 40 cw)]) 0 0 := by
  intro sz
  refine x_met (cc := cX4_period) (maxL := 2) (ret := (some .int)) (by decide +kernel) rfl (by show _ ≤ _; simp [lg_sl, Value.category]) [(0, .ref x), (1, .int (nI 1))] rfl ?_
  intro p e s m args below meth c Q A H0 C hK hNW hlk hrt hnm hQ hH0 hAA hA
  refine x_aload_n C dX4_period_0 rfl 0 rfl ?_
  refine x_iload_n C dX4_period_1 rfl 1 rfl ?_
  refine x_callrq (x_runV C hK hNW (c_rowOf1 l D tys cI cJ hI hJ x qw qv qt ri qd qc ql ) (cwV 1 C.2.2.2.2 gX4_period_X4_rowOf rfl rfl rfl (by decide +kernel) ⟨by decide, by decide⟩) [0] rfl (by decide) 0 4 rfl rfl rfl (st := []) rfl rfl (Nat.le_of_ble_eq_true rfl) dX4_period_2 ⟨by first | decide | omega, by first | decide | omega⟩) hA [0] rfl [1, 2, 3] [(qw, OB 3 [.ref wa, .ref wo, .int (nI nw)]), (wa, AI cI 40 bw), (wo, AI cI 40 cw)] rfl (by decide) (by decide) [3, 0, 1, 2] (by decide) rfl ?_
  refine x_calli (x_runVN C hK hNW (c_tr_per l D tys cI cJ hI hJ qw wa wo nw bw cw (by first | omega | assumption)) ⟨va_cnB 0 C.2.2.2.2 gX4_period_X3_leastPeriod_n127 rfl rfl rfl (hNW.at 8 rfl) (C.2.2.2.2 (.initialized RX3) (by decide +kernel)) (by decide +kernel) ⟨by decide, by decide⟩, C.2.2.2.2 (.instanceMethod yX3_leastPeriod) (by decide +kernel), C.2.2.2.2 (.selects RX3 yX3_leastPeriod yX3_leastPeriod) (by decide +kernel)⟩ [1, 2, 3] rfl (by decide) 1 3 rfl rfl rfl (st := []) rfl rfl (Nat.le_of_ble_eq_true rfl) dX4_period_5 ⟨by first | decide | omega, by first | decide | omega⟩) hA [1, 2, 3] rfl [0] [(x, OB 4 [.ref qw, .ref qv, .ref qt, .int ri, .ref qd, .ref qc, .ref ql])] rfl (by decide) (by decide) [0, 1, 2, 3] (by decide) (wf := (fun (u : Nat) => [(x, OB 4 [.ref qw, .ref qv, .ref qt, .int ri, .ref qd, .ref qc, .ref ql]), (qw, OB 3 [.ref wa, .ref wo, .int (nI nw)]), (wa, AI cI 40 bw), (wo, AI cI 40 cw)])) (fun _ => rfl) (fun r_3 u h_4 => ?_)
  obtain ⟨kp1, rfl⟩ : ∃ z, z = u := ⟨_, rfl⟩
  try dsimp only at h_4 ⊢
  obtain ⟨rfl, h_4⟩ := h_4
  refine x_iret C hK hlk hrt hQ hH0 hAA kp1 ?_ [0, 1, 2, 3] (by decide) rfl (by first | decide | omega) (by first | decide | omega) dX4_period_8
  exact ⟨rfl, by assumption⟩
abbrev rm_period0 : Room := { frames := 2, cells := 0, slots := 0, locals := 44 }
set_option maxRecDepth 100000 in
set_option maxHeartbeats 4000000 in
theorem c_period0 (l : Launch) (D : va_G) (tys : List (ClassId × FieldType)) (cI cJ : ClassId) (hI : tys[0]? = some (cI, .int)) (hJ : tys[1]? = some (cJ, .long)) (x : Nat) (qw : Nat) (qv : Nat) (qt : Nat) (ri : Int32) (qd : Nat) (qc : Nat) (ql : Nat) (pa : Nat) (po : Nat) (np : Nat) (bp : Nat → Int32) (cp : Nat → Int32) (hnp : np ≤ 40) : MI l yX4_period wsX4_period rm_period0 D tys [.ref x, .int (nI 0)] [(x, OB 4 [.ref qw, .ref qv, .ref qt, .int ri, .ref qd, .ref qc, .ref ql]), (qv, OB 3 [.ref pa, .ref po, .int (nI np)]), (pa, AI cI 40 bp), (po, AI cI 40 cp)] Nat (fun r (kp : Nat) => r = nI kp ∧ isPer bp cp np kp) (fun (kp : Nat) => [(x, OB 4 [.ref qw, .ref qv, .ref qt, .int ri, .ref qd, .ref qc, .ref ql]), (qv, OB 3 [.ref pa, .ref po, .int (nI np)]), (pa, AI cI 40 bp), (po, AI cI 40 cp)]) 0 0 := by
  intro sz
  refine x_met (cc := cX4_period) (maxL := 2) (ret := (some .int)) (by decide +kernel) rfl (by show _ ≤ _; simp [lg_sl, Value.category]) [(0, .ref x), (1, .int (nI 0))] rfl ?_
  intro p e s m args below meth c Q A H0 C hK hNW hlk hrt hnm hQ hH0 hAA hA
  refine x_aload_n C dX4_period_0 rfl 0 rfl ?_
  refine x_iload_n C dX4_period_1 rfl 1 rfl ?_
  refine x_callrq (x_runV C hK hNW (c_rowOf0 l D tys cI cJ hI hJ x qw qv qt ri qd qc ql ) (cwV 1 C.2.2.2.2 gX4_period_X4_rowOf rfl rfl rfl (by decide +kernel) ⟨by decide, by decide⟩) [0] rfl (by decide) 0 4 rfl rfl rfl (st := []) rfl rfl (Nat.le_of_ble_eq_true rfl) dX4_period_2 ⟨by first | decide | omega, by first | decide | omega⟩) hA [0] rfl [1, 2, 3] [(qv, OB 3 [.ref pa, .ref po, .int (nI np)]), (pa, AI cI 40 bp), (po, AI cI 40 cp)] rfl (by decide) (by decide) [3, 0, 1, 2] (by decide) rfl ?_
  refine x_calli (x_runVN C hK hNW (c_tr_per l D tys cI cJ hI hJ qv pa po np bp cp (by first | omega | assumption)) ⟨va_cnB 0 C.2.2.2.2 gX4_period_X3_leastPeriod_n127 rfl rfl rfl (hNW.at 8 rfl) (C.2.2.2.2 (.initialized RX3) (by decide +kernel)) (by decide +kernel) ⟨by decide, by decide⟩, C.2.2.2.2 (.instanceMethod yX3_leastPeriod) (by decide +kernel), C.2.2.2.2 (.selects RX3 yX3_leastPeriod yX3_leastPeriod) (by decide +kernel)⟩ [1, 2, 3] rfl (by decide) 1 3 rfl rfl rfl (st := []) rfl rfl (Nat.le_of_ble_eq_true rfl) dX4_period_5 ⟨by first | decide | omega, by first | decide | omega⟩) hA [1, 2, 3] rfl [0] [(x, OB 4 [.ref qw, .ref qv, .ref qt, .int ri, .ref qd, .ref qc, .ref ql])] rfl (by decide) (by decide) [0, 1, 2, 3] (by decide) (wf := (fun (u : Nat) => [(x, OB 4 [.ref qw, .ref qv, .ref qt, .int ri, .ref qd, .ref qc, .ref ql]), (qv, OB 3 [.ref pa, .ref po, .int (nI np)]), (pa, AI cI 40 bp), (po, AI cI 40 cp)])) (fun _ => rfl) (fun r_3 u h_4 => ?_)
  obtain ⟨kp1, rfl⟩ : ∃ z, z = u := ⟨_, rfl⟩
  try dsimp only at h_4 ⊢
  obtain ⟨rfl, h_4⟩ := h_4
  refine x_iret C hK hlk hrt hQ hH0 hAA kp1 ?_ [0, 1, 2, 3] (by decide) rfl (by first | decide | omega) (by first | decide | omega) dX4_period_8
  exact ⟨rfl, by assumption⟩
abbrev rm_layers : Room := { frames := 5, cells := 0, slots := 0, locals := 113 }
set_option maxRecDepth 100000 in
set_option maxHeartbeats 4000000 in
theorem c_layers (l : Launch) (D : va_G) (tys : List (ClassId × FieldType)) (cI cJ : ClassId) (hI : tys[0]? = some (cI, .int)) (hJ : tys[1]? = some (cJ, .long)) (x : Nat) (qw : Nat) (qv : Nat) (qt : Nat) (ri : Int32) (qd : Nat) (qc : Nat) (ql : Nat) (wa : Nat) (wo : Nat) (nw : Nat) (bw : Nat → Int32) (cw : Nat → Int32) (pa : Nat) (po : Nat) (np : Nat) (bp : Nat → Int32) (cp : Nat → Int32) (ti : Nat → Int32) (ce : Nat) (cf : Nat) (ven : Int32) (vpn : Int32) (fe : Nat → Int64) (ff : Nat → Int32) (le : Nat) (lp : Nat) (vle : Int32) (vlt : Int32) (fle : Nat → Int64) (flp : Nat → Int64) (hnw : nw ≤ 40) (hnp : np ≤ 40) : MI l yX4_layers wsX4_layers rm_layers D tys [.ref x] [(x, OB 4 [.ref qw, .ref qv, .ref qt, .int ri, .ref qd, .ref qc, .ref ql]), (qw, OB 3 [.ref wa, .ref wo, .int (nI nw)]), (wa, AI cI 40 bw), (wo, AI cI 40 cw), (qv, OB 3 [.ref pa, .ref po, .int (nI np)]), (pa, AI cI 40 bp), (po, AI cI 40 cp), (qt, AI cI 10 ti), (qc, OB 0 [.ref ce, .ref cf, .int ven, .int vpn]), (ce, AJ cJ 40 fe), (cf, AI cI 41 ff), (ql, OB 2 [.ref le, .ref lp, .int vle, .int vlt]), (le, AJ cJ 80 fle), (lp, AJ cJ 80 flp)] Unit (fun r (_ : Unit) => r = nI (cnB (fun a => cB (ifg (ldT nw (foO nw (nw + np) (bgE2 (bgE fle nw) (wvF ri ti bp bw nw fe np) nw np) (bgP2 (bgP flp (wvF ri ti bp bw nw fe np) np nw) nw np) (nw + np)).1 (foO nw (nw + np) (bgE2 (bgE fle nw) (wvF ri ti bp bw nw fe np) nw np) (bgP2 (bgP flp (wvF ri ti bp bw nw fe np) np nw) nw np) (nw + np)).2) a)) (nw + np))) (fun (_ : Unit) => [(x, OB 4 [.ref qw, .ref qv, .ref qt, .int ri, .ref qd, .ref qc, .ref ql]), (qw, OB 3 [.ref wa, .ref wo, .int (nI nw)]), (wa, AI cI 40 bw), (wo, AI cI 40 cw), (qv, OB 3 [.ref pa, .ref po, .int (nI np)]), (pa, AI cI 40 bp), (po, AI cI 40 cp), (qt, AI cI 10 ti), (qc, OB 0 [.ref ce, .ref cf, .int (nI nw), .int (nI np)]), (ce, AJ cJ 40 (wvF ri ti bp bw nw fe np)), (cf, AI cI 41 ff), (ql, OB 2 [.ref le, .ref lp, .int (nI nw), .int (nI (nw + np))]), (le, AJ cJ 80 ((foO nw (nw + np) (bgE2 (bgE fle nw) (wvF ri ti bp bw nw fe np) nw np) (bgP2 (bgP flp (wvF ri ti bp bw nw fe np) np nw) nw np) (nw + np)).1)), (lp, AJ cJ 80 ((foO nw (nw + np) (bgE2 (bgE fle nw) (wvF ri ti bp bw nw fe np) nw np) (bgP2 (bgP flp (wvF ri ti bp bw nw fe np) np nw) nw np) (nw + np)).2))]) 0 0 := by
  intro sz
  refine x_met (cc := cX4_layers) (maxL := 1) (ret := (some .int)) (by decide +kernel) rfl (by show _ ≤ _; simp [lg_sl, Value.category]) [(0, .ref x)] rfl ?_
  intro p e s m args below meth c Q A H0 C hK hNW hlk hrt hnm hQ hH0 hAA hA
  refine x_aload_n C dX4_layers_0 rfl 0 rfl ?_
  refine x_callv (x_runV C hK hNW (c_weave l D tys cI cJ hI hJ x qw qv qt ri qd qc ql wa wo nw bw cw pa po np bp cp ti ce cf ven vpn fe ff (by first | omega | assumption) (by first | omega | assumption)) (cwV 0 C.2.2.2.2 gX4_layers_X4_weave rfl rfl rfl (by decide +kernel) ⟨by decide, by decide⟩) [0, 1, 2, 3, 4, 5, 6, 7, 8, 9, 10] rfl (by decide) 0 4 rfl rfl rfl (st := []) rfl rfl (Nat.le_of_ble_eq_true rfl) dX4_layers_1 ⟨by first | decide | omega, by first | decide | omega⟩) hA [0, 1, 2, 3, 4, 5, 6, 7, 8, 9, 10] rfl [11, 12, 13] [(ql, OB 2 [.ref le, .ref lp, .int vle, .int vlt]), (le, AJ cJ 80 fle), (lp, AJ cJ 80 flp)] rfl (by decide) (by decide) [3, 4, 5, 6, 7, 8, 9, 10, 11, 12, 13, 0, 1, 2] (by decide) (wf := (fun (u : Unit) => [(x, OB 4 [.ref qw, .ref qv, .ref qt, .int ri, .ref qd, .ref qc, .ref ql]), (qw, OB 3 [.ref wa, .ref wo, .int (nI nw)]), (wa, AI cI 40 bw), (wo, AI cI 40 cw), (qv, OB 3 [.ref pa, .ref po, .int (nI np)]), (pa, AI cI 40 bp), (po, AI cI 40 cp), (qt, AI cI 10 ti), (qc, OB 0 [.ref ce, .ref cf, .int (nI nw), .int (nI np)]), (ce, AJ cJ 40 (wvF ri ti bp bw nw fe np)), (cf, AI cI 41 ff), (ql, OB 2 [.ref le, .ref lp, .int vle, .int vlt]), (le, AJ cJ 80 fle), (lp, AJ cJ 80 flp)])) (fun _ => rfl) (fun u h_2 => ?_)
  refine x_aload_n C dX4_layers_4 rfl 0 rfl ?_
  refine x_get C hK in_X4_layers_X4 0 rfl rfl 6 (by decide) (by decide +kernel) rfl rfl dX4_layers_5 ?_
  refine x_aload_n C dX4_layers_8 rfl 0 rfl ?_
  refine x_get C hK in_X4_layers_X4 0 rfl rfl 5 (by decide) (by decide +kernel) rfl rfl dX4_layers_9 ?_
  refine x_callv (x_runVN C hK hNW (c_ld_follow l D tys cI cJ hI hJ ql le lp fle flp qc ce cf nw np (wvF ri ti bp bw nw fe np) ff vle vlt (by first | omega | assumption) (by first | omega | assumption)) ⟨va_cnB 1 C.2.2.2.2 gX4_layers_X2_follow_n130 rfl rfl rfl (hNW.at 9 rfl) (C.2.2.2.2 (.initialized RX2) (by decide +kernel)) (by decide +kernel) ⟨by decide, by decide⟩, C.2.2.2.2 (.instanceMethod yX2_follow) (by decide +kernel), C.2.2.2.2 (.selects RX2 yX2_follow yX2_follow) (by decide +kernel)⟩ [11, 12, 13, 8, 9, 10] rfl (by decide) 11 2 rfl rfl rfl (st := []) rfl rfl (Nat.le_of_ble_eq_true rfl) dX4_layers_12 ⟨by first | decide | omega, by first | decide | omega⟩) hA [11, 12, 13, 8, 9, 10] rfl [0, 1, 2, 3, 4, 5, 6, 7] [(x, OB 4 [.ref qw, .ref qv, .ref qt, .int ri, .ref qd, .ref qc, .ref ql]), (qw, OB 3 [.ref wa, .ref wo, .int (nI nw)]), (wa, AI cI 40 bw), (wo, AI cI 40 cw), (qv, OB 3 [.ref pa, .ref po, .int (nI np)]), (pa, AI cI 40 bp), (po, AI cI 40 cp), (qt, AI cI 10 ti)] rfl (by decide) (by decide) [0, 1, 2, 3, 4, 5, 6, 7, 11, 12, 13, 8, 9, 10] (by decide) (wf := (fun (u : Unit) => [(x, OB 4 [.ref qw, .ref qv, .ref qt, .int ri, .ref qd, .ref qc, .ref ql]), (qw, OB 3 [.ref wa, .ref wo, .int (nI nw)]), (wa, AI cI 40 bw), (wo, AI cI 40 cw), (qv, OB 3 [.ref pa, .ref po, .int (nI np)]), (pa, AI cI 40 bp), (po, AI cI 40 cp), (qt, AI cI 10 ti), (qc, OB 0 [.ref ce, .ref cf, .int (nI nw), .int (nI np)]), (ce, AJ cJ 40 (wvF ri ti bp bw nw fe np)), (cf, AI cI 41 ff), (ql, OB 2 [.ref le, .ref lp, .int (nI nw), .int (nI (nw + np))]), (le, AJ cJ 80 ((foO nw (nw + np) (bgE2 (bgE fle nw) (wvF ri ti bp bw nw fe np) nw np) (bgP2 (bgP flp (wvF ri ti bp bw nw fe np) np nw) nw np) (nw + np)).1)), (lp, AJ cJ 80 ((foO nw (nw + np) (bgE2 (bgE fle nw) (wvF ri ti bp bw nw fe np) nw np) (bgP2 (bgP flp (wvF ri ti bp bw nw fe np) np nw) nw np) (nw + np)).2))])) (fun _ => rfl) (fun u h_4 => ?_)
  refine x_aload_n C dX4_layers_15 rfl 0 rfl ?_
  refine x_get C hK in_X4_layers_X4 0 rfl rfl 6 (by decide) (by decide +kernel) rfl rfl dX4_layers_16 ?_
  refine x_calli (x_runVN C hK hNW (c_ld_groups l D tys cI cJ hI hJ ql le lp nw (nw + np) ((foO nw (nw + np) (bgE2 (bgE fle nw) (wvF ri ti bp bw nw fe np) nw np) (bgP2 (bgP flp (wvF ri ti bp bw nw fe np) np nw) nw np) (nw + np)).1) ((foO nw (nw + np) (bgE2 (bgE fle nw) (wvF ri ti bp bw nw fe np) nw np) (bgP2 (bgP flp (wvF ri ti bp bw nw fe np) np nw) nw np) (nw + np)).2) (by first | omega | assumption) (by first | omega | assumption)) ⟨va_cnB 0 C.2.2.2.2 gX4_layers_X2_groups_n134 rfl rfl rfl (hNW.at 14 rfl) (C.2.2.2.2 (.initialized RX2) (by decide +kernel)) (by decide +kernel) ⟨by decide, by decide⟩, C.2.2.2.2 (.instanceMethod yX2_groups) (by decide +kernel), C.2.2.2.2 (.selects RX2 yX2_groups yX2_groups) (by decide +kernel)⟩ [11, 12, 13] rfl (by decide) 11 2 rfl rfl rfl (st := []) rfl rfl (Nat.le_of_ble_eq_true rfl) dX4_layers_19 ⟨by first | decide | omega, by first | decide | omega⟩) hA [11, 12, 13] rfl [0, 1, 2, 3, 4, 5, 6, 7, 8, 9, 10] [(x, OB 4 [.ref qw, .ref qv, .ref qt, .int ri, .ref qd, .ref qc, .ref ql]), (qw, OB 3 [.ref wa, .ref wo, .int (nI nw)]), (wa, AI cI 40 bw), (wo, AI cI 40 cw), (qv, OB 3 [.ref pa, .ref po, .int (nI np)]), (pa, AI cI 40 bp), (po, AI cI 40 cp), (qt, AI cI 10 ti), (qc, OB 0 [.ref ce, .ref cf, .int (nI nw), .int (nI np)]), (ce, AJ cJ 40 (wvF ri ti bp bw nw fe np)), (cf, AI cI 41 ff)] rfl (by decide) (by decide) [0, 1, 2, 3, 4, 5, 6, 7, 8, 9, 10, 11, 12, 13] (by decide) (wf := (fun (u : Unit) => [(x, OB 4 [.ref qw, .ref qv, .ref qt, .int ri, .ref qd, .ref qc, .ref ql]), (qw, OB 3 [.ref wa, .ref wo, .int (nI nw)]), (wa, AI cI 40 bw), (wo, AI cI 40 cw), (qv, OB 3 [.ref pa, .ref po, .int (nI np)]), (pa, AI cI 40 bp), (po, AI cI 40 cp), (qt, AI cI 10 ti), (qc, OB 0 [.ref ce, .ref cf, .int (nI nw), .int (nI np)]), (ce, AJ cJ 40 (wvF ri ti bp bw nw fe np)), (cf, AI cI 41 ff), (ql, OB 2 [.ref le, .ref lp, .int (nI nw), .int (nI (nw + np))]), (le, AJ cJ 80 ((foO nw (nw + np) (bgE2 (bgE fle nw) (wvF ri ti bp bw nw fe np) nw np) (bgP2 (bgP flp (wvF ri ti bp bw nw fe np) np nw) nw np) (nw + np)).1)), (lp, AJ cJ 80 ((foO nw (nw + np) (bgE2 (bgE fle nw) (wvF ri ti bp bw nw fe np) nw np) (bgP2 (bgP flp (wvF ri ti bp bw nw fe np) np nw) nw np) (nw + np)).2))])) (fun _ => rfl) (fun r_5 u h_6 => ?_)
  subst h_6
  refine x_iret C hK hlk hrt hQ hH0 hAA () ?_ [0, 1, 2, 3, 4, 5, 6, 7, 8, 9, 10, 11, 12, 13] (by decide) rfl (by first | decide | omega) (by first | decide | omega) dX4_layers_22
  first | rfl | (exact ⟨rfl, rfl⟩) | trivial | assumption | omega
abbrev rm_hangsZ : Room := { frames := 0, cells := 0, slots := 0, locals := 0 }
set_option maxRecDepth 100000 in
set_option maxHeartbeats 4000000 in
theorem c_hangsZ (l : Launch) (D : va_G) (tys : List (ClassId × FieldType)) (cI cJ : ClassId) (hI : tys[0]? = some (cI, .int)) (hJ : tys[1]? = some (cJ, .long)) (x : Nat) (qw : Nat) (qv : Nat) (qt : Nat) (ri : Int32) (qd : Nat) (qc : Nat) (ql : Nat) (wa : Nat) (wo : Nat) (nw : Nat) (bw : Nat → Int32) (cw : Nat → Int32) (pa : Nat) (po : Nat) (np : Nat) (bp : Nat → Int32) (cp : Nat → Int32) (hnw : nw ≤ 40) (hnp : np ≤ 40) (hz : nw = 0 ∨ np = 0) : MI l yX4_hangsTogether wsX4_hangsTogether rm_hangsZ D tys [.ref x] [(x, OB 4 [.ref qw, .ref qv, .ref qt, .int ri, .ref qd, .ref qc, .ref ql]), (qw, OB 3 [.ref wa, .ref wo, .int (nI nw)]), (wa, AI cI 40 bw), (wo, AI cI 40 cw), (qv, OB 3 [.ref pa, .ref po, .int (nI np)]), (pa, AI cI 40 bp), (po, AI cI 40 cp)] Unit (fun r (_ : Unit) => r = nI 0) (fun (_ : Unit) => [(x, OB 4 [.ref qw, .ref qv, .ref qt, .int ri, .ref qd, .ref qc, .ref ql]), (qw, OB 3 [.ref wa, .ref wo, .int (nI nw)]), (wa, AI cI 40 bw), (wo, AI cI 40 cw), (qv, OB 3 [.ref pa, .ref po, .int (nI np)]), (pa, AI cI 40 bp), (po, AI cI 40 cp)]) 0 0 := by
  intro sz
  refine x_met (cc := cX4_hangsTogether) (maxL := 1) (ret := (some .boolean)) (by decide +kernel) rfl (by show _ ≤ _; simp [lg_sl, Value.category]) [(0, .ref x)] rfl ?_
  intro p e s m args below meth c Q A H0 C hK hNW hlk hrt hnm hQ hH0 hAA hA
  refine x_aload_n C dX4_hangsTogether_0 rfl 0 rfl ?_
  refine x_get C hK in_X4_hangsTogether_X4 0 rfl rfl 0 (by decide) (by decide +kernel) rfl rfl dX4_hangsTogether_1 ?_
  refine x_getN C hK hNW in_X4_hangsTogether_X3 1 rfl rfl 2 (by decide) 31 rfl rfl rfl dX4_hangsTogether_4 ?_
  refine xn_if_le C 32 (by omega) dX4_hangsTogether_7 (by decide) (fun h_1 => ?_) (fun h_1 => ?_)
  ·
    refine x_iconst C (nI 0) dX4_hangsTogether_32 (by decide +kernel) ?_
    refine x_zret C hK hlk hrt hQ hH0 hAA () (by first | (left; rfl) | (right; rfl) | assumption | (simp; done)) ?_ [0, 1, 2, 3, 4, 5, 6] (by decide) rfl (by first | decide | omega) (by first | decide | omega) dX4_hangsTogether_33
    first | rfl | (exact ⟨rfl, rfl⟩) | trivial | assumption | omega
  ·
    refine x_aload_n C dX4_hangsTogether_10 rfl 0 rfl ?_
    refine x_get C hK in_X4_hangsTogether_X4 0 rfl rfl 1 (by decide) (by decide +kernel) rfl rfl dX4_hangsTogether_11 ?_
    refine x_getN C hK hNW in_X4_hangsTogether_X3 4 rfl rfl 2 (by decide) 31 rfl rfl rfl dX4_hangsTogether_14 ?_
    refine xn_if_le C 32 (by omega) dX4_hangsTogether_17 (by decide) (fun h_2 => ?_) (fun h_2 => ?_)
    ·
      refine x_iconst C (nI 0) dX4_hangsTogether_32 (by decide +kernel) ?_
      refine x_zret C hK hlk hrt hQ hH0 hAA () (by first | (left; rfl) | (right; rfl) | assumption | (simp; done)) ?_ [0, 1, 2, 3, 4, 5, 6] (by decide) rfl (by first | decide | omega) (by first | decide | omega) dX4_hangsTogether_33
      first | rfl | (exact ⟨rfl, rfl⟩) | trivial | assumption | omega
    ·
      exact False.elim (by omega)
abbrev rm_hangs : Room := { frames := 6, cells := 0, slots := 0, locals := 133 }
set_option maxRecDepth 100000 in
set_option maxHeartbeats 4000000 in
theorem c_hangs (l : Launch) (D : va_G) (tys : List (ClassId × FieldType)) (cI cJ : ClassId) (hI : tys[0]? = some (cI, .int)) (hJ : tys[1]? = some (cJ, .long)) (x : Nat) (qw : Nat) (qv : Nat) (qt : Nat) (ri : Int32) (qd : Nat) (qc : Nat) (ql : Nat) (wa : Nat) (wo : Nat) (nw : Nat) (bw : Nat → Int32) (cw : Nat → Int32) (pa : Nat) (po : Nat) (np : Nat) (bp : Nat → Int32) (cp : Nat → Int32) (ti : Nat → Int32) (ce : Nat) (cf : Nat) (ven : Int32) (vpn : Int32) (fe : Nat → Int64) (ff : Nat → Int32) (le : Nat) (lp : Nat) (vle : Int32) (vlt : Int32) (fle : Nat → Int64) (flp : Nat → Int64) (hnw : nw ≤ 40) (hnp : np ≤ 40) (hz : 0 < nw) (hz2 : 0 < np) : MI l yX4_hangsTogether wsX4_hangsTogether rm_hangs D tys [.ref x] [(x, OB 4 [.ref qw, .ref qv, .ref qt, .int ri, .ref qd, .ref qc, .ref ql]), (qw, OB 3 [.ref wa, .ref wo, .int (nI nw)]), (wa, AI cI 40 bw), (wo, AI cI 40 cw), (qv, OB 3 [.ref pa, .ref po, .int (nI np)]), (pa, AI cI 40 bp), (po, AI cI 40 cp), (qt, AI cI 10 ti), (qc, OB 0 [.ref ce, .ref cf, .int ven, .int vpn]), (ce, AJ cJ 40 fe), (cf, AI cI 41 ff), (ql, OB 2 [.ref le, .ref lp, .int vle, .int vlt]), (le, AJ cJ 80 fle), (lp, AJ cJ 80 flp)] Unit (fun r (_ : Unit) => r = bI (decide (cnB (fun a => cB (ifg (ldT nw (foO nw (nw + np) (bgE2 (bgE fle nw) (wvF ri ti bp bw nw fe np) nw np) (bgP2 (bgP flp (wvF ri ti bp bw nw fe np) np nw) nw np) (nw + np)).1 (foO nw (nw + np) (bgE2 (bgE fle nw) (wvF ri ti bp bw nw fe np) nw np) (bgP2 (bgP flp (wvF ri ti bp bw nw fe np) np nw) nw np) (nw + np)).2) a)) (nw + np) = 1))) (fun (_ : Unit) => [(x, OB 4 [.ref qw, .ref qv, .ref qt, .int ri, .ref qd, .ref qc, .ref ql]), (qw, OB 3 [.ref wa, .ref wo, .int (nI nw)]), (wa, AI cI 40 bw), (wo, AI cI 40 cw), (qv, OB 3 [.ref pa, .ref po, .int (nI np)]), (pa, AI cI 40 bp), (po, AI cI 40 cp), (qt, AI cI 10 ti), (qc, OB 0 [.ref ce, .ref cf, .int (nI nw), .int (nI np)]), (ce, AJ cJ 40 (wvF ri ti bp bw nw fe np)), (cf, AI cI 41 ff), (ql, OB 2 [.ref le, .ref lp, .int (nI nw), .int (nI (nw + np))]), (le, AJ cJ 80 ((foO nw (nw + np) (bgE2 (bgE fle nw) (wvF ri ti bp bw nw fe np) nw np) (bgP2 (bgP flp (wvF ri ti bp bw nw fe np) np nw) nw np) (nw + np)).1)), (lp, AJ cJ 80 ((foO nw (nw + np) (bgE2 (bgE fle nw) (wvF ri ti bp bw nw fe np) nw np) (bgP2 (bgP flp (wvF ri ti bp bw nw fe np) np nw) nw np) (nw + np)).2))]) 0 0 := by
  intro sz
  refine x_met (cc := cX4_hangsTogether) (maxL := 1) (ret := (some .boolean)) (by decide +kernel) rfl (by show _ ≤ _; simp [lg_sl, Value.category]) [(0, .ref x)] rfl ?_
  intro p e s m args below meth c Q A H0 C hK hNW hlk hrt hnm hQ hH0 hAA hA
  refine x_aload_n C dX4_hangsTogether_0 rfl 0 rfl ?_
  refine x_get C hK in_X4_hangsTogether_X4 0 rfl rfl 0 (by decide) (by decide +kernel) rfl rfl dX4_hangsTogether_1 ?_
  refine x_getN C hK hNW in_X4_hangsTogether_X3 1 rfl rfl 2 (by decide) 31 rfl rfl rfl dX4_hangsTogether_4 ?_
  refine xn_if_le C 32 (by omega) dX4_hangsTogether_7 (by decide) (fun h_1 => ?_) (fun h_1 => ?_)
  ·
    exact False.elim (by omega)
  ·
    refine x_aload_n C dX4_hangsTogether_10 rfl 0 rfl ?_
    refine x_get C hK in_X4_hangsTogether_X4 0 rfl rfl 1 (by decide) (by decide +kernel) rfl rfl dX4_hangsTogether_11 ?_
    refine x_getN C hK hNW in_X4_hangsTogether_X3 4 rfl rfl 2 (by decide) 31 rfl rfl rfl dX4_hangsTogether_14 ?_
    refine xn_if_le C 32 (by omega) dX4_hangsTogether_17 (by decide) (fun h_2 => ?_) (fun h_2 => ?_)
    ·
      exact False.elim (by omega)
    ·
      refine x_aload_n C dX4_hangsTogether_20 rfl 0 rfl ?_
      refine x_calli (x_runV C hK hNW (c_layers l D tys cI cJ hI hJ x qw qv qt ri qd qc ql wa wo nw bw cw pa po np bp cp ti ce cf ven vpn fe ff le lp vle vlt fle flp (by first | omega | assumption) (by first | omega | assumption)) (cwV 0 C.2.2.2.2 gX4_hangsTogether_X4_layers rfl rfl rfl (by decide +kernel) ⟨by decide, by decide⟩) [0, 1, 2, 3, 4, 5, 6, 7, 8, 9, 10, 11, 12, 13] rfl (by decide) 0 4 rfl rfl rfl (st := []) rfl rfl (Nat.le_of_ble_eq_true rfl) dX4_hangsTogether_21 ⟨by first | decide | omega, by first | decide | omega⟩) hA [0, 1, 2, 3, 4, 5, 6, 7, 8, 9, 10, 11, 12, 13] rfl [] [] rfl (by decide) (by decide) [0, 1, 2, 3, 4, 5, 6, 7, 8, 9, 10, 11, 12, 13] (by decide) (wf := (fun (u : Unit) => [(x, OB 4 [.ref qw, .ref qv, .ref qt, .int ri, .ref qd, .ref qc, .ref ql]), (qw, OB 3 [.ref wa, .ref wo, .int (nI nw)]), (wa, AI cI 40 bw), (wo, AI cI 40 cw), (qv, OB 3 [.ref pa, .ref po, .int (nI np)]), (pa, AI cI 40 bp), (po, AI cI 40 cp), (qt, AI cI 10 ti), (qc, OB 0 [.ref ce, .ref cf, .int (nI nw), .int (nI np)]), (ce, AJ cJ 40 (wvF ri ti bp bw nw fe np)), (cf, AI cI 41 ff), (ql, OB 2 [.ref le, .ref lp, .int (nI nw), .int (nI (nw + np))]), (le, AJ cJ 80 ((foO nw (nw + np) (bgE2 (bgE fle nw) (wvF ri ti bp bw nw fe np) nw np) (bgP2 (bgP flp (wvF ri ti bp bw nw fe np) np nw) nw np) (nw + np)).1)), (lp, AJ cJ 80 ((foO nw (nw + np) (bgE2 (bgE fle nw) (wvF ri ti bp bw nw fe np) nw np) (bgP2 (bgP flp (wvF ri ti bp bw nw fe np) np nw) nw np) (nw + np)).2))])) (fun _ => rfl) (fun r_3 u h_4 => ?_)
      subst h_4
      have hcb := cnB_le (fun a => cB (ifg (ldT nw (foO nw (nw + np) (bgE2 (bgE fle nw) (wvF ri ti bp bw nw fe np) nw np) (bgP2 (bgP flp (wvF ri ti bp bw nw fe np) np nw) nw np) (nw + np)).1 (foO nw (nw + np) (bgE2 (bgE fle nw) (wvF ri ti bp bw nw fe np) nw np) (bgP2 (bgP flp (wvF ri ti bp bw nw fe np) np nw) nw np) (nw + np)).2) a)) (nw + np)
      refine x_iconst C (nI 1) dX4_hangsTogether_24 (by decide +kernel) ?_
      refine xn_icmp_ne C 32 (by omega) (by omega) dX4_hangsTogether_25 (by decide) (fun h_5 => ?_) (fun h_5 => ?_)
      ·
        refine x_iconst C (nI 0) dX4_hangsTogether_32 (by decide +kernel) ?_
        refine x_zret C hK hlk hrt hQ hH0 hAA () (by first | (left; rfl) | (right; rfl) | assumption | (simp; done)) ?_ [0, 1, 2, 3, 4, 5, 6, 7, 8, 9, 10, 11, 12, 13] (by decide) rfl (by first | decide | omega) (by first | decide | omega) dX4_hangsTogether_33
        first | (rw [decide_eq_true (by assumption)]; rfl) | (rw [decide_eq_false (by assumption)]; rfl)
      ·
        refine x_iconst C (nI 1) dX4_hangsTogether_28 (by decide +kernel) ?_
        refine x_goto C 33 dX4_hangsTogether_29 (by decide) ?_
        refine x_zret C hK hlk hrt hQ hH0 hAA () (by first | (left; rfl) | (right; rfl) | assumption | (simp; done)) ?_ [0, 1, 2, 3, 4, 5, 6, 7, 8, 9, 10, 11, 12, 13] (by decide) rfl (by first | decide | omega) (by first | decide | omega) dX4_hangsTogether_33
        first | (rw [decide_eq_true (by assumption)]; rfl) | (rw [decide_eq_false (by assumption)]; rfl)
