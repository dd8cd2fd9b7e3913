/-! the helpers of the law -/
theorem in_L_thread_X3 : ∀ w ∈ wsX30, w ∈ wsL_thread := by decide +kernel
theorem in_L_thread_X4 : ∀ w ∈ wsX40, w ∈ wsL_thread := by decide +kernel
theorem in_L_tread_X3 : ∀ w ∈ wsX30, w ∈ wsL_tread := by decide +kernel
theorem in_L_tread_X4 : ∀ w ∈ wsX40, w ∈ wsL_tread := by decide +kernel
theorem in_L_tie_X4 : ∀ w ∈ wsX40, w ∈ wsL_tie := by decide +kernel
theorem in_L_end_X3 : ∀ w ∈ wsX30, w ∈ wsL_end := by decide +kernel
theorem in_L_end_X4 : ∀ w ∈ wsX40, w ∈ wsL_end := by decide +kernel
theorem in_L_pick_X3 : ∀ w ∈ wsX30, w ∈ wsL_pick := by decide +kernel
theorem in_L_pick_X4 : ∀ w ∈ wsX40, w ∈ wsL_pick := by decide +kernel
theorem in_L_rotate_X3 : ∀ w ∈ wsX30, w ∈ wsL_rotate := by decide +kernel
theorem in_L_rotate_X4 : ∀ w ∈ wsX40, w ∈ wsL_rotate := by decide +kernel
theorem in_L_repeat_X3 : ∀ w ∈ wsX30, w ∈ wsL_repeat := by decide +kernel
theorem in_L_repeat_X4 : ∀ w ∈ wsX40, w ∈ wsL_repeat := by decide +kernel
theorem in_L_cut_X3 : ∀ w ∈ wsX30, w ∈ wsL_cut := by decide +kernel
theorem in_L_cut_X4 : ∀ w ∈ wsX40, w ∈ wsL_cut := by decide +kernel
theorem in_L_isWarpOnTop_X3 : ∀ w ∈ wsX30, w ∈ wsL_isWarpOnTop := by decide +kernel
theorem in_L_isWarpOnTop_X4 : ∀ w ∈ wsX40, w ∈ wsL_isWarpOnTop := by decide +kernel
theorem in_L_colour_X3 : ∀ w ∈ wsX30, w ∈ wsL_colour := by decide +kernel
theorem in_L_colour_X4 : ∀ w ∈ wsX40, w ∈ wsL_colour := by decide +kernel
theorem in_L_floats_X0 : ∀ w ∈ wsX00, w ∈ wsL_floats := by decide +kernel
theorem in_L_floats_X3 : ∀ w ∈ wsX30, w ∈ wsL_floats := by decide +kernel
theorem in_L_floats_X4 : ∀ w ∈ wsX40, w ∈ wsL_floats := by decide +kernel
theorem in_L_colourAt_X3 : ∀ w ∈ wsX30, w ∈ wsL_colourAt := by decide +kernel
theorem in_L_colourAt_X4 : ∀ w ∈ wsX40, w ∈ wsL_colourAt := by decide +kernel
theorem in_L_threadsOf_X3 : ∀ w ∈ wsX30, w ∈ wsL_threadsOf := by decide +kernel
theorem in_L_threadsOf_X4 : ∀ w ∈ wsX40, w ∈ wsL_threadsOf := by decide +kernel
theorem in_L_draw_X1 : ∀ w ∈ wsX10, w ∈ wsL_draw := by decide +kernel
theorem in_L_draw_X4 : ∀ w ∈ wsX40, w ∈ wsL_draw := by decide +kernel
theorem in_L_row_X1 : ∀ w ∈ wsX10, w ∈ wsL_row := by decide +kernel
theorem in_L_row_X4 : ∀ w ∈ wsX40, w ∈ wsL_row := by decide +kernel
theorem in_L_fit_X1 : ∀ w ∈ wsX10, w ∈ wsL_fit := by decide +kernel
theorem in_L_fit_X3 : ∀ w ∈ wsX30, w ∈ wsL_fit := by decide +kernel
theorem in_L_fit_X4 : ∀ w ∈ wsX40, w ∈ wsL_fit := by decide +kernel
abbrev rm_w_thread : Room := { frames := 2, cells := 1, slots := 6, locals := 45 }
set_option maxRecDepth 100000 in
set_option maxHeartbeats 4000000 in
theorem c_w_thread (l : Launch) (hl0 : l.stackTraces = false) (D : va_G) (tys : List (ClassId × FieldType)) (cI cJ : ClassId) (hI : tys[0]? = some (cI, .int)) (hJ : tys[1]? = some (cJ, .long)) (x : Nat) (qw : Nat) (qv : Nat) (qt : Nat) (ri : Int32) (qd : Nat) (qc : Nat) (ql : Nat) (wa : Nat) (wo : Nat) (nw : Nat) (bw : Nat → Int32) (cw : Nat → Int32) (sh : Nat) (cl : Nat) (out : Nat) (fo : Nat → Int64) (hnw : nw < 40) (hsh : sh < 8) (hcl : cl < 8) : MIW l yL_thread wsL_thread rm_w_thread D tys [.ref x, .int (nI sh), .int (nI cl), .ref out] [(x, OB 4 [.ref qw, .ref qv, .ref qt, .int ri, .ref qd, .ref qc, .ref ql]), (qw, OB 3 [.ref wa, .ref wo, .int (nI nw)]), (wa, AI cI 40 bw), (wo, AI cI 40 cw), (out, AJ cJ 1 fo)] Unit (fun r (_ : Unit) => r = nI 0) (fun (_ : Unit) => [(x, OB 4 [.ref qw, .ref qv, .ref qt, .int ri, .ref qd, .ref qc, .ref ql]), (qw, OB 3 [.ref wa, .ref wo, .int (nI (nw + 1))]), (wa, AI cI 40 (upd bw nw (nI sh))), (wo, AI cI 40 (upd cw nw (nI cl))), (out, AJ cJ 1 (vp_updL fo 0 (nI nw).toInt64))]) 1 6 := by
  intro sz
  refine x_metW (cc := cL_thread) (maxL := 5) (ret := (some .int)) (by decide +kernel) rfl (by show _ ≤ _; simp [lg_sl, Value.category]) [(0, .ref x), (1, .int (nI sh)), (2, .int (nI cl)), (3, .ref out)] rfl ?_
  intro p e s m args below meth c Q A H0 C hK hNW hlk hrt hnm hQ hH0 hAA hA hZ hNC htab
  refine x_aload_n C dL_thread_0 rfl 3 rfl ?_
  refine x_iconst C (nI 0) dL_thread_1 (by decide +kernel) ?_
  refine x_aload_n C dL_thread_2 rfl 0 rfl ?_
  refine x_iload_n C dL_thread_3 rfl 1 rfl ?_
  refine x_iload_n C dL_thread_4 rfl 2 rfl ?_
  refine x_calli (x_runV C hK hNW (c_thread l D tys cI cJ hI hJ x qw qv qt ri qd qc ql wa wo nw bw cw sh cl (by first | omega | assumption) (by first | omega | assumption) (by first | omega | assumption)) (cwV 2 C.2.2.2.2 gL_thread_X4_thread rfl rfl rfl (by decide +kernel) ⟨by decide, by decide⟩) [0, 1, 2, 3] rfl (by decide) 0 4 rfl rfl rfl (st := [.int (nI 0), .ref out]) rfl rfl (Nat.le_of_ble_eq_true rfl) dL_thread_5 ⟨by first | decide | omega, by first | decide | omega⟩) hA [0, 1, 2, 3] rfl [4] [(out, AJ cJ 1 fo)] rfl (by decide) (by decide) [1, 2, 3, 4, 0] (by decide) (wf := (fun (u : Unit) => [(x, OB 4 [.ref qw, .ref qv, .ref qt, .int ri, .ref qd, .ref qc, .ref ql]), (qw, OB 3 [.ref wa, .ref wo, .int (nI (nw + 1))]), (wa, AI cI 40 (upd bw nw (nI sh))), (wo, AI cI 40 (upd cw nw (nI cl))), (out, AJ cJ 1 fo)])) (fun _ => rfl) (fun r_1 u h_2 => ?_)
  subst h_2
  refine x_i2l C _ dL_thread_8 rfl ?_
  refine x_last C hK 4 1 rfl hJ (by omega) (by omega) [(x, OB 4 [.ref qw, .ref qv, .ref qt, .int ri, .ref qd, .ref qc, .ref ql]), (qw, OB 3 [.ref wa, .ref wo, .int (nI (nw + 1))]), (wa, AI cI 40 (upd bw nw (nI sh))), (wo, AI cI 40 (upd cw nw (nI cl))), (out, AJ cJ 1 (vp_updL fo 0 ((nI nw).toInt64)))] rfl dL_thread_9 ?_
  refine x_goto C 21 dL_thread_10 (by decide) ?_
  refine x_iconst C (nI 0) dL_thread_21 (by decide +kernel) ?_
  refine x_iret C hK hlk hrt hQ hH0 hAA () ?_ [0, 1, 2, 3, 4] (by decide) rfl (by first | decide | omega) (by first | decide | omega) dL_thread_22
  first | rfl | (exact ⟨rfl, rfl⟩) | trivial | assumption | omega
abbrev rm_w_threadX1 : Room := { frames := 7, cells := 1, slots := 6, locals := 103 }
set_option maxRecDepth 100000 in
set_option maxHeartbeats 4000000 in
theorem c_w_threadX1 (l : Launch) (hl0 : l.stackTraces = false) (D : va_G) (tys : List (ClassId × FieldType)) (cI cJ : ClassId) (hI : tys[0]? = some (cI, .int)) (hJ : tys[1]? = some (cJ, .long)) (x : Nat) (qw : Nat) (qv : Nat) (qt : Nat) (ri : Int32) (qd : Nat) (qc : Nat) (ql : Nat) (sh : Int32) (cl : Int32) (out : Nat) (fo : Nat → Int64) (hx : ¬ (below sh 8 = true ∧ below cl 8 = true)) : MIW l yL_thread wsL_thread rm_w_threadX1 D tys [.ref x, .int sh, .int cl, .ref out] [(x, OB 4 [.ref qw, .ref qv, .ref qt, .int ri, .ref qd, .ref qc, .ref ql]), (out, AJ cJ 1 fo)] Unit (fun r (_ : Unit) => r = nI 1) (fun (_ : Unit) => [(x, OB 4 [.ref qw, .ref qv, .ref qt, .int ri, .ref qd, .ref qc, .ref ql]), (out, AJ cJ 1 fo)]) 1 6 := by
  intro sz
  refine x_metW (cc := cL_thread) (maxL := 5) (ret := (some .int)) (by decide +kernel) rfl (by show _ ≤ _; simp [lg_sl, Value.category]) [(0, .ref x), (1, .int sh), (2, .int cl), (3, .ref out)] rfl ?_
  intro p e s m args below meth c Q A H0 C hK hNW hlk hrt hnm hQ hH0 hAA hA hZ hNC htab
  refine x_aload_n C dL_thread_0 rfl 3 rfl ?_
  refine x_iconst C (nI 0) dL_thread_1 (by decide +kernel) ?_
  refine x_aload_n C dL_thread_2 rfl 0 rfl ?_
  refine x_iload_n C dL_thread_3 rfl 1 rfl ?_
  refine x_iload_n C dL_thread_4 rfl 2 rfl ?_
  refine x_callXi (x_runVX C hK hNW hH0 hZ hA (c_threadX1 l hl0 D tys cI cJ hI hJ x qw qv qt ri qd qc ql sh cl (by first | omega | assumption)) (cwV 2 C.2.2.2.2 gL_thread_X4_thread rfl rfl rfl (by decide +kernel) ⟨by decide, by decide⟩) [0] rfl (by decide) 0 4 rfl rfl rfl (st := [.int (nI 0), .ref out]) rfl rfl (Nat.le_of_ble_eq_true rfl) dL_thread_5 ⟨by first | decide | omega, by first | decide | omega⟩) hA [0] rfl [1] [(out, AJ cJ 1 fo)] rfl (by decide) (by decide) [1, 0] (by decide) (wf := fun _ => [(x, OB 4 [.ref qw, .ref qv, .ref qt, .int ri, .ref qd, .ref qc, .ref ql]), (out, AJ cJ 1 fo)]) (fun _ => rfl) (wsx := [(x, OB 4 [.ref qw, .ref qv, .ref qt, .int ri, .ref qd, .ref qc, .ref ql]), (out, AJ cJ 1 fo)]) rfl (fun E9 hE9 => ?_) (fun _ _ hf9 => False.elim hf9)
  have hE8 : E9 = "java/lang/IllegalArgumentException" := hE9
  subst hE8
  refine x_catch C hNW (name := "java/lang/IllegalArgumentException") [] ⟨0, 10, 13, 13⟩ [⟨0, 10, 17, 15⟩] htab (fun z hz => by cases hz) (by decide) (by decide) (by decide +kernel) 43 rfl 13 rfl (fun qx_3 => ?_)
  refine x_astore C [(4, .ref qx_3), (0, .ref x), (1, .int sh), (2, .int cl), (3, .ref out)] dL_thread_13 (by decide) rfl ?_
  refine x_iconst C (nI 1) dL_thread_15 (by decide +kernel) ?_
  refine x_iret C hK hlk hrt hQ hH0 hAA () ?_ [0, 1] (by decide) rfl (by first | decide | omega) (by first | decide | omega) dL_thread_16
  first | rfl | (exact ⟨rfl, rfl⟩) | trivial | assumption | omega
abbrev rm_w_threadX2 : Room := { frames := 7, cells := 1, slots := 6, locals := 103 }
set_option maxRecDepth 100000 in
set_option maxHeartbeats 4000000 in
theorem c_w_threadX2 (l : Launch) (hl0 : l.stackTraces = false) (D : va_G) (tys : List (ClassId × FieldType)) (cI cJ : ClassId) (hI : tys[0]? = some (cI, .int)) (hJ : tys[1]? = some (cJ, .long)) (x : Nat) (qw : Nat) (qv : Nat) (qt : Nat) (ri : Int32) (qd : Nat) (qc : Nat) (ql : Nat) (wa : Nat) (wo : Nat) (bw : Nat → Int32) (cw : Nat → Int32) (sh : Int32) (cl : Int32) (out : Nat) (fo : Nat → Int64) (h1 : below sh 8 = true) (h2 : below cl 8 = true) : MIW l yL_thread wsL_thread rm_w_threadX2 D tys [.ref x, .int sh, .int cl, .ref out] [(x, OB 4 [.ref qw, .ref qv, .ref qt, .int ri, .ref qd, .ref qc, .ref ql]), (qw, OB 3 [.ref wa, .ref wo, .int (nI 40)]), (wa, AI cI 40 bw), (wo, AI cI 40 cw), (out, AJ cJ 1 fo)] Unit (fun r (_ : Unit) => r = nI 2) (fun (_ : Unit) => [(x, OB 4 [.ref qw, .ref qv, .ref qt, .int ri, .ref qd, .ref qc, .ref ql]), (qw, OB 3 [.ref wa, .ref wo, .int (nI 40)]), (wa, AI cI 40 bw), (wo, AI cI 40 cw), (out, AJ cJ 1 fo)]) 1 6 := by
  intro sz
  refine x_metW (cc := cL_thread) (maxL := 5) (ret := (some .int)) (by decide +kernel) rfl (by show _ ≤ _; simp [lg_sl, Value.category]) [(0, .ref x), (1, .int sh), (2, .int cl), (3, .ref out)] rfl ?_
  intro p e s m args below meth c Q A H0 C hK hNW hlk hrt hnm hQ hH0 hAA hA hZ hNC htab
  refine x_aload_n C dL_thread_0 rfl 3 rfl ?_
  refine x_iconst C (nI 0) dL_thread_1 (by decide +kernel) ?_
  refine x_aload_n C dL_thread_2 rfl 0 rfl ?_
  refine x_iload_n C dL_thread_3 rfl 1 rfl ?_
  refine x_iload_n C dL_thread_4 rfl 2 rfl ?_
  refine x_callXi (x_runVX C hK hNW hH0 hZ hA (c_threadX2 l hl0 D tys cI cJ hI hJ x qw qv qt ri qd qc ql wa wo bw cw sh cl (by first | omega | assumption) (by first | omega | assumption)) (cwV 2 C.2.2.2.2 gL_thread_X4_thread rfl rfl rfl (by decide +kernel) ⟨by decide, by decide⟩) [0, 1, 2, 3] rfl (by decide) 0 4 rfl rfl rfl (st := [.int (nI 0), .ref out]) rfl rfl (Nat.le_of_ble_eq_true rfl) dL_thread_5 ⟨by first | decide | omega, by first | decide | omega⟩) hA [0, 1, 2, 3] rfl [4] [(out, AJ cJ 1 fo)] rfl (by decide) (by decide) [1, 2, 3, 4, 0] (by decide) (wf := fun _ => [(x, OB 4 [.ref qw, .ref qv, .ref qt, .int ri, .ref qd, .ref qc, .ref ql]), (qw, OB 3 [.ref wa, .ref wo, .int (nI 40)]), (wa, AI cI 40 bw), (wo, AI cI 40 cw), (out, AJ cJ 1 fo)]) (fun _ => rfl) (wsx := [(x, OB 4 [.ref qw, .ref qv, .ref qt, .int ri, .ref qd, .ref qc, .ref ql]), (qw, OB 3 [.ref wa, .ref wo, .int (nI 40)]), (wa, AI cI 40 bw), (wo, AI cI 40 cw), (out, AJ cJ 1 fo)]) rfl (fun E9 hE9 => ?_) (fun _ _ hf9 => False.elim hf9)
  have hE8 : E9 = "java/lang/IllegalStateException" := hE9
  subst hE8
  refine x_catch C hNW (name := "java/lang/IllegalStateException") [⟨0, 10, 13, 13⟩] ⟨0, 10, 17, 15⟩ [] htab (fun z hz => by rcases List.mem_singleton.mp hz with rfl; exact Or.inr ⟨by decide, "java/lang/IllegalArgumentException", C.2.2.2.2 _ (by decide +kernel), hNC.1⟩) (by decide) (by decide) (by decide +kernel) 44 rfl 17 rfl (fun qx_3 => ?_)
  refine x_astore C [(4, .ref qx_3), (0, .ref x), (1, .int sh), (2, .int cl), (3, .ref out)] dL_thread_17 (by decide) rfl ?_
  refine x_iconst C (nI 2) dL_thread_19 (by decide +kernel) ?_
  refine x_iret C hK hlk hrt hQ hH0 hAA () ?_ [0, 1, 2, 3, 4] (by decide) rfl (by first | decide | omega) (by first | decide | omega) dL_thread_20
  first | rfl | (exact ⟨rfl, rfl⟩) | trivial | assumption | omega
abbrev rm_w_tread : Room := { frames := 3, cells := 1, slots := 6, locals := 64 }
set_option maxRecDepth 100000 in
set_option maxHeartbeats 4000000 in
theorem c_w_tread (l : Launch) (hl0 : l.stackTraces = false) (D : va_G) (tys : List (ClassId × FieldType)) (cI cJ : ClassId) (hI : tys[0]? = some (cI, .int)) (hJ : tys[1]? = some (cJ, .long)) (x : Nat) (qw : Nat) (qv : Nat) (qt : Nat) (ri : Int32) (qd : Nat) (qc : Nat) (ql : Nat) (pa : Nat) (po : Nat) (np : Nat) (bp : Nat → Int32) (cp : Nat → Int32) (tr : Nat) (cl : Nat) (out : Nat) (fo : Nat → Int64) (hnp : np < 40) (htr : tr < 1024) (hcl : cl < 8) : MIW l yL_tread wsL_tread rm_w_tread D tys [.ref x, .int (nI tr), .int (nI cl), .ref out] [(x, OB 4 [.ref qw, .ref qv, .ref qt, .int ri, .ref qd, .ref qc, .ref ql]), (qv, OB 3 [.ref pa, .ref po, .int (nI np)]), (pa, AI cI 40 bp), (po, AI cI 40 cp), (out, AJ cJ 1 fo)] Unit (fun r (_ : Unit) => r = nI 0) (fun (_ : Unit) => [(x, OB 4 [.ref qw, .ref qv, .ref qt, .int ri, .ref qd, .ref qc, .ref ql]), (qv, OB 3 [.ref pa, .ref po, .int (nI (np + 1))]), (pa, AI cI 40 (upd bp np (nI tr))), (po, AI cI 40 (upd cp np (nI cl))), (out, AJ cJ 1 (vp_updL fo 0 (nI np).toInt64))]) 1 6 := by
  intro sz
  refine x_metW (cc := cL_tread) (maxL := 5) (ret := (some .int)) (by decide +kernel) rfl (by show _ ≤ _; simp [lg_sl, Value.category]) [(0, .ref x), (1, .int (nI tr)), (2, .int (nI cl)), (3, .ref out)] rfl ?_
  intro p e s m args below meth c Q A H0 C hK hNW hlk hrt hnm hQ hH0 hAA hA hZ hNC htab
  refine x_aload_n C dL_tread_0 rfl 3 rfl ?_
  refine x_iconst C (nI 0) dL_tread_1 (by decide +kernel) ?_
  refine x_aload_n C dL_tread_2 rfl 0 rfl ?_
  refine x_iload_n C dL_tread_3 rfl 1 rfl ?_
  refine x_iload_n C dL_tread_4 rfl 2 rfl ?_
  refine x_calli (x_runV C hK hNW (c_tread l D tys cI cJ hI hJ x qw qv qt ri qd qc ql pa po np bp cp tr cl (by first | omega | assumption) (by first | omega | assumption) (by first | omega | assumption)) (cwV 2 C.2.2.2.2 gL_tread_X4_tread rfl rfl rfl (by decide +kernel) ⟨by decide, by decide⟩) [0, 1, 2, 3] rfl (by decide) 0 4 rfl rfl rfl (st := [.int (nI 0), .ref out]) rfl rfl (Nat.le_of_ble_eq_true rfl) dL_tread_5 ⟨by first | decide | omega, by first | decide | omega⟩) hA [0, 1, 2, 3] rfl [4] [(out, AJ cJ 1 fo)] rfl (by decide) (by decide) [1, 2, 3, 4, 0] (by decide) (wf := (fun (u : Unit) => [(x, OB 4 [.ref qw, .ref qv, .ref qt, .int ri, .ref qd, .ref qc, .ref ql]), (qv, OB 3 [.ref pa, .ref po, .int (nI (np + 1))]), (pa, AI cI 40 (upd bp np (nI tr))), (po, AI cI 40 (upd cp np (nI cl))), (out, AJ cJ 1 fo)])) (fun _ => rfl) (fun r_1 u h_2 => ?_)
  subst h_2
  refine x_i2l C _ dL_tread_8 rfl ?_
  refine x_last C hK 4 1 rfl hJ (by omega) (by omega) [(x, OB 4 [.ref qw, .ref qv, .ref qt, .int ri, .ref qd, .ref qc, .ref ql]), (qv, OB 3 [.ref pa, .ref po, .int (nI (np + 1))]), (pa, AI cI 40 (upd bp np (nI tr))), (po, AI cI 40 (upd cp np (nI cl))), (out, AJ cJ 1 (vp_updL fo 0 ((nI np).toInt64)))] rfl dL_tread_9 ?_
  refine x_goto C 21 dL_tread_10 (by decide) ?_
  refine x_iconst C (nI 0) dL_tread_21 (by decide +kernel) ?_
  refine x_iret C hK hlk hrt hQ hH0 hAA () ?_ [0, 1, 2, 3, 4] (by decide) rfl (by first | decide | omega) (by first | decide | omega) dL_tread_22
  first | rfl | (exact ⟨rfl, rfl⟩) | trivial | assumption | omega
abbrev rm_w_treadX1 : Room := { frames := 7, cells := 1, slots := 6, locals := 103 }
set_option maxRecDepth 100000 in
set_option maxHeartbeats 4000000 in
theorem c_w_treadX1 (l : Launch) (hl0 : l.stackTraces = false) (D : va_G) (tys : List (ClassId × FieldType)) (cI cJ : ClassId) (hI : tys[0]? = some (cI, .int)) (hJ : tys[1]? = some (cJ, .long)) (x : Nat) (qw : Nat) (qv : Nat) (qt : Nat) (ri : Int32) (qd : Nat) (qc : Nat) (ql : Nat) (tr : Int32) (cl : Int32) (out : Nat) (fo : Nat → Int64) (hx : ¬ (below tr (2 ^ 10) = true ∧ below cl 8 = true)) : MIW l yL_tread wsL_tread rm_w_treadX1 D tys [.ref x, .int tr, .int cl, .ref out] [(x, OB 4 [.ref qw, .ref qv, .ref qt, .int ri, .ref qd, .ref qc, .ref ql]), (out, AJ cJ 1 fo)] Unit (fun r (_ : Unit) => r = nI 1) (fun (_ : Unit) => [(x, OB 4 [.ref qw, .ref qv, .ref qt, .int ri, .ref qd, .ref qc, .ref ql]), (out, AJ cJ 1 fo)]) 1 6 := by
  intro sz
  refine x_metW (cc := cL_tread) (maxL := 5) (ret := (some .int)) (by decide +kernel) rfl (by show _ ≤ _; simp [lg_sl, Value.category]) [(0, .ref x), (1, .int tr), (2, .int cl), (3, .ref out)] rfl ?_
  intro p e s m args below meth c Q A H0 C hK hNW hlk hrt hnm hQ hH0 hAA hA hZ hNC htab
  refine x_aload_n C dL_tread_0 rfl 3 rfl ?_
  refine x_iconst C (nI 0) dL_tread_1 (by decide +kernel) ?_
  refine x_aload_n C dL_tread_2 rfl 0 rfl ?_
  refine x_iload_n C dL_tread_3 rfl 1 rfl ?_
  refine x_iload_n C dL_tread_4 rfl 2 rfl ?_
  refine x_callXi (x_runVX C hK hNW hH0 hZ hA (c_treadX1 l hl0 D tys cI cJ hI hJ x qw qv qt ri qd qc ql tr cl (by first | omega | assumption)) (cwV 2 C.2.2.2.2 gL_tread_X4_tread rfl rfl rfl (by decide +kernel) ⟨by decide, by decide⟩) [0] rfl (by decide) 0 4 rfl rfl rfl (st := [.int (nI 0), .ref out]) rfl rfl (Nat.le_of_ble_eq_true rfl) dL_tread_5 ⟨by first | decide | omega, by first | decide | omega⟩) hA [0] rfl [1] [(out, AJ cJ 1 fo)] rfl (by decide) (by decide) [1, 0] (by decide) (wf := fun _ => [(x, OB 4 [.ref qw, .ref qv, .ref qt, .int ri, .ref qd, .ref qc, .ref ql]), (out, AJ cJ 1 fo)]) (fun _ => rfl) (wsx := [(x, OB 4 [.ref qw, .ref qv, .ref qt, .int ri, .ref qd, .ref qc, .ref ql]), (out, AJ cJ 1 fo)]) rfl (fun E9 hE9 => ?_) (fun _ _ hf9 => False.elim hf9)
  have hE8 : E9 = "java/lang/IllegalArgumentException" := hE9
  subst hE8
  refine x_catch C hNW (name := "java/lang/IllegalArgumentException") [] ⟨0, 10, 13, 13⟩ [⟨0, 10, 17, 15⟩] htab (fun z hz => by cases hz) (by decide) (by decide) (by decide +kernel) 43 rfl 13 rfl (fun qx_3 => ?_)
  refine x_astore C [(4, .ref qx_3), (0, .ref x), (1, .int tr), (2, .int cl), (3, .ref out)] dL_tread_13 (by decide) rfl ?_
  refine x_iconst C (nI 1) dL_tread_15 (by decide +kernel) ?_
  refine x_iret C hK hlk hrt hQ hH0 hAA () ?_ [0, 1] (by decide) rfl (by first | decide | omega) (by first | decide | omega) dL_tread_16
  first | rfl | (exact ⟨rfl, rfl⟩) | trivial | assumption | omega
abbrev rm_w_treadX2 : Room := { frames := 7, cells := 1, slots := 6, locals := 103 }
set_option maxRecDepth 100000 in
set_option maxHeartbeats 4000000 in
theorem c_w_treadX2 (l : Launch) (hl0 : l.stackTraces = false) (D : va_G) (tys : List (ClassId × FieldType)) (cI cJ : ClassId) (hI : tys[0]? = some (cI, .int)) (hJ : tys[1]? = some (cJ, .long)) (x : Nat) (qw : Nat) (qv : Nat) (qt : Nat) (ri : Int32) (qd : Nat) (qc : Nat) (ql : Nat) (pa : Nat) (po : Nat) (bp : Nat → Int32) (cp : Nat → Int32) (tr : Int32) (cl : Int32) (out : Nat) (fo : Nat → Int64) (h1 : below tr (2 ^ 10) = true) (h2 : below cl 8 = true) : MIW l yL_tread wsL_tread rm_w_treadX2 D tys [.ref x, .int tr, .int cl, .ref out] [(x, OB 4 [.ref qw, .ref qv, .ref qt, .int ri, .ref qd, .ref qc, .ref ql]), (qv, OB 3 [.ref pa, .ref po, .int (nI 40)]), (pa, AI cI 40 bp), (po, AI cI 40 cp), (out, AJ cJ 1 fo)] Unit (fun r (_ : Unit) => r = nI 2) (fun (_ : Unit) => [(x, OB 4 [.ref qw, .ref qv, .ref qt, .int ri, .ref qd, .ref qc, .ref ql]), (qv, OB 3 [.ref pa, .ref po, .int (nI 40)]), (pa, AI cI 40 bp), (po, AI cI 40 cp), (out, AJ cJ 1 fo)]) 1 6 := by
  intro sz
  refine x_metW (cc := cL_tread) (maxL := 5) (ret := (some .int)) (by decide +kernel) rfl (by show _ ≤ _; simp [lg_sl, Value.category]) [(0, .ref x), (1, .int tr), (2, .int cl), (3, .ref out)] rfl ?_
  intro p e s m args below meth c Q A H0 C hK hNW hlk hrt hnm hQ hH0 hAA hA hZ hNC htab
  refine x_aload_n C dL_tread_0 rfl 3 rfl ?_
  refine x_iconst C (nI 0) dL_tread_1 (by decide +kernel) ?_
  refine x_aload_n C dL_tread_2 rfl 0 rfl ?_
  refine x_iload_n C dL_tread_3 rfl 1 rfl ?_
  refine x_iload_n C dL_tread_4 rfl 2 rfl ?_
  refine x_callXi (x_runVX C hK hNW hH0 hZ hA (c_treadX2 l hl0 D tys cI cJ hI hJ x qw qv qt ri qd qc ql pa po bp cp tr cl (by first | omega | assumption) (by first | omega | assumption)) (cwV 2 C.2.2.2.2 gL_tread_X4_tread rfl rfl rfl (by decide +kernel) ⟨by decide, by decide⟩) [0, 1, 2, 3] rfl (by decide) 0 4 rfl rfl rfl (st := [.int (nI 0), .ref out]) rfl rfl (Nat.le_of_ble_eq_true rfl) dL_tread_5 ⟨by first | decide | omega, by first | decide | omega⟩) hA [0, 1, 2, 3] rfl [4] [(out, AJ cJ 1 fo)] rfl (by decide) (by decide) [1, 2, 3, 4, 0] (by decide) (wf := fun _ => [(x, OB 4 [.ref qw, .ref qv, .ref qt, .int ri, .ref qd, .ref qc, .ref ql]), (qv, OB 3 [.ref pa, .ref po, .int (nI 40)]), (pa, AI cI 40 bp), (po, AI cI 40 cp), (out, AJ cJ 1 fo)]) (fun _ => rfl) (wsx := [(x, OB 4 [.ref qw, .ref qv, .ref qt, .int ri, .ref qd, .ref qc, .ref ql]), (qv, OB 3 [.ref pa, .ref po, .int (nI 40)]), (pa, AI cI 40 bp), (po, AI cI 40 cp), (out, AJ cJ 1 fo)]) rfl (fun E9 hE9 => ?_) (fun _ _ hf9 => False.elim hf9)
  have hE8 : E9 = "java/lang/IllegalStateException" := hE9
  subst hE8
  refine x_catch C hNW (name := "java/lang/IllegalStateException") [⟨0, 10, 13, 13⟩] ⟨0, 10, 17, 15⟩ [] htab (fun z hz => by rcases List.mem_singleton.mp hz with rfl; exact Or.inr ⟨by decide, "java/lang/IllegalArgumentException", C.2.2.2.2 _ (by decide +kernel), hNC.1⟩) (by decide) (by decide) (by decide +kernel) 44 rfl 17 rfl (fun qx_3 => ?_)
  refine x_astore C [(4, .ref qx_3), (0, .ref x), (1, .int tr), (2, .int cl), (3, .ref out)] dL_tread_17 (by decide) rfl ?_
  refine x_iconst C (nI 2) dL_tread_19 (by decide +kernel) ?_
  refine x_iret C hK hlk hrt hQ hH0 hAA () ?_ [0, 1, 2, 3, 4] (by decide) rfl (by first | decide | omega) (by first | decide | omega) dL_tread_20
  first | rfl | (exact ⟨rfl, rfl⟩) | trivial | assumption | omega
abbrev rm_w_tie : Room := { frames := 3, cells := 1, slots := 6, locals := 65 }
set_option maxRecDepth 100000 in
set_option maxHeartbeats 4000000 in
theorem c_w_tie (l : Launch) (hl0 : l.stackTraces = false) (D : va_G) (tys : List (ClassId × FieldType)) (cI cJ : ClassId) (hI : tys[0]? = some (cI, .int)) (hJ : tys[1]? = some (cJ, .long)) (x : Nat) (qw : Nat) (qv : Nat) (qt : Nat) (ri : Int32) (qd : Nat) (qc : Nat) (ql : Nat) (ti : Nat → Int32) (tr : Nat) (sh : Nat) (out : Nat) (fo : Nat → Int64) (htr : tr < 10) (hsh : sh < 256) : MIW l yL_tie wsL_tie rm_w_tie D tys [.ref x, .int (nI tr), .int (nI sh), .ref out] [(x, OB 4 [.ref qw, .ref qv, .ref qt, .int ri, .ref qd, .ref qc, .ref ql]), (qt, AI cI 10 ti), (out, AJ cJ 1 fo)] Unit (fun r (_ : Unit) => r = nI 0) (fun (_ : Unit) => [(x, OB 4 [.ref qw, .ref qv, .ref qt, .int ri, .ref qd, .ref qc, .ref ql]), (qt, AI cI 10 (upd ti tr (nI sh))), (out, AJ cJ 1 (vp_updL fo 0 (ti tr).toInt64))]) 1 6 := by
  intro sz
  refine x_metW (cc := cL_tie) (maxL := 5) (ret := (some .int)) (by decide +kernel) rfl (by show _ ≤ _; simp [lg_sl, Value.category]) [(0, .ref x), (1, .int (nI tr)), (2, .int (nI sh)), (3, .ref out)] rfl ?_
  intro p e s m args below meth c Q A H0 C hK hNW hlk hrt hnm hQ hH0 hAA hA hZ hNC htab
  refine x_aload_n C dL_tie_0 rfl 3 rfl ?_
  refine x_iconst C (nI 0) dL_tie_1 (by decide +kernel) ?_
  refine x_aload_n C dL_tie_2 rfl 0 rfl ?_
  refine x_iload_n C dL_tie_3 rfl 1 rfl ?_
  refine x_iload_n C dL_tie_4 rfl 2 rfl ?_
  refine x_calli (x_runV C hK hNW (c_tie l D tys cI cJ hI hJ x qw qv qt ri qd qc ql ti tr sh (by first | omega | assumption) (by first | omega | assumption)) (cwV 2 C.2.2.2.2 gL_tie_X4_tie rfl rfl rfl (by decide +kernel) ⟨by decide, by decide⟩) [0, 1] rfl (by decide) 0 4 rfl rfl rfl (st := [.int (nI 0), .ref out]) rfl rfl (Nat.le_of_ble_eq_true rfl) dL_tie_5 ⟨by first | decide | omega, by first | decide | omega⟩) hA [0, 1] rfl [2] [(out, AJ cJ 1 fo)] rfl (by decide) (by decide) [1, 2, 0] (by decide) (wf := (fun (u : Unit) => [(x, OB 4 [.ref qw, .ref qv, .ref qt, .int ri, .ref qd, .ref qc, .ref ql]), (qt, AI cI 10 (upd ti tr (nI sh))), (out, AJ cJ 1 fo)])) (fun _ => rfl) (fun r_1 u h_2 => ?_)
  subst h_2
  refine x_i2l C _ dL_tie_8 rfl ?_
  refine x_last C hK 2 1 rfl hJ (by omega) (by omega) [(x, OB 4 [.ref qw, .ref qv, .ref qt, .int ri, .ref qd, .ref qc, .ref ql]), (qt, AI cI 10 (upd ti tr (nI sh))), (out, AJ cJ 1 (vp_updL fo 0 ((ti tr).toInt64)))] rfl dL_tie_9 ?_
  refine x_goto C 21 dL_tie_10 (by decide) ?_
  refine x_iconst C (nI 0) dL_tie_21 (by decide +kernel) ?_
  refine x_iret C hK hlk hrt hQ hH0 hAA () ?_ [0, 1, 2] (by decide) rfl (by first | decide | omega) (by first | decide | omega) dL_tie_22
  first | rfl | (exact ⟨rfl, rfl⟩) | trivial | assumption | omega
abbrev rm_w_tieX1 : Room := { frames := 7, cells := 1, slots := 6, locals := 104 }
set_option maxRecDepth 100000 in
set_option maxHeartbeats 4000000 in
theorem c_w_tieX1 (l : Launch) (hl0 : l.stackTraces = false) (D : va_G) (tys : List (ClassId × FieldType)) (cI cJ : ClassId) (hI : tys[0]? = some (cI, .int)) (hJ : tys[1]? = some (cJ, .long)) (x : Nat) (qw : Nat) (qv : Nat) (qt : Nat) (ri : Int32) (qd : Nat) (qc : Nat) (ql : Nat) (tr : Int32) (sh : Int32) (out : Nat) (fo : Nat → Int64) (hx : below tr 10 = false) : MIW l yL_tie wsL_tie rm_w_tieX1 D tys [.ref x, .int tr, .int sh, .ref out] [(x, OB 4 [.ref qw, .ref qv, .ref qt, .int ri, .ref qd, .ref qc, .ref ql]), (out, AJ cJ 1 fo)] Unit (fun r (_ : Unit) => r = nI 1) (fun (_ : Unit) => [(x, OB 4 [.ref qw, .ref qv, .ref qt, .int ri, .ref qd, .ref qc, .ref ql]), (out, AJ cJ 1 fo)]) 1 6 := by
  intro sz
  refine x_metW (cc := cL_tie) (maxL := 5) (ret := (some .int)) (by decide +kernel) rfl (by show _ ≤ _; simp [lg_sl, Value.category]) [(0, .ref x), (1, .int tr), (2, .int sh), (3, .ref out)] rfl ?_
  intro p e s m args below meth c Q A H0 C hK hNW hlk hrt hnm hQ hH0 hAA hA hZ hNC htab
  refine x_aload_n C dL_tie_0 rfl 3 rfl ?_
  refine x_iconst C (nI 0) dL_tie_1 (by decide +kernel) ?_
  refine x_aload_n C dL_tie_2 rfl 0 rfl ?_
  refine x_iload_n C dL_tie_3 rfl 1 rfl ?_
  refine x_iload_n C dL_tie_4 rfl 2 rfl ?_
  refine x_callXi (x_runVX C hK hNW hH0 hZ hA (c_tieX1 l hl0 D tys cI cJ hI hJ x qw qv qt ri qd qc ql tr sh (by first | omega | assumption)) (cwV 2 C.2.2.2.2 gL_tie_X4_tie rfl rfl rfl (by decide +kernel) ⟨by decide, by decide⟩) [0] rfl (by decide) 0 4 rfl rfl rfl (st := [.int (nI 0), .ref out]) rfl rfl (Nat.le_of_ble_eq_true rfl) dL_tie_5 ⟨by first | decide | omega, by first | decide | omega⟩) hA [0] rfl [1] [(out, AJ cJ 1 fo)] rfl (by decide) (by decide) [1, 0] (by decide) (wf := fun _ => [(x, OB 4 [.ref qw, .ref qv, .ref qt, .int ri, .ref qd, .ref qc, .ref ql]), (out, AJ cJ 1 fo)]) (fun _ => rfl) (wsx := [(x, OB 4 [.ref qw, .ref qv, .ref qt, .int ri, .ref qd, .ref qc, .ref ql]), (out, AJ cJ 1 fo)]) rfl (fun E9 hE9 => ?_) (fun _ _ hf9 => False.elim hf9)
  have hE8 : E9 = "java/lang/IndexOutOfBoundsException" := hE9
  subst hE8
  refine x_catch C hNW (name := "java/lang/IndexOutOfBoundsException") [] ⟨0, 10, 13, 23⟩ [⟨0, 10, 17, 13⟩] htab (fun z hz => by cases hz) (by decide) (by decide) (by decide +kernel) 45 rfl 13 rfl (fun qx_3 => ?_)
  refine x_astore C [(4, .ref qx_3), (0, .ref x), (1, .int tr), (2, .int sh), (3, .ref out)] dL_tie_13 (by decide) rfl ?_
  refine x_iconst C (nI 1) dL_tie_15 (by decide +kernel) ?_
  refine x_iret C hK hlk hrt hQ hH0 hAA () ?_ [0, 1] (by decide) rfl (by first | decide | omega) (by first | decide | omega) dL_tie_16
  first | rfl | (exact ⟨rfl, rfl⟩) | trivial | assumption | omega
abbrev rm_w_tieX2 : Room := { frames := 7, cells := 1, slots := 6, locals := 104 }
set_option maxRecDepth 100000 in
set_option maxHeartbeats 4000000 in
theorem c_w_tieX2 (l : Launch) (hl0 : l.stackTraces = false) (D : va_G) (tys : List (ClassId × FieldType)) (cI cJ : ClassId) (hI : tys[0]? = some (cI, .int)) (hJ : tys[1]? = some (cJ, .long)) (x : Nat) (qw : Nat) (qv : Nat) (qt : Nat) (ri : Int32) (qd : Nat) (qc : Nat) (ql : Nat) (tr : Int32) (sh : Int32) (out : Nat) (fo : Nat → Int64) (h1 : below tr 10 = true) (hx : below sh (2 ^ 8) = false) : MIW l yL_tie wsL_tie rm_w_tieX2 D tys [.ref x, .int tr, .int sh, .ref out] [(x, OB 4 [.ref qw, .ref qv, .ref qt, .int ri, .ref qd, .ref qc, .ref ql]), (out, AJ cJ 1 fo)] Unit (fun r (_ : Unit) => r = nI 2) (fun (_ : Unit) => [(x, OB 4 [.ref qw, .ref qv, .ref qt, .int ri, .ref qd, .ref qc, .ref ql]), (out, AJ cJ 1 fo)]) 1 6 := by
  intro sz
  refine x_metW (cc := cL_tie) (maxL := 5) (ret := (some .int)) (by decide +kernel) rfl (by show _ ≤ _; simp [lg_sl, Value.category]) [(0, .ref x), (1, .int tr), (2, .int sh), (3, .ref out)] rfl ?_
  intro p e s m args below meth c Q A H0 C hK hNW hlk hrt hnm hQ hH0 hAA hA hZ hNC htab
  refine x_aload_n C dL_tie_0 rfl 3 rfl ?_
  refine x_iconst C (nI 0) dL_tie_1 (by decide +kernel) ?_
  refine x_aload_n C dL_tie_2 rfl 0 rfl ?_
  refine x_iload_n C dL_tie_3 rfl 1 rfl ?_
  refine x_iload_n C dL_tie_4 rfl 2 rfl ?_
  refine x_callXi (x_runVX C hK hNW hH0 hZ hA (c_tieX2 l hl0 D tys cI cJ hI hJ x qw qv qt ri qd qc ql tr sh (by first | omega | assumption) (by first | omega | assumption)) (cwV 2 C.2.2.2.2 gL_tie_X4_tie rfl rfl rfl (by decide +kernel) ⟨by decide, by decide⟩) [0] rfl (by decide) 0 4 rfl rfl rfl (st := [.int (nI 0), .ref out]) rfl rfl (Nat.le_of_ble_eq_true rfl) dL_tie_5 ⟨by first | decide | omega, by first | decide | omega⟩) hA [0] rfl [1] [(out, AJ cJ 1 fo)] rfl (by decide) (by decide) [1, 0] (by decide) (wf := fun _ => [(x, OB 4 [.ref qw, .ref qv, .ref qt, .int ri, .ref qd, .ref qc, .ref ql]), (out, AJ cJ 1 fo)]) (fun _ => rfl) (wsx := [(x, OB 4 [.ref qw, .ref qv, .ref qt, .int ri, .ref qd, .ref qc, .ref ql]), (out, AJ cJ 1 fo)]) rfl (fun E9 hE9 => ?_) (fun _ _ hf9 => False.elim hf9)
  have hE8 : E9 = "java/lang/IllegalArgumentException" := hE9
  subst hE8
  refine x_catch C hNW (name := "java/lang/IllegalArgumentException") [⟨0, 10, 13, 23⟩] ⟨0, 10, 17, 13⟩ [] htab (fun z hz => by rcases List.mem_singleton.mp hz with rfl; exact Or.inr ⟨by decide, "java/lang/IndexOutOfBoundsException", C.2.2.2.2 _ (by decide +kernel), hNC.2.1⟩) (by decide) (by decide) (by decide +kernel) 43 rfl 17 rfl (fun qx_3 => ?_)
  refine x_astore C [(4, .ref qx_3), (0, .ref x), (1, .int tr), (2, .int sh), (3, .ref out)] dL_tie_17 (by decide) rfl ?_
  refine x_iconst C (nI 2) dL_tie_19 (by decide +kernel) ?_
  refine x_iret C hK hlk hrt hQ hH0 hAA () ?_ [0, 1] (by decide) rfl (by first | decide | omega) (by first | decide | omega) dL_tie_20
  first | rfl | (exact ⟨rfl, rfl⟩) | trivial | assumption | omega
abbrev rm_w_endS : Room := { frames := 3, cells := 1, slots := 6, locals := 64 }
set_option maxRecDepth 100000 in
set_option maxHeartbeats 4000000 in
theorem c_w_endS (l : Launch) (hl0 : l.stackTraces = false) (D : va_G) (tys : List (ClassId × FieldType)) (cI cJ : ClassId) (hI : tys[0]? = some (cI, .int)) (hJ : tys[1]? = some (cJ, .long)) (x : Nat) (qw : Nat) (qv : Nat) (qt : Nat) (ri : Int32) (qd : Nat) (qc : Nat) (ql : Nat) (wa : Nat) (wo : Nat) (nw : Nat) (bw : Nat → Int32) (cw : Nat → Int32) (en : Nat) (out : Nat) (fo : Nat → Int64) (hnw : nw ≤ 40) (hen : en < nw) : MIW l yL_end wsL_end rm_w_endS D tys [.ref x, .int (nI en), .int (nI 0), .ref out] [(x, OB 4 [.ref qw, .ref qv, .ref qt, .int ri, .ref qd, .ref qc, .ref ql]), (qw, OB 3 [.ref wa, .ref wo, .int (nI nw)]), (wa, AI cI 40 bw), (wo, AI cI 40 cw), (out, AJ cJ 1 fo)] Unit (fun r (_ : Unit) => r = nI 0) (fun (_ : Unit) => [(x, OB 4 [.ref qw, .ref qv, .ref qt, .int ri, .ref qd, .ref qc, .ref ql]), (qw, OB 3 [.ref wa, .ref wo, .int (nI nw)]), (wa, AI cI 40 bw), (wo, AI cI 40 cw), (out, AJ cJ 1 (vp_updL fo 0 (bw en).toInt64))]) 1 6 := by
  intro sz
  refine x_metW (cc := cL_end) (maxL := 5) (ret := (some .int)) (by decide +kernel) rfl (by show _ ≤ _; simp [lg_sl, Value.category]) [(0, .ref x), (1, .int (nI en)), (2, .int (nI 0)), (3, .ref out)] rfl ?_
  intro p e s m args below meth c Q A H0 C hK hNW hlk hrt hnm hQ hH0 hAA hA hZ hNC htab
  refine x_aload_n C dL_end_0 rfl 3 rfl ?_
  refine x_iconst C (nI 0) dL_end_1 (by decide +kernel) ?_
  refine x_aload_n C dL_end_2 rfl 0 rfl ?_
  refine x_iload_n C dL_end_3 rfl 1 rfl ?_
  refine x_iload_n C dL_end_4 rfl 2 rfl ?_
  refine x_calli (x_runV C hK hNW (c_endS l D tys cI cJ hI hJ x qw qv qt ri qd qc ql wa wo nw bw cw en (by first | omega | assumption) (by first | omega | assumption)) (cwV 2 C.2.2.2.2 gL_end_X4_end rfl rfl rfl (by decide +kernel) ⟨by decide, by decide⟩) [0, 1, 2, 3] rfl (by decide) 0 4 rfl rfl rfl (st := [.int (nI 0), .ref out]) rfl rfl (Nat.le_of_ble_eq_true rfl) dL_end_5 ⟨by first | decide | omega, by first | decide | omega⟩) hA [0, 1, 2, 3] rfl [4] [(out, AJ cJ 1 fo)] rfl (by decide) (by decide) [1, 2, 3, 4, 0] (by decide) (wf := (fun (u : Unit) => [(x, OB 4 [.ref qw, .ref qv, .ref qt, .int ri, .ref qd, .ref qc, .ref ql]), (qw, OB 3 [.ref wa, .ref wo, .int (nI nw)]), (wa, AI cI 40 bw), (wo, AI cI 40 cw), (out, AJ cJ 1 fo)])) (fun _ => rfl) (fun r_1 u h_2 => ?_)
  subst h_2
  refine x_i2l C _ dL_end_8 rfl ?_
  refine x_last C hK 4 1 rfl hJ (by omega) (by omega) [(x, OB 4 [.ref qw, .ref qv, .ref qt, .int ri, .ref qd, .ref qc, .ref ql]), (qw, OB 3 [.ref wa, .ref wo, .int (nI nw)]), (wa, AI cI 40 bw), (wo, AI cI 40 cw), (out, AJ cJ 1 (vp_updL fo 0 ((bw en).toInt64)))] rfl dL_end_9 ?_
  refine x_goto C 17 dL_end_10 (by decide) ?_
  refine x_iconst C (nI 0) dL_end_17 (by decide +kernel) ?_
  refine x_iret C hK hlk hrt hQ hH0 hAA () ?_ [0, 1, 2, 3, 4] (by decide) rfl (by first | decide | omega) (by first | decide | omega) dL_end_18
  first | rfl | (exact ⟨rfl, rfl⟩) | trivial | assumption | omega
abbrev rm_w_endC : Room := { frames := 3, cells := 1, slots := 6, locals := 64 }
set_option maxRecDepth 100000 in
set_option maxHeartbeats 4000000 in
theorem c_w_endC (l : Launch) (hl0 : l.stackTraces = false) (D : va_G) (tys : List (ClassId × FieldType)) (cI cJ : ClassId) (hI : tys[0]? = some (cI, .int)) (hJ : tys[1]? = some (cJ, .long)) (x : Nat) (qw : Nat) (qv : Nat) (qt : Nat) (ri : Int32) (qd : Nat) (qc : Nat) (ql : Nat) (wa : Nat) (wo : Nat) (nw : Nat) (bw : Nat → Int32) (cw : Nat → Int32) (en : Nat) (out : Nat) (fo : Nat → Int64) (hnw : nw ≤ 40) (hen : en < nw) : MIW l yL_end wsL_end rm_w_endC D tys [.ref x, .int (nI en), .int (nI 1), .ref out] [(x, OB 4 [.ref qw, .ref qv, .ref qt, .int ri, .ref qd, .ref qc, .ref ql]), (qw, OB 3 [.ref wa, .ref wo, .int (nI nw)]), (wa, AI cI 40 bw), (wo, AI cI 40 cw), (out, AJ cJ 1 fo)] Unit (fun r (_ : Unit) => r = nI 0) (fun (_ : Unit) => [(x, OB 4 [.ref qw, .ref qv, .ref qt, .int ri, .ref qd, .ref qc, .ref ql]), (qw, OB 3 [.ref wa, .ref wo, .int (nI nw)]), (wa, AI cI 40 bw), (wo, AI cI 40 cw), (out, AJ cJ 1 (vp_updL fo 0 (cw en).toInt64))]) 1 6 := by
  intro sz
  refine x_metW (cc := cL_end) (maxL := 5) (ret := (some .int)) (by decide +kernel) rfl (by show _ ≤ _; simp [lg_sl, Value.category]) [(0, .ref x), (1, .int (nI en)), (2, .int (nI 1)), (3, .ref out)] rfl ?_
  intro p e s m args below meth c Q A H0 C hK hNW hlk hrt hnm hQ hH0 hAA hA hZ hNC htab
  refine x_aload_n C dL_end_0 rfl 3 rfl ?_
  refine x_iconst C (nI 0) dL_end_1 (by decide +kernel) ?_
  refine x_aload_n C dL_end_2 rfl 0 rfl ?_
  refine x_iload_n C dL_end_3 rfl 1 rfl ?_
  refine x_iload_n C dL_end_4 rfl 2 rfl ?_
  refine x_calli (x_runV C hK hNW (c_endC l D tys cI cJ hI hJ x qw qv qt ri qd qc ql wa wo nw bw cw en (by first | omega | assumption) (by first | omega | assumption)) (cwV 2 C.2.2.2.2 gL_end_X4_end rfl rfl rfl (by decide +kernel) ⟨by decide, by decide⟩) [0, 1, 2, 3] rfl (by decide) 0 4 rfl rfl rfl (st := [.int (nI 0), .ref out]) rfl rfl (Nat.le_of_ble_eq_true rfl) dL_end_5 ⟨by first | decide | omega, by first | decide | omega⟩) hA [0, 1, 2, 3] rfl [4] [(out, AJ cJ 1 fo)] rfl (by decide) (by decide) [1, 2, 3, 4, 0] (by decide) (wf := (fun (u : Unit) => [(x, OB 4 [.ref qw, .ref qv, .ref qt, .int ri, .ref qd, .ref qc, .ref ql]), (qw, OB 3 [.ref wa, .ref wo, .int (nI nw)]), (wa, AI cI 40 bw), (wo, AI cI 40 cw), (out, AJ cJ 1 fo)])) (fun _ => rfl) (fun r_1 u h_2 => ?_)
  subst h_2
  refine x_i2l C _ dL_end_8 rfl ?_
  refine x_last C hK 4 1 rfl hJ (by omega) (by omega) [(x, OB 4 [.ref qw, .ref qv, .ref qt, .int ri, .ref qd, .ref qc, .ref ql]), (qw, OB 3 [.ref wa, .ref wo, .int (nI nw)]), (wa, AI cI 40 bw), (wo, AI cI 40 cw), (out, AJ cJ 1 (vp_updL fo 0 ((cw en).toInt64)))] rfl dL_end_9 ?_
  refine x_goto C 17 dL_end_10 (by decide) ?_
  refine x_iconst C (nI 0) dL_end_17 (by decide +kernel) ?_
  refine x_iret C hK hlk hrt hQ hH0 hAA () ?_ [0, 1, 2, 3, 4] (by decide) rfl (by first | decide | omega) (by first | decide | omega) dL_end_18
  first | rfl | (exact ⟨rfl, rfl⟩) | trivial | assumption | omega
abbrev rm_w_endX : Room := { frames := 7, cells := 1, slots := 6, locals := 103 }
set_option maxRecDepth 100000 in
set_option maxHeartbeats 4000000 in
theorem c_w_endX (l : Launch) (hl0 : l.stackTraces = false) (D : va_G) (tys : List (ClassId × FieldType)) (cI cJ : ClassId) (hI : tys[0]? = some (cI, .int)) (hJ : tys[1]? = some (cJ, .long)) (x : Nat) (qw : Nat) (qv : Nat) (qt : Nat) (ri : Int32) (qd : Nat) (qc : Nat) (ql : Nat) (wa : Nat) (wo : Nat) (nw : Nat) (bw : Nat → Int32) (cw : Nat → Int32) (en : Int32) (wt : Int32) (out : Nat) (fo : Nat → Int64) (hnw : nw ≤ 40) (hx : ¬ (below en nw = true ∧ below wt 2 = true)) : MIW l yL_end wsL_end rm_w_endX D tys [.ref x, .int en, .int wt, .ref out] [(x, OB 4 [.ref qw, .ref qv, .ref qt, .int ri, .ref qd, .ref qc, .ref ql]), (qw, OB 3 [.ref wa, .ref wo, .int (nI nw)]), (wa, AI cI 40 bw), (wo, AI cI 40 cw), (out, AJ cJ 1 fo)] Unit (fun r (_ : Unit) => r = nI 1) (fun (_ : Unit) => [(x, OB 4 [.ref qw, .ref qv, .ref qt, .int ri, .ref qd, .ref qc, .ref ql]), (qw, OB 3 [.ref wa, .ref wo, .int (nI nw)]), (wa, AI cI 40 bw), (wo, AI cI 40 cw), (out, AJ cJ 1 fo)]) 1 6 := by
  intro sz
  refine x_metW (cc := cL_end) (maxL := 5) (ret := (some .int)) (by decide +kernel) rfl (by show _ ≤ _; simp [lg_sl, Value.category]) [(0, .ref x), (1, .int en), (2, .int wt), (3, .ref out)] rfl ?_
  intro p e s m args below meth c Q A H0 C hK hNW hlk hrt hnm hQ hH0 hAA hA hZ hNC htab
  refine x_aload_n C dL_end_0 rfl 3 rfl ?_
  refine x_iconst C (nI 0) dL_end_1 (by decide +kernel) ?_
  refine x_aload_n C dL_end_2 rfl 0 rfl ?_
  refine x_iload_n C dL_end_3 rfl 1 rfl ?_
  refine x_iload_n C dL_end_4 rfl 2 rfl ?_
  refine x_callXi (x_runVX C hK hNW hH0 hZ hA (c_endX l hl0 D tys cI cJ hI hJ x qw qv qt ri qd qc ql wa wo nw bw cw en wt (by first | omega | assumption) (by first | omega | assumption)) (cwV 2 C.2.2.2.2 gL_end_X4_end rfl rfl rfl (by decide +kernel) ⟨by decide, by decide⟩) [0, 1, 2, 3] rfl (by decide) 0 4 rfl rfl rfl (st := [.int (nI 0), .ref out]) rfl rfl (Nat.le_of_ble_eq_true rfl) dL_end_5 ⟨by first | decide | omega, by first | decide | omega⟩) hA [0, 1, 2, 3] rfl [4] [(out, AJ cJ 1 fo)] rfl (by decide) (by decide) [1, 2, 3, 4, 0] (by decide) (wf := fun _ => [(x, OB 4 [.ref qw, .ref qv, .ref qt, .int ri, .ref qd, .ref qc, .ref ql]), (qw, OB 3 [.ref wa, .ref wo, .int (nI nw)]), (wa, AI cI 40 bw), (wo, AI cI 40 cw), (out, AJ cJ 1 fo)]) (fun _ => rfl) (wsx := [(x, OB 4 [.ref qw, .ref qv, .ref qt, .int ri, .ref qd, .ref qc, .ref ql]), (qw, OB 3 [.ref wa, .ref wo, .int (nI nw)]), (wa, AI cI 40 bw), (wo, AI cI 40 cw), (out, AJ cJ 1 fo)]) rfl (fun E9 hE9 => ?_) (fun _ _ hf9 => False.elim hf9)
  have hE8 : E9 = "java/lang/IndexOutOfBoundsException" := hE9
  subst hE8
  refine x_catch C hNW (name := "java/lang/IndexOutOfBoundsException") [] ⟨0, 10, 13, 23⟩ [] htab (fun z hz => by cases hz) (by decide) (by decide) (by decide +kernel) 45 rfl 13 rfl (fun qx_3 => ?_)
  refine x_astore C [(4, .ref qx_3), (0, .ref x), (1, .int en), (2, .int wt), (3, .ref out)] dL_end_13 (by decide) rfl ?_
  refine x_iconst C (nI 1) dL_end_15 (by decide +kernel) ?_
  refine x_iret C hK hlk hrt hQ hH0 hAA () ?_ [0, 1, 2, 3, 4] (by decide) rfl (by first | decide | omega) (by first | decide | omega) dL_end_16
  first | rfl | (exact ⟨rfl, rfl⟩) | trivial | assumption | omega
abbrev rm_w_pickT : Room := { frames := 3, cells := 1, slots := 6, locals := 64 }
set_option maxRecDepth 100000 in
set_option maxHeartbeats 4000000 in
theorem c_w_pickT (l : Launch) (hl0 : l.stackTraces = false) (D : va_G) (tys : List (ClassId × FieldType)) (cI cJ : ClassId) (hI : tys[0]? = some (cI, .int)) (hJ : tys[1]? = some (cJ, .long)) (x : Nat) (qw : Nat) (qv : Nat) (qt : Nat) (ri : Int32) (qd : Nat) (qc : Nat) (ql : Nat) (pa : Nat) (po : Nat) (np : Nat) (bp : Nat → Int32) (cp : Nat → Int32) (ti : Nat → Int32) (pk : Nat) (out : Nat) (fo : Nat → Int64) (hnp : np ≤ 40) (hpk : pk < np) : MIW l yL_pick wsL_pick rm_w_pickT D tys [.ref x, .int (nI pk), .int (nI 0), .ref out] [(x, OB 4 [.ref qw, .ref qv, .ref qt, .int ri, .ref qd, .ref qc, .ref ql]), (qv, OB 3 [.ref pa, .ref po, .int (nI np)]), (pa, AI cI 40 bp), (po, AI cI 40 cp), (qt, AI cI 10 ti), (out, AJ cJ 1 fo)] Unit (fun r (_ : Unit) => r = nI 0) (fun (_ : Unit) => [(x, OB 4 [.ref qw, .ref qv, .ref qt, .int ri, .ref qd, .ref qc, .ref ql]), (qv, OB 3 [.ref pa, .ref po, .int (nI np)]), (pa, AI cI 40 bp), (po, AI cI 40 cp), (qt, AI cI 10 ti), (out, AJ cJ 1 (vp_updL fo 0 (bp pk).toInt64))]) 1 6 := by
  intro sz
  refine x_metW (cc := cL_pick) (maxL := 5) (ret := (some .int)) (by decide +kernel) rfl (by show _ ≤ _; simp [lg_sl, Value.category]) [(0, .ref x), (1, .int (nI pk)), (2, .int (nI 0)), (3, .ref out)] rfl ?_
  intro p e s m args below meth c Q A H0 C hK hNW hlk hrt hnm hQ hH0 hAA hA hZ hNC htab
  refine x_aload_n C dL_pick_0 rfl 3 rfl ?_
  refine x_iconst C (nI 0) dL_pick_1 (by decide +kernel) ?_
  refine x_aload_n C dL_pick_2 rfl 0 rfl ?_
  refine x_iload_n C dL_pick_3 rfl 1 rfl ?_
  refine x_iload_n C dL_pick_4 rfl 2 rfl ?_
  refine x_calli (x_runV C hK hNW (c_pickT l D tys cI cJ hI hJ x qw qv qt ri qd qc ql pa po np bp cp ti pk (by first | omega | assumption) (by first | omega | assumption)) (cwV 2 C.2.2.2.2 gL_pick_X4_pick rfl rfl rfl (by decide +kernel) ⟨by decide, by decide⟩) [0, 1, 2, 3, 4] rfl (by decide) 0 4 rfl rfl rfl (st := [.int (nI 0), .ref out]) rfl rfl (Nat.le_of_ble_eq_true rfl) dL_pick_5 ⟨by first | decide | omega, by first | decide | omega⟩) hA [0, 1, 2, 3, 4] rfl [5] [(out, AJ cJ 1 fo)] rfl (by decide) (by decide) [1, 2, 3, 4, 5, 0] (by decide) (wf := (fun (u : Unit) => [(x, OB 4 [.ref qw, .ref qv, .ref qt, .int ri, .ref qd, .ref qc, .ref ql]), (qv, OB 3 [.ref pa, .ref po, .int (nI np)]), (pa, AI cI 40 bp), (po, AI cI 40 cp), (qt, AI cI 10 ti), (out, AJ cJ 1 fo)])) (fun _ => rfl) (fun r_1 u h_2 => ?_)
  subst h_2
  refine x_i2l C _ dL_pick_8 rfl ?_
  refine x_last C hK 5 1 rfl hJ (by omega) (by omega) [(x, OB 4 [.ref qw, .ref qv, .ref qt, .int ri, .ref qd, .ref qc, .ref ql]), (qv, OB 3 [.ref pa, .ref po, .int (nI np)]), (pa, AI cI 40 bp), (po, AI cI 40 cp), (qt, AI cI 10 ti), (out, AJ cJ 1 (vp_updL fo 0 ((bp pk).toInt64)))] rfl dL_pick_9 ?_
  refine x_goto C 17 dL_pick_10 (by decide) ?_
  refine x_iconst C (nI 0) dL_pick_17 (by decide +kernel) ?_
  refine x_iret C hK hlk hrt hQ hH0 hAA () ?_ [0, 1, 2, 3, 4, 5] (by decide) rfl (by first | decide | omega) (by first | decide | omega) dL_pick_18
  first | rfl | (exact ⟨rfl, rfl⟩) | trivial | assumption | omega
abbrev rm_w_pickC : Room := { frames := 3, cells := 1, slots := 6, locals := 64 }
set_option maxRecDepth 100000 in
set_option maxHeartbeats 4000000 in
theorem c_w_pickC (l : Launch) (hl0 : l.stackTraces = false) (D : va_G) (tys : List (ClassId × FieldType)) (cI cJ : ClassId) (hI : tys[0]? = some (cI, .int)) (hJ : tys[1]? = some (cJ, .long)) (x : Nat) (qw : Nat) (qv : Nat) (qt : Nat) (ri : Int32) (qd : Nat) (qc : Nat) (ql : Nat) (pa : Nat) (po : Nat) (np : Nat) (bp : Nat → Int32) (cp : Nat → Int32) (ti : Nat → Int32) (pk : Nat) (out : Nat) (fo : Nat → Int64) (hnp : np ≤ 40) (hpk : pk < np) : MIW l yL_pick wsL_pick rm_w_pickC D tys [.ref x, .int (nI pk), .int (nI 1), .ref out] [(x, OB 4 [.ref qw, .ref qv, .ref qt, .int ri, .ref qd, .ref qc, .ref ql]), (qv, OB 3 [.ref pa, .ref po, .int (nI np)]), (pa, AI cI 40 bp), (po, AI cI 40 cp), (qt, AI cI 10 ti), (out, AJ cJ 1 fo)] Unit (fun r (_ : Unit) => r = nI 0) (fun (_ : Unit) => [(x, OB 4 [.ref qw, .ref qv, .ref qt, .int ri, .ref qd, .ref qc, .ref ql]), (qv, OB 3 [.ref pa, .ref po, .int (nI np)]), (pa, AI cI 40 bp), (po, AI cI 40 cp), (qt, AI cI 10 ti), (out, AJ cJ 1 (vp_updL fo 0 (cp pk).toInt64))]) 1 6 := by
  intro sz
  refine x_metW (cc := cL_pick) (maxL := 5) (ret := (some .int)) (by decide +kernel) rfl (by show _ ≤ _; simp [lg_sl, Value.category]) [(0, .ref x), (1, .int (nI pk)), (2, .int (nI 1)), (3, .ref out)] rfl ?_
  intro p e s m args below meth c Q A H0 C hK hNW hlk hrt hnm hQ hH0 hAA hA hZ hNC htab
  refine x_aload_n C dL_pick_0 rfl 3 rfl ?_
  refine x_iconst C (nI 0) dL_pick_1 (by decide +kernel) ?_
  refine x_aload_n C dL_pick_2 rfl 0 rfl ?_
  refine x_iload_n C dL_pick_3 rfl 1 rfl ?_
  refine x_iload_n C dL_pick_4 rfl 2 rfl ?_
  refine x_calli (x_runV C hK hNW (c_pickC l D tys cI cJ hI hJ x qw qv qt ri qd qc ql pa po np bp cp ti pk (by first | omega | assumption) (by first | omega | assumption)) (cwV 2 C.2.2.2.2 gL_pick_X4_pick rfl rfl rfl (by decide +kernel) ⟨by decide, by decide⟩) [0, 1, 2, 3, 4] rfl (by decide) 0 4 rfl rfl rfl (st := [.int (nI 0), .ref out]) rfl rfl (Nat.le_of_ble_eq_true rfl) dL_pick_5 ⟨by first | decide | omega, by first | decide | omega⟩) hA [0, 1, 2, 3, 4] rfl [5] [(out, AJ cJ 1 fo)] rfl (by decide) (by decide) [1, 2, 3, 4, 5, 0] (by decide) (wf := (fun (u : Unit) => [(x, OB 4 [.ref qw, .ref qv, .ref qt, .int ri, .ref qd, .ref qc, .ref ql]), (qv, OB 3 [.ref pa, .ref po, .int (nI np)]), (pa, AI cI 40 bp), (po, AI cI 40 cp), (qt, AI cI 10 ti), (out, AJ cJ 1 fo)])) (fun _ => rfl) (fun r_1 u h_2 => ?_)
  subst h_2
  refine x_i2l C _ dL_pick_8 rfl ?_
  refine x_last C hK 5 1 rfl hJ (by omega) (by omega) [(x, OB 4 [.ref qw, .ref qv, .ref qt, .int ri, .ref qd, .ref qc, .ref ql]), (qv, OB 3 [.ref pa, .ref po, .int (nI np)]), (pa, AI cI 40 bp), (po, AI cI 40 cp), (qt, AI cI 10 ti), (out, AJ cJ 1 (vp_updL fo 0 ((cp pk).toInt64)))] rfl dL_pick_9 ?_
  refine x_goto C 17 dL_pick_10 (by decide) ?_
  refine x_iconst C (nI 0) dL_pick_17 (by decide +kernel) ?_
  refine x_iret C hK hlk hrt hQ hH0 hAA () ?_ [0, 1, 2, 3, 4, 5] (by decide) rfl (by first | decide | omega) (by first | decide | omega) dL_pick_18
  first | rfl | (exact ⟨rfl, rfl⟩) | trivial | assumption | omega
abbrev rm_w_pickM : Room := { frames := 3, cells := 1, slots := 6, locals := 67 }
set_option maxRecDepth 100000 in
set_option maxHeartbeats 4000000 in
theorem c_w_pickM (l : Launch) (hl0 : l.stackTraces = false) (D : va_G) (tys : List (ClassId × FieldType)) (cI cJ : ClassId) (hI : tys[0]? = some (cI, .int)) (hJ : tys[1]? = some (cJ, .long)) (x : Nat) (qw : Nat) (qv : Nat) (qt : Nat) (ri : Int32) (qd : Nat) (qc : Nat) (ql : Nat) (pa : Nat) (po : Nat) (np : Nat) (bp : Nat → Int32) (cp : Nat → Int32) (ti : Nat → Int32) (pk : Nat) (out : Nat) (fo : Nat → Int64) (hnp : np ≤ 40) (hpk : pk < np) : MIW l yL_pick wsL_pick rm_w_pickM D tys [.ref x, .int (nI pk), .int (nI 2), .ref out] [(x, OB 4 [.ref qw, .ref qv, .ref qt, .int ri, .ref qd, .ref qc, .ref ql]), (qv, OB 3 [.ref pa, .ref po, .int (nI np)]), (pa, AI cI 40 bp), (po, AI cI 40 cp), (qt, AI cI 10 ti), (out, AJ cJ 1 fo)] Unit (fun r (_ : Unit) => r = nI 0) (fun (_ : Unit) => [(x, OB 4 [.ref qw, .ref qv, .ref qt, .int ri, .ref qd, .ref qc, .ref ql]), (qv, OB 3 [.ref pa, .ref po, .int (nI np)]), (pa, AI cI 40 bp), (po, AI cI 40 cp), (qt, AI cI 10 ti), (out, AJ cJ 1 (vp_updL fo 0 (mvF (bp pk) ti 10).toInt64))]) 1 6 := by
  intro sz
  refine x_metW (cc := cL_pick) (maxL := 5) (ret := (some .int)) (by decide +kernel) rfl (by show _ ≤ _; simp [lg_sl, Value.category]) [(0, .ref x), (1, .int (nI pk)), (2, .int (nI 2)), (3, .ref out)] rfl ?_
  intro p e s m args below meth c Q A H0 C hK hNW hlk hrt hnm hQ hH0 hAA hA hZ hNC htab
  refine x_aload_n C dL_pick_0 rfl 3 rfl ?_
  refine x_iconst C (nI 0) dL_pick_1 (by decide +kernel) ?_
  refine x_aload_n C dL_pick_2 rfl 0 rfl ?_
  refine x_iload_n C dL_pick_3 rfl 1 rfl ?_
  refine x_iload_n C dL_pick_4 rfl 2 rfl ?_
  refine x_calli (x_runV C hK hNW (c_pickM l D tys cI cJ hI hJ x qw qv qt ri qd qc ql pa po np bp cp ti pk (by first | omega | assumption) (by first | omega | assumption)) (cwV 2 C.2.2.2.2 gL_pick_X4_pick rfl rfl rfl (by decide +kernel) ⟨by decide, by decide⟩) [0, 1, 2, 3, 4] rfl (by decide) 0 4 rfl rfl rfl (st := [.int (nI 0), .ref out]) rfl rfl (Nat.le_of_ble_eq_true rfl) dL_pick_5 ⟨by first | decide | omega, by first | decide | omega⟩) hA [0, 1, 2, 3, 4] rfl [5] [(out, AJ cJ 1 fo)] rfl (by decide) (by decide) [1, 2, 3, 4, 5, 0] (by decide) (wf := (fun (u : Unit) => [(x, OB 4 [.ref qw, .ref qv, .ref qt, .int ri, .ref qd, .ref qc, .ref ql]), (qv, OB 3 [.ref pa, .ref po, .int (nI np)]), (pa, AI cI 40 bp), (po, AI cI 40 cp), (qt, AI cI 10 ti), (out, AJ cJ 1 fo)])) (fun _ => rfl) (fun r_1 u h_2 => ?_)
  subst h_2
  refine x_i2l C _ dL_pick_8 rfl ?_
  refine x_last C hK 5 1 rfl hJ (by omega) (by omega) [(x, OB 4 [.ref qw, .ref qv, .ref qt, .int ri, .ref qd, .ref qc, .ref ql]), (qv, OB 3 [.ref pa, .ref po, .int (nI np)]), (pa, AI cI 40 bp), (po, AI cI 40 cp), (qt, AI cI 10 ti), (out, AJ cJ 1 (vp_updL fo 0 ((mvF (bp pk) ti 10).toInt64)))] rfl dL_pick_9 ?_
  refine x_goto C 17 dL_pick_10 (by decide) ?_
  refine x_iconst C (nI 0) dL_pick_17 (by decide +kernel) ?_
  refine x_iret C hK hlk hrt hQ hH0 hAA () ?_ [0, 1, 2, 3, 4, 5] (by decide) rfl (by first | decide | omega) (by first | decide | omega) dL_pick_18
  first | rfl | (exact ⟨rfl, rfl⟩) | trivial | assumption | omega
abbrev rm_w_pickX : Room := { frames := 7, cells := 1, slots := 6, locals := 103 }
set_option maxRecDepth 100000 in
set_option maxHeartbeats 4000000 in
theorem c_w_pickX (l : Launch) (hl0 : l.stackTraces = false) (D : va_G) (tys : List (ClassId × FieldType)) (cI cJ : ClassId) (hI : tys[0]? = some (cI, .int)) (hJ : tys[1]? = some (cJ, .long)) (x : Nat) (qw : Nat) (qv : Nat) (qt : Nat) (ri : Int32) (qd : Nat) (qc : Nat) (ql : Nat) (pa : Nat) (po : Nat) (np : Nat) (bp : Nat → Int32) (cp : Nat → Int32) (pk : Int32) (wt : Int32) (out : Nat) (fo : Nat → Int64) (hnp : np ≤ 40) (hx : ¬ (below pk np = true ∧ below wt 3 = true)) : MIW l yL_pick wsL_pick rm_w_pickX D tys [.ref x, .int pk, .int wt, .ref out] [(x, OB 4 [.ref qw, .ref qv, .ref qt, .int ri, .ref qd, .ref qc, .ref ql]), (qv, OB 3 [.ref pa, .ref po, .int (nI np)]), (pa, AI cI 40 bp), (po, AI cI 40 cp), (out, AJ cJ 1 fo)] Unit (fun r (_ : Unit) => r = nI 1) (fun (_ : Unit) => [(x, OB 4 [.ref qw, .ref qv, .ref qt, .int ri, .ref qd, .ref qc, .ref ql]), (qv, OB 3 [.ref pa, .ref po, .int (nI np)]), (pa, AI cI 40 bp), (po, AI cI 40 cp), (out, AJ cJ 1 fo)]) 1 6 := by
  intro sz
  refine x_metW (cc := cL_pick) (maxL := 5) (ret := (some .int)) (by decide +kernel) rfl (by show _ ≤ _; simp [lg_sl, Value.category]) [(0, .ref x), (1, .int pk), (2, .int wt), (3, .ref out)] rfl ?_
  intro p e s m args below meth c Q A H0 C hK hNW hlk hrt hnm hQ hH0 hAA hA hZ hNC htab
  refine x_aload_n C dL_pick_0 rfl 3 rfl ?_
  refine x_iconst C (nI 0) dL_pick_1 (by decide +kernel) ?_
  refine x_aload_n C dL_pick_2 rfl 0 rfl ?_
  refine x_iload_n C dL_pick_3 rfl 1 rfl ?_
  refine x_iload_n C dL_pick_4 rfl 2 rfl ?_
  refine x_callXi (x_runVX C hK hNW hH0 hZ hA (c_pickX l hl0 D tys cI cJ hI hJ x qw qv qt ri qd qc ql pa po np bp cp pk wt (by first | omega | assumption) (by first | omega | assumption)) (cwV 2 C.2.2.2.2 gL_pick_X4_pick rfl rfl rfl (by decide +kernel) ⟨by decide, by decide⟩) [0, 1, 2, 3] rfl (by decide) 0 4 rfl rfl rfl (st := [.int (nI 0), .ref out]) rfl rfl (Nat.le_of_ble_eq_true rfl) dL_pick_5 ⟨by first | decide | omega, by first | decide | omega⟩) hA [0, 1, 2, 3] rfl [4] [(out, AJ cJ 1 fo)] rfl (by decide) (by decide) [1, 2, 3, 4, 0] (by decide) (wf := fun _ => [(x, OB 4 [.ref qw, .ref qv, .ref qt, .int ri, .ref qd, .ref qc, .ref ql]), (qv, OB 3 [.ref pa, .ref po, .int (nI np)]), (pa, AI cI 40 bp), (po, AI cI 40 cp), (out, AJ cJ 1 fo)]) (fun _ => rfl) (wsx := [(x, OB 4 [.ref qw, .ref qv, .ref qt, .int ri, .ref qd, .ref qc, .ref ql]), (qv, OB 3 [.ref pa, .ref po, .int (nI np)]), (pa, AI cI 40 bp), (po, AI cI 40 cp), (out, AJ cJ 1 fo)]) rfl (fun E9 hE9 => ?_) (fun _ _ hf9 => False.elim hf9)
  have hE8 : E9 = "java/lang/IndexOutOfBoundsException" := hE9
  subst hE8
  refine x_catch C hNW (name := "java/lang/IndexOutOfBoundsException") [] ⟨0, 10, 13, 23⟩ [] htab (fun z hz => by cases hz) (by decide) (by decide) (by decide +kernel) 45 rfl 13 rfl (fun qx_3 => ?_)
  refine x_astore C [(4, .ref qx_3), (0, .ref x), (1, .int pk), (2, .int wt), (3, .ref out)] dL_pick_13 (by decide) rfl ?_
  refine x_iconst C (nI 1) dL_pick_15 (by decide +kernel) ?_
  refine x_iret C hK hlk hrt hQ hH0 hAA () ?_ [0, 1, 2, 3, 4] (by decide) rfl (by first | decide | omega) (by first | decide | omega) dL_pick_16
  first | rfl | (exact ⟨rfl, rfl⟩) | trivial | assumption | omega
abbrev rm_w_rotateZ1 : Room := { frames := 2, cells := 1, slots := 6, locals := 45 }
set_option maxRecDepth 100000 in
set_option maxHeartbeats 4000000 in
theorem c_w_rotateZ1 (l : Launch) (hl0 : l.stackTraces = false) (D : va_G) (tys : List (ClassId × FieldType)) (cI cJ : ClassId) (hI : tys[0]? = some (cI, .int)) (hJ : tys[1]? = some (cJ, .long)) (x : Nat) (qw : Nat) (qv : Nat) (qt : Nat) (ri : Int32) (qd : Nat) (qc : Nat) (ql : Nat) (wa : Nat) (wo : Nat) (bw : Nat → Int32) (cw : Nat → Int32) (pl : Nat) (out : Nat) (fo : Nat → Int64) (hpl : pl ≤ 40) : MIW l yL_rotate wsL_rotate rm_w_rotateZ1 D tys [.ref x, .int (nI 1), .int (nI pl), .ref out] [(x, OB 4 [.ref qw, .ref qv, .ref qt, .int ri, .ref qd, .ref qc, .ref ql]), (qw, OB 3 [.ref wa, .ref wo, .int (nI 0)]), (wa, AI cI 40 bw), (wo, AI cI 40 cw), (out, AJ cJ 1 fo)] Unit (fun r (_ : Unit) => r = nI 0) (fun (_ : Unit) => [(x, OB 4 [.ref qw, .ref qv, .ref qt, .int ri, .ref qd, .ref qc, .ref ql]), (qw, OB 3 [.ref wa, .ref wo, .int (nI 0)]), (wa, AI cI 40 bw), (wo, AI cI 40 cw), (out, AJ cJ 1 (vp_updL fo 0 (nI 0).toInt64))]) 1 6 := by
  intro sz
  refine x_metW (cc := cL_rotate) (maxL := 5) (ret := (some .int)) (by decide +kernel) rfl (by show _ ≤ _; simp [lg_sl, Value.category]) [(0, .ref x), (1, .int (nI 1)), (2, .int (nI pl)), (3, .ref out)] rfl ?_
  intro p e s m args below meth c Q A H0 C hK hNW hlk hrt hnm hQ hH0 hAA hA hZ hNC htab
  refine x_aload_n C dL_rotate_0 rfl 3 rfl ?_
  refine x_iconst C (nI 0) dL_rotate_1 (by decide +kernel) ?_
  refine x_aload_n C dL_rotate_2 rfl 0 rfl ?_
  refine x_iload_n C dL_rotate_3 rfl 1 rfl ?_
  refine x_iload_n C dL_rotate_4 rfl 2 rfl ?_
  refine x_calli (x_runV C hK hNW (c_rotateZ1 l D tys cI cJ hI hJ x qw qv qt ri qd qc ql wa wo bw cw pl (by first | omega | assumption)) (cwV 2 C.2.2.2.2 gL_rotate_X4_rotate rfl rfl rfl (by decide +kernel) ⟨by decide, by decide⟩) [0, 1, 2, 3] rfl (by decide) 0 4 rfl rfl rfl (st := [.int (nI 0), .ref out]) rfl rfl (Nat.le_of_ble_eq_true rfl) dL_rotate_5 ⟨by first | decide | omega, by first | decide | omega⟩) hA [0, 1, 2, 3] rfl [4] [(out, AJ cJ 1 fo)] rfl (by decide) (by decide) [1, 2, 3, 4, 0] (by decide) (wf := (fun (u : Unit) => [(x, OB 4 [.ref qw, .ref qv, .ref qt, .int ri, .ref qd, .ref qc, .ref ql]), (qw, OB 3 [.ref wa, .ref wo, .int (nI 0)]), (wa, AI cI 40 bw), (wo, AI cI 40 cw), (out, AJ cJ 1 fo)])) (fun _ => rfl) (fun r_1 u h_2 => ?_)
  subst h_2
  refine x_i2l C _ dL_rotate_8 rfl ?_
  refine x_last C hK 4 1 rfl hJ (by omega) (by omega) [(x, OB 4 [.ref qw, .ref qv, .ref qt, .int ri, .ref qd, .ref qc, .ref ql]), (qw, OB 3 [.ref wa, .ref wo, .int (nI 0)]), (wa, AI cI 40 bw), (wo, AI cI 40 cw), (out, AJ cJ 1 (vp_updL fo 0 ((nI 0).toInt64)))] rfl dL_rotate_9 ?_
  refine x_goto C 17 dL_rotate_10 (by decide) ?_
  refine x_iconst C (nI 0) dL_rotate_17 (by decide +kernel) ?_
  refine x_iret C hK hlk hrt hQ hH0 hAA () ?_ [0, 1, 2, 3, 4] (by decide) rfl (by first | decide | omega) (by first | decide | omega) dL_rotate_18
  first | rfl | (exact ⟨rfl, rfl⟩) | trivial | assumption | omega
abbrev rm_w_rotateA1 : Room := { frames := 4, cells := 1, slots := 6, locals := 93 }
set_option maxRecDepth 100000 in
set_option maxHeartbeats 4000000 in
theorem c_w_rotateA1 (l : Launch) (hl0 : l.stackTraces = false) (D : va_G) (tys : List (ClassId × FieldType)) (cI cJ : ClassId) (hI : tys[0]? = some (cI, .int)) (hJ : tys[1]? = some (cJ, .long)) (x : Nat) (qw : Nat) (qv : Nat) (qt : Nat) (ri : Int32) (qd : Nat) (qc : Nat) (ql : Nat) (wa : Nat) (wo : Nat) (nw : Nat) (bw : Nat → Int32) (cw : Nat → Int32) (pl : Nat) (out : Nat) (fo : Nat → Int64) (hnw : nw ≤ 40) (hpl : pl ≤ 40) (h0 : 0 < nw) (hm : 0 < pl % nw) : MIW l yL_rotate wsL_rotate rm_w_rotateA1 D tys [.ref x, .int (nI 1), .int (nI pl), .ref out] [(x, OB 4 [.ref qw, .ref qv, .ref qt, .int ri, .ref qd, .ref qc, .ref ql]), (qw, OB 3 [.ref wa, .ref wo, .int (nI nw)]), (wa, AI cI 40 bw), (wo, AI cI 40 cw), (out, AJ cJ 1 fo)] Unit (fun r (_ : Unit) => r = nI 0) (fun (_ : Unit) => [(x, OB 4 [.ref qw, .ref qv, .ref qt, .int ri, .ref qd, .ref qc, .ref ql]), (qw, OB 3 [.ref wa, .ref wo, .int (nI nw)]), (wa, AI cI 40 (rvF (rvF (rvF bw 0 nw) 0 (pl % nw)) (pl % nw) nw)), (wo, AI cI 40 (rvF (rvF (rvF cw 0 nw) 0 (pl % nw)) (pl % nw) nw)), (out, AJ cJ 1 (vp_updL fo 0 (nI nw).toInt64))]) 1 6 := by
  intro sz
  refine x_metW (cc := cL_rotate) (maxL := 5) (ret := (some .int)) (by decide +kernel) rfl (by show _ ≤ _; simp [lg_sl, Value.category]) [(0, .ref x), (1, .int (nI 1)), (2, .int (nI pl)), (3, .ref out)] rfl ?_
  intro p e s m args below meth c Q A H0 C hK hNW hlk hrt hnm hQ hH0 hAA hA hZ hNC htab
  refine x_aload_n C dL_rotate_0 rfl 3 rfl ?_
  refine x_iconst C (nI 0) dL_rotate_1 (by decide +kernel) ?_
  refine x_aload_n C dL_rotate_2 rfl 0 rfl ?_
  refine x_iload_n C dL_rotate_3 rfl 1 rfl ?_
  refine x_iload_n C dL_rotate_4 rfl 2 rfl ?_
  refine x_calli (x_runV C hK hNW (c_rotateA1 l D tys cI cJ hI hJ x qw qv qt ri qd qc ql wa wo nw bw cw pl (by first | omega | assumption) (by first | omega | assumption) (by first | omega | assumption) (by first | omega | assumption)) (cwV 2 C.2.2.2.2 gL_rotate_X4_rotate rfl rfl rfl (by decide +kernel) ⟨by decide, by decide⟩) [0, 1, 2, 3] rfl (by decide) 0 4 rfl rfl rfl (st := [.int (nI 0), .ref out]) rfl rfl (Nat.le_of_ble_eq_true rfl) dL_rotate_5 ⟨by first | decide | omega, by first | decide | omega⟩) hA [0, 1, 2, 3] rfl [4] [(out, AJ cJ 1 fo)] rfl (by decide) (by decide) [1, 2, 3, 4, 0] (by decide) (wf := (fun (u : Unit) => [(x, OB 4 [.ref qw, .ref qv, .ref qt, .int ri, .ref qd, .ref qc, .ref ql]), (qw, OB 3 [.ref wa, .ref wo, .int (nI nw)]), (wa, AI cI 40 (rvF (rvF (rvF bw 0 nw) 0 (pl % nw)) (pl % nw) nw)), (wo, AI cI 40 (rvF (rvF (rvF cw 0 nw) 0 (pl % nw)) (pl % nw) nw)), (out, AJ cJ 1 fo)])) (fun _ => rfl) (fun r_1 u h_2 => ?_)
  subst h_2
  refine x_i2l C _ dL_rotate_8 rfl ?_
  refine x_last C hK 4 1 rfl hJ (by omega) (by omega) [(x, OB 4 [.ref qw, .ref qv, .ref qt, .int ri, .ref qd, .ref qc, .ref ql]), (qw, OB 3 [.ref wa, .ref wo, .int (nI nw)]), (wa, AI cI 40 (rvF (rvF (rvF bw 0 nw) 0 (pl % nw)) (pl % nw) nw)), (wo, AI cI 40 (rvF (rvF (rvF cw 0 nw) 0 (pl % nw)) (pl % nw) nw)), (out, AJ cJ 1 (vp_updL fo 0 ((nI nw).toInt64)))] rfl dL_rotate_9 ?_
  refine x_goto C 17 dL_rotate_10 (by decide) ?_
  refine x_iconst C (nI 0) dL_rotate_17 (by decide +kernel) ?_
  refine x_iret C hK hlk hrt hQ hH0 hAA () ?_ [0, 1, 2, 3, 4] (by decide) rfl (by first | decide | omega) (by first | decide | omega) dL_rotate_18
  first | rfl | (exact ⟨rfl, rfl⟩) | trivial | assumption | omega
abbrev rm_w_rotateB1 : Room := { frames := 4, cells := 1, slots := 6, locals := 93 }
set_option maxRecDepth 100000 in
set_option maxHeartbeats 4000000 in
theorem c_w_rotateB1 (l : Launch) (hl0 : l.stackTraces = false) (D : va_G) (tys : List (ClassId × FieldType)) (cI cJ : ClassId) (hI : tys[0]? = some (cI, .int)) (hJ : tys[1]? = some (cJ, .long)) (x : Nat) (qw : Nat) (qv : Nat) (qt : Nat) (ri : Int32) (qd : Nat) (qc : Nat) (ql : Nat) (wa : Nat) (wo : Nat) (nw : Nat) (bw : Nat → Int32) (cw : Nat → Int32) (pl : Nat) (out : Nat) (fo : Nat → Int64) (hnw : nw ≤ 40) (hpl : pl ≤ 40) (h0 : 0 < nw) (hm : pl % nw = 0) : MIW l yL_rotate wsL_rotate rm_w_rotateB1 D tys [.ref x, .int (nI 1), .int (nI pl), .ref out] [(x, OB 4 [.ref qw, .ref qv, .ref qt, .int ri, .ref qd, .ref qc, .ref ql]), (qw, OB 3 [.ref wa, .ref wo, .int (nI nw)]), (wa, AI cI 40 bw), (wo, AI cI 40 cw), (out, AJ cJ 1 fo)] Unit (fun r (_ : Unit) => r = nI 0) (fun (_ : Unit) => [(x, OB 4 [.ref qw, .ref qv, .ref qt, .int ri, .ref qd, .ref qc, .ref ql]), (qw, OB 3 [.ref wa, .ref wo, .int (nI nw)]), (wa, AI cI 40 (rvF (rvF bw 0 nw) 0 nw)), (wo, AI cI 40 (rvF (rvF cw 0 nw) 0 nw)), (out, AJ cJ 1 (vp_updL fo 0 (nI nw).toInt64))]) 1 6 := by
  intro sz
  refine x_metW (cc := cL_rotate) (maxL := 5) (ret := (some .int)) (by decide +kernel) rfl (by show _ ≤ _; simp [lg_sl, Value.category]) [(0, .ref x), (1, .int (nI 1)), (2, .int (nI pl)), (3, .ref out)] rfl ?_
  intro p e s m args below meth c Q A H0 C hK hNW hlk hrt hnm hQ hH0 hAA hA hZ hNC htab
  refine x_aload_n C dL_rotate_0 rfl 3 rfl ?_
  refine x_iconst C (nI 0) dL_rotate_1 (by decide +kernel) ?_
  refine x_aload_n C dL_rotate_2 rfl 0 rfl ?_
  refine x_iload_n C dL_rotate_3 rfl 1 rfl ?_
  refine x_iload_n C dL_rotate_4 rfl 2 rfl ?_
  refine x_calli (x_runV C hK hNW (c_rotateB1 l D tys cI cJ hI hJ x qw qv qt ri qd qc ql wa wo nw bw cw pl (by first | omega | assumption) (by first | omega | assumption) (by first | omega | assumption) (by first | omega | assumption)) (cwV 2 C.2.2.2.2 gL_rotate_X4_rotate rfl rfl rfl (by decide +kernel) ⟨by decide, by decide⟩) [0, 1, 2, 3] rfl (by decide) 0 4 rfl rfl rfl (st := [.int (nI 0), .ref out]) rfl rfl (Nat.le_of_ble_eq_true rfl) dL_rotate_5 ⟨by first | decide | omega, by first | decide | omega⟩) hA [0, 1, 2, 3] rfl [4] [(out, AJ cJ 1 fo)] rfl (by decide) (by decide) [1, 2, 3, 4, 0] (by decide) (wf := (fun (u : Unit) => [(x, OB 4 [.ref qw, .ref qv, .ref qt, .int ri, .ref qd, .ref qc, .ref ql]), (qw, OB 3 [.ref wa, .ref wo, .int (nI nw)]), (wa, AI cI 40 (rvF (rvF bw 0 nw) 0 nw)), (wo, AI cI 40 (rvF (rvF cw 0 nw) 0 nw)), (out, AJ cJ 1 fo)])) (fun _ => rfl) (fun r_1 u h_2 => ?_)
  subst h_2
  refine x_i2l C _ dL_rotate_8 rfl ?_
  refine x_last C hK 4 1 rfl hJ (by omega) (by omega) [(x, OB 4 [.ref qw, .ref qv, .ref qt, .int ri, .ref qd, .ref qc, .ref ql]), (qw, OB 3 [.ref wa, .ref wo, .int (nI nw)]), (wa, AI cI 40 (rvF (rvF bw 0 nw) 0 nw)), (wo, AI cI 40 (rvF (rvF cw 0 nw) 0 nw)), (out, AJ cJ 1 (vp_updL fo 0 ((nI nw).toInt64)))] rfl dL_rotate_9 ?_
  refine x_goto C 17 dL_rotate_10 (by decide) ?_
  refine x_iconst C (nI 0) dL_rotate_17 (by decide +kernel) ?_
  refine x_iret C hK hlk hrt hQ hH0 hAA () ?_ [0, 1, 2, 3, 4] (by decide) rfl (by first | decide | omega) (by first | decide | omega) dL_rotate_18
  first | rfl | (exact ⟨rfl, rfl⟩) | trivial | assumption | omega
abbrev rm_w_rotateZ0 : Room := { frames := 2, cells := 1, slots := 6, locals := 45 }
set_option maxRecDepth 100000 in
set_option maxHeartbeats 4000000 in
theorem c_w_rotateZ0 (l : Launch) (hl0 : l.stackTraces = false) (D : va_G) (tys : List (ClassId × FieldType)) (cI cJ : ClassId) (hI : tys[0]? = some (cI, .int)) (hJ : tys[1]? = some (cJ, .long)) (x : Nat) (qw : Nat) (qv : Nat) (qt : Nat) (ri : Int32) (qd : Nat) (qc : Nat) (ql : Nat) (pa : Nat) (po : Nat) (bp : Nat → Int32) (cp : Nat → Int32) (pl : Nat) (out : Nat) (fo : Nat → Int64) (hpl : pl ≤ 40) : MIW l yL_rotate wsL_rotate rm_w_rotateZ0 D tys [.ref x, .int (nI 0), .int (nI pl), .ref out] [(x, OB 4 [.ref qw, .ref qv, .ref qt, .int ri, .ref qd, .ref qc, .ref ql]), (qv, OB 3 [.ref pa, .ref po, .int (nI 0)]), (pa, AI cI 40 bp), (po, AI cI 40 cp), (out, AJ cJ 1 fo)] Unit (fun r (_ : Unit) => r = nI 0) (fun (_ : Unit) => [(x, OB 4 [.ref qw, .ref qv, .ref qt, .int ri, .ref qd, .ref qc, .ref ql]), (qv, OB 3 [.ref pa, .ref po, .int (nI 0)]), (pa, AI cI 40 bp), (po, AI cI 40 cp), (out, AJ cJ 1 (vp_updL fo 0 (nI 0).toInt64))]) 1 6 := by
  intro sz
  refine x_metW (cc := cL_rotate) (maxL := 5) (ret := (some .int)) (by decide +kernel) rfl (by show _ ≤ _; simp [lg_sl, Value.category]) [(0, .ref x), (1, .int (nI 0)), (2, .int (nI pl)), (3, .ref out)] rfl ?_
  intro p e s m args below meth c Q A H0 C hK hNW hlk hrt hnm hQ hH0 hAA hA hZ hNC htab
  refine x_aload_n C dL_rotate_0 rfl 3 rfl ?_
  refine x_iconst C (nI 0) dL_rotate_1 (by decide +kernel) ?_
  refine x_aload_n C dL_rotate_2 rfl 0 rfl ?_
  refine x_iload_n C dL_rotate_3 rfl 1 rfl ?_
  refine x_iload_n C dL_rotate_4 rfl 2 rfl ?_
  refine x_calli (x_runV C hK hNW (c_rotateZ0 l D tys cI cJ hI hJ x qw qv qt ri qd qc ql pa po bp cp pl (by first | omega | assumption)) (cwV 2 C.2.2.2.2 gL_rotate_X4_rotate rfl rfl rfl (by decide +kernel) ⟨by decide, by decide⟩) [0, 1, 2, 3] rfl (by decide) 0 4 rfl rfl rfl (st := [.int (nI 0), .ref out]) rfl rfl (Nat.le_of_ble_eq_true rfl) dL_rotate_5 ⟨by first | decide | omega, by first | decide | omega⟩) hA [0, 1, 2, 3] rfl [4] [(out, AJ cJ 1 fo)] rfl (by decide) (by decide) [1, 2, 3, 4, 0] (by decide) (wf := (fun (u : Unit) => [(x, OB 4 [.ref qw, .ref qv, .ref qt, .int ri, .ref qd, .ref qc, .ref ql]), (qv, OB 3 [.ref pa, .ref po, .int (nI 0)]), (pa, AI cI 40 bp), (po, AI cI 40 cp), (out, AJ cJ 1 fo)])) (fun _ => rfl) (fun r_1 u h_2 => ?_)
  subst h_2
  refine x_i2l C _ dL_rotate_8 rfl ?_
  refine x_last C hK 4 1 rfl hJ (by omega) (by omega) [(x, OB 4 [.ref qw, .ref qv, .ref qt, .int ri, .ref qd, .ref qc, .ref ql]), (qv, OB 3 [.ref pa, .ref po, .int (nI 0)]), (pa, AI cI 40 bp), (po, AI cI 40 cp), (out, AJ cJ 1 (vp_updL fo 0 ((nI 0).toInt64)))] rfl dL_rotate_9 ?_
  refine x_goto C 17 dL_rotate_10 (by decide) ?_
  refine x_iconst C (nI 0) dL_rotate_17 (by decide +kernel) ?_
  refine x_iret C hK hlk hrt hQ hH0 hAA () ?_ [0, 1, 2, 3, 4] (by decide) rfl (by first | decide | omega) (by first | decide | omega) dL_rotate_18
  first | rfl | (exact ⟨rfl, rfl⟩) | trivial | assumption | omega
abbrev rm_w_rotateA0 : Room := { frames := 4, cells := 1, slots := 6, locals := 93 }
set_option maxRecDepth 100000 in
set_option maxHeartbeats 4000000 in
theorem c_w_rotateA0 (l : Launch) (hl0 : l.stackTraces = false) (D : va_G) (tys : List (ClassId × FieldType)) (cI cJ : ClassId) (hI : tys[0]? = some (cI, .int)) (hJ : tys[1]? = some (cJ, .long)) (x : Nat) (qw : Nat) (qv : Nat) (qt : Nat) (ri : Int32) (qd : Nat) (qc : Nat) (ql : Nat) (pa : Nat) (po : Nat) (np : Nat) (bp : Nat → Int32) (cp : Nat → Int32) (pl : Nat) (out : Nat) (fo : Nat → Int64) (hnp : np ≤ 40) (hpl : pl ≤ 40) (h0 : 0 < np) (hm : 0 < pl % np) : MIW l yL_rotate wsL_rotate rm_w_rotateA0 D tys [.ref x, .int (nI 0), .int (nI pl), .ref out] [(x, OB 4 [.ref qw, .ref qv, .ref qt, .int ri, .ref qd, .ref qc, .ref ql]), (qv, OB 3 [.ref pa, .ref po, .int (nI np)]), (pa, AI cI 40 bp), (po, AI cI 40 cp), (out, AJ cJ 1 fo)] Unit (fun r (_ : Unit) => r = nI 0) (fun (_ : Unit) => [(x, OB 4 [.ref qw, .ref qv, .ref qt, .int ri, .ref qd, .ref qc, .ref ql]), (qv, OB 3 [.ref pa, .ref po, .int (nI np)]), (pa, AI cI 40 (rvF (rvF (rvF bp 0 np) 0 (pl % np)) (pl % np) np)), (po, AI cI 40 (rvF (rvF (rvF cp 0 np) 0 (pl % np)) (pl % np) np)), (out, AJ cJ 1 (vp_updL fo 0 (nI np).toInt64))]) 1 6 := by
  intro sz
  refine x_metW (cc := cL_rotate) (maxL := 5) (ret := (some .int)) (by decide +kernel) rfl (by show _ ≤ _; simp [lg_sl, Value.category]) [(0, .ref x), (1, .int (nI 0)), (2, .int (nI pl)), (3, .ref out)] rfl ?_
  intro p e s m args below meth c Q A H0 C hK hNW hlk hrt hnm hQ hH0 hAA hA hZ hNC htab
  refine x_aload_n C dL_rotate_0 rfl 3 rfl ?_
  refine x_iconst C (nI 0) dL_rotate_1 (by decide +kernel) ?_
  refine x_aload_n C dL_rotate_2 rfl 0 rfl ?_
  refine x_iload_n C dL_rotate_3 rfl 1 rfl ?_
  refine x_iload_n C dL_rotate_4 rfl 2 rfl ?_
  refine x_calli (x_runV C hK hNW (c_rotateA0 l D tys cI cJ hI hJ x qw qv qt ri qd qc ql pa po np bp cp pl (by first | omega | assumption) (by first | omega | assumption) (by first | omega | assumption) (by first | omega | assumption)) (cwV 2 C.2.2.2.2 gL_rotate_X4_rotate rfl rfl rfl (by decide +kernel) ⟨by decide, by decide⟩) [0, 1, 2, 3] rfl (by decide) 0 4 rfl rfl rfl (st := [.int (nI 0), .ref out]) rfl rfl (Nat.le_of_ble_eq_true rfl) dL_rotate_5 ⟨by first | decide | omega, by first | decide | omega⟩) hA [0, 1, 2, 3] rfl [4] [(out, AJ cJ 1 fo)] rfl (by decide) (by decide) [1, 2, 3, 4, 0] (by decide) (wf := (fun (u : Unit) => [(x, OB 4 [.ref qw, .ref qv, .ref qt, .int ri, .ref qd, .ref qc, .ref ql]), (qv, OB 3 [.ref pa, .ref po, .int (nI np)]), (pa, AI cI 40 (rvF (rvF (rvF bp 0 np) 0 (pl % np)) (pl % np) np)), (po, AI cI 40 (rvF (rvF (rvF cp 0 np) 0 (pl % np)) (pl % np) np)), (out, AJ cJ 1 fo)])) (fun _ => rfl) (fun r_1 u h_2 => ?_)
  subst h_2
  refine x_i2l C _ dL_rotate_8 rfl ?_
  refine x_last C hK 4 1 rfl hJ (by omega) (by omega) [(x, OB 4 [.ref qw, .ref qv, .ref qt, .int ri, .ref qd, .ref qc, .ref ql]), (qv, OB 3 [.ref pa, .ref po, .int (nI np)]), (pa, AI cI 40 (rvF (rvF (rvF bp 0 np) 0 (pl % np)) (pl % np) np)), (po, AI cI 40 (rvF (rvF (rvF cp 0 np) 0 (pl % np)) (pl % np) np)), (out, AJ cJ 1 (vp_updL fo 0 ((nI np).toInt64)))] rfl dL_rotate_9 ?_
  refine x_goto C 17 dL_rotate_10 (by decide) ?_
  refine x_iconst C (nI 0) dL_rotate_17 (by decide +kernel) ?_
  refine x_iret C hK hlk hrt hQ hH0 hAA () ?_ [0, 1, 2, 3, 4] (by decide) rfl (by first | decide | omega) (by first | decide | omega) dL_rotate_18
  first | rfl | (exact ⟨rfl, rfl⟩) | trivial | assumption | omega
abbrev rm_w_rotateB0 : Room := { frames := 4, cells := 1, slots := 6, locals := 93 }
set_option maxRecDepth 100000 in
set_option maxHeartbeats 4000000 in
theorem c_w_rotateB0 (l : Launch) (hl0 : l.stackTraces = false) (D : va_G) (tys : List (ClassId × FieldType)) (cI cJ : ClassId) (hI : tys[0]? = some (cI, .int)) (hJ : tys[1]? = some (cJ, .long)) (x : Nat) (qw : Nat) (qv : Nat) (qt : Nat) (ri : Int32) (qd : Nat) (qc : Nat) (ql : Nat) (pa : Nat) (po : Nat) (np : Nat) (bp : Nat → Int32) (cp : Nat → Int32) (pl : Nat) (out : Nat) (fo : Nat → Int64) (hnp : np ≤ 40) (hpl : pl ≤ 40) (h0 : 0 < np) (hm : pl % np = 0) : MIW l yL_rotate wsL_rotate rm_w_rotateB0 D tys [.ref x, .int (nI 0), .int (nI pl), .ref out] [(x, OB 4 [.ref qw, .ref qv, .ref qt, .int ri, .ref qd, .ref qc, .ref ql]), (qv, OB 3 [.ref pa, .ref po, .int (nI np)]), (pa, AI cI 40 bp), (po, AI cI 40 cp), (out, AJ cJ 1 fo)] Unit (fun r (_ : Unit) => r = nI 0) (fun (_ : Unit) => [(x, OB 4 [.ref qw, .ref qv, .ref qt, .int ri, .ref qd, .ref qc, .ref ql]), (qv, OB 3 [.ref pa, .ref po, .int (nI np)]), (pa, AI cI 40 (rvF (rvF bp 0 np) 0 np)), (po, AI cI 40 (rvF (rvF cp 0 np) 0 np)), (out, AJ cJ 1 (vp_updL fo 0 (nI np).toInt64))]) 1 6 := by
  intro sz
  refine x_metW (cc := cL_rotate) (maxL := 5) (ret := (some .int)) (by decide +kernel) rfl (by show _ ≤ _; simp [lg_sl, Value.category]) [(0, .ref x), (1, .int (nI 0)), (2, .int (nI pl)), (3, .ref out)] rfl ?_
  intro p e s m args below meth c Q A H0 C hK hNW hlk hrt hnm hQ hH0 hAA hA hZ hNC htab
  refine x_aload_n C dL_rotate_0 rfl 3 rfl ?_
  refine x_iconst C (nI 0) dL_rotate_1 (by decide +kernel) ?_
  refine x_aload_n C dL_rotate_2 rfl 0 rfl ?_
  refine x_iload_n C dL_rotate_3 rfl 1 rfl ?_
  refine x_iload_n C dL_rotate_4 rfl 2 rfl ?_
  refine x_calli (x_runV C hK hNW (c_rotateB0 l D tys cI cJ hI hJ x qw qv qt ri qd qc ql pa po np bp cp pl (by first | omega | assumption) (by first | omega | assumption) (by first | omega | assumption) (by first | omega | assumption)) (cwV 2 C.2.2.2.2 gL_rotate_X4_rotate rfl rfl rfl (by decide +kernel) ⟨by decide, by decide⟩) [0, 1, 2, 3] rfl (by decide) 0 4 rfl rfl rfl (st := [.int (nI 0), .ref out]) rfl rfl (Nat.le_of_ble_eq_true rfl) dL_rotate_5 ⟨by first | decide | omega, by first | decide | omega⟩) hA [0, 1, 2, 3] rfl [4] [(out, AJ cJ 1 fo)] rfl (by decide) (by decide) [1, 2, 3, 4, 0] (by decide) (wf := (fun (u : Unit) => [(x, OB 4 [.ref qw, .ref qv, .ref qt, .int ri, .ref qd, .ref qc, .ref ql]), (qv, OB 3 [.ref pa, .ref po, .int (nI np)]), (pa, AI cI 40 (rvF (rvF bp 0 np) 0 np)), (po, AI cI 40 (rvF (rvF cp 0 np) 0 np)), (out, AJ cJ 1 fo)])) (fun _ => rfl) (fun r_1 u h_2 => ?_)
  subst h_2
  refine x_i2l C _ dL_rotate_8 rfl ?_
  refine x_last C hK 4 1 rfl hJ (by omega) (by omega) [(x, OB 4 [.ref qw, .ref qv, .ref qt, .int ri, .ref qd, .ref qc, .ref ql]), (qv, OB 3 [.ref pa, .ref po, .int (nI np)]), (pa, AI cI 40 (rvF (rvF bp 0 np) 0 np)), (po, AI cI 40 (rvF (rvF cp 0 np) 0 np)), (out, AJ cJ 1 (vp_updL fo 0 ((nI np).toInt64)))] rfl dL_rotate_9 ?_
  refine x_goto C 17 dL_rotate_10 (by decide) ?_
  refine x_iconst C (nI 0) dL_rotate_17 (by decide +kernel) ?_
  refine x_iret C hK hlk hrt hQ hH0 hAA () ?_ [0, 1, 2, 3, 4] (by decide) rfl (by first | decide | omega) (by first | decide | omega) dL_rotate_18
  first | rfl | (exact ⟨rfl, rfl⟩) | trivial | assumption | omega
abbrev rm_w_rotateX : Room := { frames := 7, cells := 1, slots := 6, locals := 104 }
set_option maxRecDepth 100000 in
set_option maxHeartbeats 4000000 in
theorem c_w_rotateX (l : Launch) (hl0 : l.stackTraces = false) (D : va_G) (tys : List (ClassId × FieldType)) (cI cJ : ClassId) (hI : tys[0]? = some (cI, .int)) (hJ : tys[1]? = some (cJ, .long)) (x : Nat) (qw : Nat) (qv : Nat) (qt : Nat) (ri : Int32) (qd : Nat) (qc : Nat) (ql : Nat) (w0 : Int32) (pl : Int32) (out : Nat) (fo : Nat → Int64) (hpl : below pl 41 = false) : MIW l yL_rotate wsL_rotate rm_w_rotateX D tys [.ref x, .int w0, .int pl, .ref out] [(x, OB 4 [.ref qw, .ref qv, .ref qt, .int ri, .ref qd, .ref qc, .ref ql]), (out, AJ cJ 1 fo)] Unit (fun r (_ : Unit) => r = nI 1) (fun (_ : Unit) => [(x, OB 4 [.ref qw, .ref qv, .ref qt, .int ri, .ref qd, .ref qc, .ref ql]), (out, AJ cJ 1 fo)]) 1 6 := by
  intro sz
  refine x_metW (cc := cL_rotate) (maxL := 5) (ret := (some .int)) (by decide +kernel) rfl (by show _ ≤ _; simp [lg_sl, Value.category]) [(0, .ref x), (1, .int w0), (2, .int pl), (3, .ref out)] rfl ?_
  intro p e s m args below meth c Q A H0 C hK hNW hlk hrt hnm hQ hH0 hAA hA hZ hNC htab
  refine x_aload_n C dL_rotate_0 rfl 3 rfl ?_
  refine x_iconst C (nI 0) dL_rotate_1 (by decide +kernel) ?_
  refine x_aload_n C dL_rotate_2 rfl 0 rfl ?_
  refine x_iload_n C dL_rotate_3 rfl 1 rfl ?_
  refine x_iload_n C dL_rotate_4 rfl 2 rfl ?_
  refine x_callXi (x_runVX C hK hNW hH0 hZ hA (c_rotateX l hl0 D tys cI cJ hI hJ x qw qv qt ri qd qc ql w0 pl (by first | omega | assumption)) (cwV 2 C.2.2.2.2 gL_rotate_X4_rotate rfl rfl rfl (by decide +kernel) ⟨by decide, by decide⟩) [0] rfl (by decide) 0 4 rfl rfl rfl (st := [.int (nI 0), .ref out]) rfl rfl (Nat.le_of_ble_eq_true rfl) dL_rotate_5 ⟨by first | decide | omega, by first | decide | omega⟩) hA [0] rfl [1] [(out, AJ cJ 1 fo)] rfl (by decide) (by decide) [1, 0] (by decide) (wf := fun _ => [(x, OB 4 [.ref qw, .ref qv, .ref qt, .int ri, .ref qd, .ref qc, .ref ql]), (out, AJ cJ 1 fo)]) (fun _ => rfl) (wsx := [(x, OB 4 [.ref qw, .ref qv, .ref qt, .int ri, .ref qd, .ref qc, .ref ql]), (out, AJ cJ 1 fo)]) rfl (fun E9 hE9 => ?_) (fun _ _ hf9 => False.elim hf9)
  have hE8 : E9 = "java/lang/IllegalArgumentException" := hE9
  subst hE8
  refine x_catch C hNW (name := "java/lang/IllegalArgumentException") [] ⟨0, 10, 13, 13⟩ [] htab (fun z hz => by cases hz) (by decide) (by decide) (by decide +kernel) 43 rfl 13 rfl (fun qx_3 => ?_)
  refine x_astore C [(4, .ref qx_3), (0, .ref x), (1, .int w0), (2, .int pl), (3, .ref out)] dL_rotate_13 (by decide) rfl ?_
  refine x_iconst C (nI 1) dL_rotate_15 (by decide +kernel) ?_
  refine x_iret C hK hlk hrt hQ hH0 hAA () ?_ [0, 1] (by decide) rfl (by first | decide | omega) (by first | decide | omega) dL_rotate_16
  first | rfl | (exact ⟨rfl, rfl⟩) | trivial | assumption | omega
abbrev rm_w_repeat1 : Room := { frames := 3, cells := 1, slots := 6, locals := 67 }
set_option maxRecDepth 100000 in
set_option maxHeartbeats 4000000 in
theorem c_w_repeat1 (l : Launch) (hl0 : l.stackTraces = false) (D : va_G) (tys : List (ClassId × FieldType)) (cI cJ : ClassId) (hI : tys[0]? = some (cI, .int)) (hJ : tys[1]? = some (cJ, .long)) (x : Nat) (qw : Nat) (qv : Nat) (qt : Nat) (ri : Int32) (qd : Nat) (qc : Nat) (ql : Nat) (wa : Nat) (wo : Nat) (nw : Nat) (bw : Nat → Int32) (cw : Nat → Int32) (out : Nat) (fo : Nat → Int64) (h2 : 2 * nw ≤ 40) : MIW l yL_repeat wsL_repeat rm_w_repeat1 D tys [.ref x, .int (nI 1), .ref out] [(x, OB 4 [.ref qw, .ref qv, .ref qt, .int ri, .ref qd, .ref qc, .ref ql]), (qw, OB 3 [.ref wa, .ref wo, .int (nI nw)]), (wa, AI cI 40 bw), (wo, AI cI 40 cw), (out, AJ cJ 1 fo)] Unit (fun r (_ : Unit) => r = nI 0) (fun (_ : Unit) => [(x, OB 4 [.ref qw, .ref qv, .ref qt, .int ri, .ref qd, .ref qc, .ref ql]), (qw, OB 3 [.ref wa, .ref wo, .int (nI (nw + nw))]), (wa, AI cI 40 (rpF bw nw nw)), (wo, AI cI 40 (rpF cw nw nw)), (out, AJ cJ 1 (vp_updL fo 0 (nI (nw + nw)).toInt64))]) 1 6 := by
  intro sz
  refine x_metW (cc := cL_repeat) (maxL := 4) (ret := (some .int)) (by decide +kernel) rfl (by show _ ≤ _; simp [lg_sl, Value.category]) [(0, .ref x), (1, .int (nI 1)), (2, .ref out)] rfl ?_
  intro p e s m args below meth c Q A H0 C hK hNW hlk hrt hnm hQ hH0 hAA hA hZ hNC htab
  refine x_aload_n C dL_repeat_0 rfl 2 rfl ?_
  refine x_iconst C (nI 0) dL_repeat_1 (by decide +kernel) ?_
  refine x_aload_n C dL_repeat_2 rfl 0 rfl ?_
  refine x_iload_n C dL_repeat_3 rfl 1 rfl ?_
  refine x_calli (x_runV C hK hNW (c_repeat1 l D tys cI cJ hI hJ x qw qv qt ri qd qc ql wa wo nw bw cw (by first | omega | assumption)) (cwV 1 C.2.2.2.2 gL_repeat_X4_repeat rfl rfl rfl (by decide +kernel) ⟨by decide, by decide⟩) [0, 1, 2, 3] rfl (by decide) 0 4 rfl rfl rfl (st := [.int (nI 0), .ref out]) rfl rfl (Nat.le_of_ble_eq_true rfl) dL_repeat_4 ⟨by first | decide | omega, by first | decide | omega⟩) hA [0, 1, 2, 3] rfl [4] [(out, AJ cJ 1 fo)] rfl (by decide) (by decide) [1, 2, 3, 4, 0] (by decide) (wf := (fun (u : Unit) => [(x, OB 4 [.ref qw, .ref qv, .ref qt, .int ri, .ref qd, .ref qc, .ref ql]), (qw, OB 3 [.ref wa, .ref wo, .int (nI (nw + nw))]), (wa, AI cI 40 (rpF bw nw nw)), (wo, AI cI 40 (rpF cw nw nw)), (out, AJ cJ 1 fo)])) (fun _ => rfl) (fun r_1 u h_2 => ?_)
  subst h_2
  refine x_i2l C _ dL_repeat_7 rfl ?_
  refine x_last C hK 4 1 rfl hJ (by omega) (by omega) [(x, OB 4 [.ref qw, .ref qv, .ref qt, .int ri, .ref qd, .ref qc, .ref ql]), (qw, OB 3 [.ref wa, .ref wo, .int (nI (nw + nw))]), (wa, AI cI 40 (rpF bw nw nw)), (wo, AI cI 40 (rpF cw nw nw)), (out, AJ cJ 1 (vp_updL fo 0 ((nI (nw + nw)).toInt64)))] rfl dL_repeat_8 ?_
  refine x_goto C 15 dL_repeat_9 (by decide) ?_
  refine x_iconst C (nI 0) dL_repeat_15 (by decide +kernel) ?_
  refine x_iret C hK hlk hrt hQ hH0 hAA () ?_ [0, 1, 2, 3, 4] (by decide) rfl (by first | decide | omega) (by first | decide | omega) dL_repeat_16
  first | rfl | (exact ⟨rfl, rfl⟩) | trivial | assumption | omega
abbrev rm_w_repeatX1 : Room := { frames := 7, cells := 1, slots := 6, locals := 103 }
set_option maxRecDepth 100000 in
set_option maxHeartbeats 4000000 in
theorem c_w_repeatX1 (l : Launch) (hl0 : l.stackTraces = false) (D : va_G) (tys : List (ClassId × FieldType)) (cI cJ : ClassId) (hI : tys[0]? = some (cI, .int)) (hJ : tys[1]? = some (cJ, .long)) (x : Nat) (qw : Nat) (qv : Nat) (qt : Nat) (ri : Int32) (qd : Nat) (qc : Nat) (ql : Nat) (wa : Nat) (wo : Nat) (nw : Nat) (bw : Nat → Int32) (cw : Nat → Int32) (out : Nat) (fo : Nat → Int64) (hnw : nw ≤ 40) (h2 : 40 < 2 * nw) : MIW l yL_repeat wsL_repeat rm_w_repeatX1 D tys [.ref x, .int (nI 1), .ref out] [(x, OB 4 [.ref qw, .ref qv, .ref qt, .int ri, .ref qd, .ref qc, .ref ql]), (qw, OB 3 [.ref wa, .ref wo, .int (nI nw)]), (wa, AI cI 40 bw), (wo, AI cI 40 cw), (out, AJ cJ 1 fo)] Unit (fun r (_ : Unit) => r = nI 1) (fun (_ : Unit) => [(x, OB 4 [.ref qw, .ref qv, .ref qt, .int ri, .ref qd, .ref qc, .ref ql]), (qw, OB 3 [.ref wa, .ref wo, .int (nI nw)]), (wa, AI cI 40 bw), (wo, AI cI 40 cw), (out, AJ cJ 1 fo)]) 1 6 := by
  intro sz
  refine x_metW (cc := cL_repeat) (maxL := 4) (ret := (some .int)) (by decide +kernel) rfl (by show _ ≤ _; simp [lg_sl, Value.category]) [(0, .ref x), (1, .int (nI 1)), (2, .ref out)] rfl ?_
  intro p e s m args below meth c Q A H0 C hK hNW hlk hrt hnm hQ hH0 hAA hA hZ hNC htab
  refine x_aload_n C dL_repeat_0 rfl 2 rfl ?_
  refine x_iconst C (nI 0) dL_repeat_1 (by decide +kernel) ?_
  refine x_aload_n C dL_repeat_2 rfl 0 rfl ?_
  refine x_iload_n C dL_repeat_3 rfl 1 rfl ?_
  refine x_callXi (x_runVX C hK hNW hH0 hZ hA (c_repeatX1 l hl0 D tys cI cJ hI hJ x qw qv qt ri qd qc ql wa wo nw bw cw (by first | omega | assumption) (by first | omega | assumption)) (cwV 1 C.2.2.2.2 gL_repeat_X4_repeat rfl rfl rfl (by decide +kernel) ⟨by decide, by decide⟩) [0, 1, 2, 3] rfl (by decide) 0 4 rfl rfl rfl (st := [.int (nI 0), .ref out]) rfl rfl (Nat.le_of_ble_eq_true rfl) dL_repeat_4 ⟨by first | decide | omega, by first | decide | omega⟩) hA [0, 1, 2, 3] rfl [4] [(out, AJ cJ 1 fo)] rfl (by decide) (by decide) [1, 2, 3, 4, 0] (by decide) (wf := fun _ => [(x, OB 4 [.ref qw, .ref qv, .ref qt, .int ri, .ref qd, .ref qc, .ref ql]), (qw, OB 3 [.ref wa, .ref wo, .int (nI nw)]), (wa, AI cI 40 bw), (wo, AI cI 40 cw), (out, AJ cJ 1 fo)]) (fun _ => rfl) (wsx := [(x, OB 4 [.ref qw, .ref qv, .ref qt, .int ri, .ref qd, .ref qc, .ref ql]), (qw, OB 3 [.ref wa, .ref wo, .int (nI nw)]), (wa, AI cI 40 bw), (wo, AI cI 40 cw), (out, AJ cJ 1 fo)]) rfl (fun E9 hE9 => ?_) (fun _ _ hf9 => False.elim hf9)
  have hE8 : E9 = "java/lang/IllegalStateException" := hE9
  subst hE8
  refine x_catch C hNW (name := "java/lang/IllegalStateException") [] ⟨0, 9, 12, 15⟩ [] htab (fun z hz => by cases hz) (by decide) (by decide) (by decide +kernel) 44 rfl 12 rfl (fun qx_3 => ?_)
  refine x_astore_n C [(3, .ref qx_3), (0, .ref x), (1, .int (nI 1)), (2, .ref out)] dL_repeat_12 rfl (by decide) rfl ?_
  refine x_iconst C (nI 1) dL_repeat_13 (by decide +kernel) ?_
  refine x_iret C hK hlk hrt hQ hH0 hAA () ?_ [0, 1, 2, 3, 4] (by decide) rfl (by first | decide | omega) (by first | decide | omega) dL_repeat_14
  first | rfl | (exact ⟨rfl, rfl⟩) | trivial | assumption | omega
abbrev rm_w_repeat0 : Room := { frames := 3, cells := 1, slots := 6, locals := 67 }
set_option maxRecDepth 100000 in
set_option maxHeartbeats 4000000 in
theorem c_w_repeat0 (l : Launch) (hl0 : l.stackTraces = false) (D : va_G) (tys : List (ClassId × FieldType)) (cI cJ : ClassId) (hI : tys[0]? = some (cI, .int)) (hJ : tys[1]? = some (cJ, .long)) (x : Nat) (qw : Nat) (qv : Nat) (qt : Nat) (ri : Int32) (qd : Nat) (qc : Nat) (ql : Nat) (pa : Nat) (po : Nat) (np : Nat) (bp : Nat → Int32) (cp : Nat → Int32) (out : Nat) (fo : Nat → Int64) (h2 : 2 * np ≤ 40) : MIW l yL_repeat wsL_repeat rm_w_repeat0 D tys [.ref x, .int (nI 0), .ref out] [(x, OB 4 [.ref qw, .ref qv, .ref qt, .int ri, .ref qd, .ref qc, .ref ql]), (qv, OB 3 [.ref pa, .ref po, .int (nI np)]), (pa, AI cI 40 bp), (po, AI cI 40 cp), (out, AJ cJ 1 fo)] Unit (fun r (_ : Unit) => r = nI 0) (fun (_ : Unit) => [(x, OB 4 [.ref qw, .ref qv, .ref qt, .int ri, .ref qd, .ref qc, .ref ql]), (qv, OB 3 [.ref pa, .ref po, .int (nI (np + np))]), (pa, AI cI 40 (rpF bp np np)), (po, AI cI 40 (rpF cp np np)), (out, AJ cJ 1 (vp_updL fo 0 (nI (np + np)).toInt64))]) 1 6 := by
  intro sz
  refine x_metW (cc := cL_repeat) (maxL := 4) (ret := (some .int)) (by decide +kernel) rfl (by show _ ≤ _; simp [lg_sl, Value.category]) [(0, .ref x), (1, .int (nI 0)), (2, .ref out)] rfl ?_
  intro p e s m args below meth c Q A H0 C hK hNW hlk hrt hnm hQ hH0 hAA hA hZ hNC htab
  refine x_aload_n C dL_repeat_0 rfl 2 rfl ?_
  refine x_iconst C (nI 0) dL_repeat_1 (by decide +kernel) ?_
  refine x_aload_n C dL_repeat_2 rfl 0 rfl ?_
  refine x_iload_n C dL_repeat_3 rfl 1 rfl ?_
  refine x_calli (x_runV C hK hNW (c_repeat0 l D tys cI cJ hI hJ x qw qv qt ri qd qc ql pa po np bp cp (by first | omega | assumption)) (cwV 1 C.2.2.2.2 gL_repeat_X4_repeat rfl rfl rfl (by decide +kernel) ⟨by decide, by decide⟩) [0, 1, 2, 3] rfl (by decide) 0 4 rfl rfl rfl (st := [.int (nI 0), .ref out]) rfl rfl (Nat.le_of_ble_eq_true rfl) dL_repeat_4 ⟨by first | decide | omega, by first | decide | omega⟩) hA [0, 1, 2, 3] rfl [4] [(out, AJ cJ 1 fo)] rfl (by decide) (by decide) [1, 2, 3, 4, 0] (by decide) (wf := (fun (u : Unit) => [(x, OB 4 [.ref qw, .ref qv, .ref qt, .int ri, .ref qd, .ref qc, .ref ql]), (qv, OB 3 [.ref pa, .ref po, .int (nI (np + np))]), (pa, AI cI 40 (rpF bp np np)), (po, AI cI 40 (rpF cp np np)), (out, AJ cJ 1 fo)])) (fun _ => rfl) (fun r_1 u h_2 => ?_)
  subst h_2
  refine x_i2l C _ dL_repeat_7 rfl ?_
  refine x_last C hK 4 1 rfl hJ (by omega) (by omega) [(x, OB 4 [.ref qw, .ref qv, .ref qt, .int ri, .ref qd, .ref qc, .ref ql]), (qv, OB 3 [.ref pa, .ref po, .int (nI (np + np))]), (pa, AI cI 40 (rpF bp np np)), (po, AI cI 40 (rpF cp np np)), (out, AJ cJ 1 (vp_updL fo 0 ((nI (np + np)).toInt64)))] rfl dL_repeat_8 ?_
  refine x_goto C 15 dL_repeat_9 (by decide) ?_
  refine x_iconst C (nI 0) dL_repeat_15 (by decide +kernel) ?_
  refine x_iret C hK hlk hrt hQ hH0 hAA () ?_ [0, 1, 2, 3, 4] (by decide) rfl (by first | decide | omega) (by first | decide | omega) dL_repeat_16
  first | rfl | (exact ⟨rfl, rfl⟩) | trivial | assumption | omega
abbrev rm_w_repeatX0 : Room := { frames := 7, cells := 1, slots := 6, locals := 103 }
set_option maxRecDepth 100000 in
set_option maxHeartbeats 4000000 in
theorem c_w_repeatX0 (l : Launch) (hl0 : l.stackTraces = false) (D : va_G) (tys : List (ClassId × FieldType)) (cI cJ : ClassId) (hI : tys[0]? = some (cI, .int)) (hJ : tys[1]? = some (cJ, .long)) (x : Nat) (qw : Nat) (qv : Nat) (qt : Nat) (ri : Int32) (qd : Nat) (qc : Nat) (ql : Nat) (pa : Nat) (po : Nat) (np : Nat) (bp : Nat → Int32) (cp : Nat → Int32) (out : Nat) (fo : Nat → Int64) (hnp : np ≤ 40) (h2 : 40 < 2 * np) : MIW l yL_repeat wsL_repeat rm_w_repeatX0 D tys [.ref x, .int (nI 0), .ref out] [(x, OB 4 [.ref qw, .ref qv, .ref qt, .int ri, .ref qd, .ref qc, .ref ql]), (qv, OB 3 [.ref pa, .ref po, .int (nI np)]), (pa, AI cI 40 bp), (po, AI cI 40 cp), (out, AJ cJ 1 fo)] Unit (fun r (_ : Unit) => r = nI 1) (fun (_ : Unit) => [(x, OB 4 [.ref qw, .ref qv, .ref qt, .int ri, .ref qd, .ref qc, .ref ql]), (qv, OB 3 [.ref pa, .ref po, .int (nI np)]), (pa, AI cI 40 bp), (po, AI cI 40 cp), (out, AJ cJ 1 fo)]) 1 6 := by
  intro sz
  refine x_metW (cc := cL_repeat) (maxL := 4) (ret := (some .int)) (by decide +kernel) rfl (by show _ ≤ _; simp [lg_sl, Value.category]) [(0, .ref x), (1, .int (nI 0)), (2, .ref out)] rfl ?_
  intro p e s m args below meth c Q A H0 C hK hNW hlk hrt hnm hQ hH0 hAA hA hZ hNC htab
  refine x_aload_n C dL_repeat_0 rfl 2 rfl ?_
  refine x_iconst C (nI 0) dL_repeat_1 (by decide +kernel) ?_
  refine x_aload_n C dL_repeat_2 rfl 0 rfl ?_
  refine x_iload_n C dL_repeat_3 rfl 1 rfl ?_
  refine x_callXi (x_runVX C hK hNW hH0 hZ hA (c_repeatX0 l hl0 D tys cI cJ hI hJ x qw qv qt ri qd qc ql pa po np bp cp (by first | omega | assumption) (by first | omega | assumption)) (cwV 1 C.2.2.2.2 gL_repeat_X4_repeat rfl rfl rfl (by decide +kernel) ⟨by decide, by decide⟩) [0, 1, 2, 3] rfl (by decide) 0 4 rfl rfl rfl (st := [.int (nI 0), .ref out]) rfl rfl (Nat.le_of_ble_eq_true rfl) dL_repeat_4 ⟨by first | decide | omega, by first | decide | omega⟩) hA [0, 1, 2, 3] rfl [4] [(out, AJ cJ 1 fo)] rfl (by decide) (by decide) [1, 2, 3, 4, 0] (by decide) (wf := fun _ => [(x, OB 4 [.ref qw, .ref qv, .ref qt, .int ri, .ref qd, .ref qc, .ref ql]), (qv, OB 3 [.ref pa, .ref po, .int (nI np)]), (pa, AI cI 40 bp), (po, AI cI 40 cp), (out, AJ cJ 1 fo)]) (fun _ => rfl) (wsx := [(x, OB 4 [.ref qw, .ref qv, .ref qt, .int ri, .ref qd, .ref qc, .ref ql]), (qv, OB 3 [.ref pa, .ref po, .int (nI np)]), (pa, AI cI 40 bp), (po, AI cI 40 cp), (out, AJ cJ 1 fo)]) rfl (fun E9 hE9 => ?_) (fun _ _ hf9 => False.elim hf9)
  have hE8 : E9 = "java/lang/IllegalStateException" := hE9
  subst hE8
  refine x_catch C hNW (name := "java/lang/IllegalStateException") [] ⟨0, 9, 12, 15⟩ [] htab (fun z hz => by cases hz) (by decide) (by decide) (by decide +kernel) 44 rfl 12 rfl (fun qx_3 => ?_)
  refine x_astore_n C [(3, .ref qx_3), (0, .ref x), (1, .int (nI 0)), (2, .ref out)] dL_repeat_12 rfl (by decide) rfl ?_
  refine x_iconst C (nI 1) dL_repeat_13 (by decide +kernel) ?_
  refine x_iret C hK hlk hrt hQ hH0 hAA () ?_ [0, 1, 2, 3, 4] (by decide) rfl (by first | decide | omega) (by first | decide | omega) dL_repeat_14
  first | rfl | (exact ⟨rfl, rfl⟩) | trivial | assumption | omega
abbrev rm_w_cut1 : Room := { frames := 2, cells := 1, slots := 6, locals := 45 }
set_option maxRecDepth 100000 in
set_option maxHeartbeats 4000000 in
theorem c_w_cut1 (l : Launch) (hl0 : l.stackTraces = false) (D : va_G) (tys : List (ClassId × FieldType)) (cI cJ : ClassId) (hI : tys[0]? = some (cI, .int)) (hJ : tys[1]? = some (cJ, .long)) (x : Nat) (qw : Nat) (qv : Nat) (qt : Nat) (ri : Int32) (qd : Nat) (qc : Nat) (ql : Nat) (wa : Nat) (wo : Nat) (nw : Nat) (bw : Nat → Int32) (cw : Nat → Int32) (lf : Nat) (out : Nat) (fo : Nat → Int64) (hnw : nw ≤ 40) (hlf : lf ≤ nw) : MIW l yL_cut wsL_cut rm_w_cut1 D tys [.ref x, .int (nI 1), .int (nI lf), .ref out] [(x, OB 4 [.ref qw, .ref qv, .ref qt, .int ri, .ref qd, .ref qc, .ref ql]), (qw, OB 3 [.ref wa, .ref wo, .int (nI nw)]), (wa, AI cI 40 bw), (wo, AI cI 40 cw), (out, AJ cJ 1 fo)] Unit (fun r (_ : Unit) => r = nI 0) (fun (_ : Unit) => [(x, OB 4 [.ref qw, .ref qv, .ref qt, .int ri, .ref qd, .ref qc, .ref ql]), (qw, OB 3 [.ref wa, .ref wo, .int (nI lf)]), (wa, AI cI 40 bw), (wo, AI cI 40 cw), (out, AJ cJ 1 (vp_updL fo 0 (nI (nw - lf)).toInt64))]) 1 6 := by
  intro sz
  refine x_metW (cc := cL_cut) (maxL := 5) (ret := (some .int)) (by decide +kernel) rfl (by show _ ≤ _; simp [lg_sl, Value.category]) [(0, .ref x), (1, .int (nI 1)), (2, .int (nI lf)), (3, .ref out)] rfl ?_
  intro p e s m args below meth c Q A H0 C hK hNW hlk hrt hnm hQ hH0 hAA hA hZ hNC htab
  refine x_aload_n C dL_cut_0 rfl 3 rfl ?_
  refine x_iconst C (nI 0) dL_cut_1 (by decide +kernel) ?_
  refine x_aload_n C dL_cut_2 rfl 0 rfl ?_
  refine x_iload_n C dL_cut_3 rfl 1 rfl ?_
  refine x_iload_n C dL_cut_4 rfl 2 rfl ?_
  refine x_calli (x_runV C hK hNW (c_cut1 l D tys cI cJ hI hJ x qw qv qt ri qd qc ql wa wo nw bw cw lf (by first | omega | assumption) (by first | omega | assumption)) (cwV 2 C.2.2.2.2 gL_cut_X4_cut rfl rfl rfl (by decide +kernel) ⟨by decide, by decide⟩) [0, 1, 2, 3] rfl (by decide) 0 4 rfl rfl rfl (st := [.int (nI 0), .ref out]) rfl rfl (Nat.le_of_ble_eq_true rfl) dL_cut_5 ⟨by first | decide | omega, by first | decide | omega⟩) hA [0, 1, 2, 3] rfl [4] [(out, AJ cJ 1 fo)] rfl (by decide) (by decide) [1, 2, 3, 4, 0] (by decide) (wf := (fun (u : Unit) => [(x, OB 4 [.ref qw, .ref qv, .ref qt, .int ri, .ref qd, .ref qc, .ref ql]), (qw, OB 3 [.ref wa, .ref wo, .int (nI lf)]), (wa, AI cI 40 bw), (wo, AI cI 40 cw), (out, AJ cJ 1 fo)])) (fun _ => rfl) (fun r_1 u h_2 => ?_)
  subst h_2
  refine x_i2l C _ dL_cut_8 rfl ?_
  refine x_last C hK 4 1 rfl hJ (by omega) (by omega) [(x, OB 4 [.ref qw, .ref qv, .ref qt, .int ri, .ref qd, .ref qc, .ref ql]), (qw, OB 3 [.ref wa, .ref wo, .int (nI lf)]), (wa, AI cI 40 bw), (wo, AI cI 40 cw), (out, AJ cJ 1 (vp_updL fo 0 ((nI (nw - lf)).toInt64)))] rfl dL_cut_9 ?_
  refine x_goto C 17 dL_cut_10 (by decide) ?_
  refine x_iconst C (nI 0) dL_cut_17 (by decide +kernel) ?_
  refine x_iret C hK hlk hrt hQ hH0 hAA () ?_ [0, 1, 2, 3, 4] (by decide) rfl (by first | decide | omega) (by first | decide | omega) dL_cut_18
  first | rfl | (exact ⟨rfl, rfl⟩) | trivial | assumption | omega
abbrev rm_w_cutX1 : Room := { frames := 7, cells := 1, slots := 6, locals := 105 }
set_option maxRecDepth 100000 in
set_option maxHeartbeats 4000000 in
theorem c_w_cutX1 (l : Launch) (hl0 : l.stackTraces = false) (D : va_G) (tys : List (ClassId × FieldType)) (cI cJ : ClassId) (hI : tys[0]? = some (cI, .int)) (hJ : tys[1]? = some (cJ, .long)) (x : Nat) (qw : Nat) (qv : Nat) (qt : Nat) (ri : Int32) (qd : Nat) (qc : Nat) (ql : Nat) (wa : Nat) (wo : Nat) (nw : Nat) (bw : Nat → Int32) (cw : Nat → Int32) (lf : Int32) (out : Nat) (fo : Nat → Int64) (hnw : nw ≤ 40) (hlf : below lf (nw + 1) = false) : MIW l yL_cut wsL_cut rm_w_cutX1 D tys [.ref x, .int (nI 1), .int lf, .ref out] [(x, OB 4 [.ref qw, .ref qv, .ref qt, .int ri, .ref qd, .ref qc, .ref ql]), (qw, OB 3 [.ref wa, .ref wo, .int (nI nw)]), (wa, AI cI 40 bw), (wo, AI cI 40 cw), (out, AJ cJ 1 fo)] Unit (fun r (_ : Unit) => r = nI 1) (fun (_ : Unit) => [(x, OB 4 [.ref qw, .ref qv, .ref qt, .int ri, .ref qd, .ref qc, .ref ql]), (qw, OB 3 [.ref wa, .ref wo, .int (nI nw)]), (wa, AI cI 40 bw), (wo, AI cI 40 cw), (out, AJ cJ 1 fo)]) 1 6 := by
  intro sz
  refine x_metW (cc := cL_cut) (maxL := 5) (ret := (some .int)) (by decide +kernel) rfl (by show _ ≤ _; simp [lg_sl, Value.category]) [(0, .ref x), (1, .int (nI 1)), (2, .int lf), (3, .ref out)] rfl ?_
  intro p e s m args below meth c Q A H0 C hK hNW hlk hrt hnm hQ hH0 hAA hA hZ hNC htab
  refine x_aload_n C dL_cut_0 rfl 3 rfl ?_
  refine x_iconst C (nI 0) dL_cut_1 (by decide +kernel) ?_
  refine x_aload_n C dL_cut_2 rfl 0 rfl ?_
  refine x_iload_n C dL_cut_3 rfl 1 rfl ?_
  refine x_iload_n C dL_cut_4 rfl 2 rfl ?_
  refine x_callXi (x_runVX C hK hNW hH0 hZ hA (c_cutX1 l hl0 D tys cI cJ hI hJ x qw qv qt ri qd qc ql wa wo nw bw cw lf (by first | omega | assumption) (by first | omega | assumption)) (cwV 2 C.2.2.2.2 gL_cut_X4_cut rfl rfl rfl (by decide +kernel) ⟨by decide, by decide⟩) [0, 1, 2, 3] rfl (by decide) 0 4 rfl rfl rfl (st := [.int (nI 0), .ref out]) rfl rfl (Nat.le_of_ble_eq_true rfl) dL_cut_5 ⟨by first | decide | omega, by first | decide | omega⟩) hA [0, 1, 2, 3] rfl [4] [(out, AJ cJ 1 fo)] rfl (by decide) (by decide) [1, 2, 3, 4, 0] (by decide) (wf := fun _ => [(x, OB 4 [.ref qw, .ref qv, .ref qt, .int ri, .ref qd, .ref qc, .ref ql]), (qw, OB 3 [.ref wa, .ref wo, .int (nI nw)]), (wa, AI cI 40 bw), (wo, AI cI 40 cw), (out, AJ cJ 1 fo)]) (fun _ => rfl) (wsx := [(x, OB 4 [.ref qw, .ref qv, .ref qt, .int ri, .ref qd, .ref qc, .ref ql]), (qw, OB 3 [.ref wa, .ref wo, .int (nI nw)]), (wa, AI cI 40 bw), (wo, AI cI 40 cw), (out, AJ cJ 1 fo)]) rfl (fun E9 hE9 => ?_) (fun _ _ hf9 => False.elim hf9)
  have hE8 : E9 = "java/lang/IllegalArgumentException" := hE9
  subst hE8
  refine x_catch C hNW (name := "java/lang/IllegalArgumentException") [] ⟨0, 10, 13, 13⟩ [] htab (fun z hz => by cases hz) (by decide) (by decide) (by decide +kernel) 43 rfl 13 rfl (fun qx_3 => ?_)
  refine x_astore C [(4, .ref qx_3), (0, .ref x), (1, .int (nI 1)), (2, .int lf), (3, .ref out)] dL_cut_13 (by decide) rfl ?_
  refine x_iconst C (nI 1) dL_cut_15 (by decide +kernel) ?_
  refine x_iret C hK hlk hrt hQ hH0 hAA () ?_ [0, 1, 2, 3, 4] (by decide) rfl (by first | decide | omega) (by first | decide | omega) dL_cut_16
  first | rfl | (exact ⟨rfl, rfl⟩) | trivial | assumption | omega
abbrev rm_w_cut0 : Room := { frames := 2, cells := 1, slots := 6, locals := 45 }
set_option maxRecDepth 100000 in
set_option maxHeartbeats 4000000 in
theorem c_w_cut0 (l : Launch) (hl0 : l.stackTraces = false) (D : va_G) (tys : List (ClassId × FieldType)) (cI cJ : ClassId) (hI : tys[0]? = some (cI, .int)) (hJ : tys[1]? = some (cJ, .long)) (x : Nat) (qw : Nat) (qv : Nat) (qt : Nat) (ri : Int32) (qd : Nat) (qc : Nat) (ql : Nat) (pa : Nat) (po : Nat) (np : Nat) (bp : Nat → Int32) (cp : Nat → Int32) (lf : Nat) (out : Nat) (fo : Nat → Int64) (hnp : np ≤ 40) (hlf : lf ≤ np) : MIW l yL_cut wsL_cut rm_w_cut0 D tys [.ref x, .int (nI 0), .int (nI lf), .ref out] [(x, OB 4 [.ref qw, .ref qv, .ref qt, .int ri, .ref qd, .ref qc, .ref ql]), (qv, OB 3 [.ref pa, .ref po, .int (nI np)]), (pa, AI cI 40 bp), (po, AI cI 40 cp), (out, AJ cJ 1 fo)] Unit (fun r (_ : Unit) => r = nI 0) (fun (_ : Unit) => [(x, OB 4 [.ref qw, .ref qv, .ref qt, .int ri, .ref qd, .ref qc, .ref ql]), (qv, OB 3 [.ref pa, .ref po, .int (nI lf)]), (pa, AI cI 40 bp), (po, AI cI 40 cp), (out, AJ cJ 1 (vp_updL fo 0 (nI (np - lf)).toInt64))]) 1 6 := by
  intro sz
  refine x_metW (cc := cL_cut) (maxL := 5) (ret := (some .int)) (by decide +kernel) rfl (by show _ ≤ _; simp [lg_sl, Value.category]) [(0, .ref x), (1, .int (nI 0)), (2, .int (nI lf)), (3, .ref out)] rfl ?_
  intro p e s m args below meth c Q A H0 C hK hNW hlk hrt hnm hQ hH0 hAA hA hZ hNC htab
  refine x_aload_n C dL_cut_0 rfl 3 rfl ?_
  refine x_iconst C (nI 0) dL_cut_1 (by decide +kernel) ?_
  refine x_aload_n C dL_cut_2 rfl 0 rfl ?_
  refine x_iload_n C dL_cut_3 rfl 1 rfl ?_
  refine x_iload_n C dL_cut_4 rfl 2 rfl ?_
  refine x_calli (x_runV C hK hNW (c_cut0 l D tys cI cJ hI hJ x qw qv qt ri qd qc ql pa po np bp cp lf (by first | omega | assumption) (by first | omega | assumption)) (cwV 2 C.2.2.2.2 gL_cut_X4_cut rfl rfl rfl (by decide +kernel) ⟨by decide, by decide⟩) [0, 1, 2, 3] rfl (by decide) 0 4 rfl rfl rfl (st := [.int (nI 0), .ref out]) rfl rfl (Nat.le_of_ble_eq_true rfl) dL_cut_5 ⟨by first | decide | omega, by first | decide | omega⟩) hA [0, 1, 2, 3] rfl [4] [(out, AJ cJ 1 fo)] rfl (by decide) (by decide) [1, 2, 3, 4, 0] (by decide) (wf := (fun (u : Unit) => [(x, OB 4 [.ref qw, .ref qv, .ref qt, .int ri, .ref qd, .ref qc, .ref ql]), (qv, OB 3 [.ref pa, .ref po, .int (nI lf)]), (pa, AI cI 40 bp), (po, AI cI 40 cp), (out, AJ cJ 1 fo)])) (fun _ => rfl) (fun r_1 u h_2 => ?_)
  subst h_2
  refine x_i2l C _ dL_cut_8 rfl ?_
  refine x_last C hK 4 1 rfl hJ (by omega) (by omega) [(x, OB 4 [.ref qw, .ref qv, .ref qt, .int ri, .ref qd, .ref qc, .ref ql]), (qv, OB 3 [.ref pa, .ref po, .int (nI lf)]), (pa, AI cI 40 bp), (po, AI cI 40 cp), (out, AJ cJ 1 (vp_updL fo 0 ((nI (np - lf)).toInt64)))] rfl dL_cut_9 ?_
  refine x_goto C 17 dL_cut_10 (by decide) ?_
  refine x_iconst C (nI 0) dL_cut_17 (by decide +kernel) ?_
  refine x_iret C hK hlk hrt hQ hH0 hAA () ?_ [0, 1, 2, 3, 4] (by decide) rfl (by first | decide | omega) (by first | decide | omega) dL_cut_18
  first | rfl | (exact ⟨rfl, rfl⟩) | trivial | assumption | omega
abbrev rm_w_cutX0 : Room := { frames := 7, cells := 1, slots := 6, locals := 105 }
set_option maxRecDepth 100000 in
set_option maxHeartbeats 4000000 in
theorem c_w_cutX0 (l : Launch) (hl0 : l.stackTraces = false) (D : va_G) (tys : List (ClassId × FieldType)) (cI cJ : ClassId) (hI : tys[0]? = some (cI, .int)) (hJ : tys[1]? = some (cJ, .long)) (x : Nat) (qw : Nat) (qv : Nat) (qt : Nat) (ri : Int32) (qd : Nat) (qc : Nat) (ql : Nat) (pa : Nat) (po : Nat) (np : Nat) (bp : Nat → Int32) (cp : Nat → Int32) (lf : Int32) (out : Nat) (fo : Nat → Int64) (hnp : np ≤ 40) (hlf : below lf (np + 1) = false) : MIW l yL_cut wsL_cut rm_w_cutX0 D tys [.ref x, .int (nI 0), .int lf, .ref out] [(x, OB 4 [.ref qw, .ref qv, .ref qt, .int ri, .ref qd, .ref qc, .ref ql]), (qv, OB 3 [.ref pa, .ref po, .int (nI np)]), (pa, AI cI 40 bp), (po, AI cI 40 cp), (out, AJ cJ 1 fo)] Unit (fun r (_ : Unit) => r = nI 1) (fun (_ : Unit) => [(x, OB 4 [.ref qw, .ref qv, .ref qt, .int ri, .ref qd, .ref qc, .ref ql]), (qv, OB 3 [.ref pa, .ref po, .int (nI np)]), (pa, AI cI 40 bp), (po, AI cI 40 cp), (out, AJ cJ 1 fo)]) 1 6 := by
  intro sz
  refine x_metW (cc := cL_cut) (maxL := 5) (ret := (some .int)) (by decide +kernel) rfl (by show _ ≤ _; simp [lg_sl, Value.category]) [(0, .ref x), (1, .int (nI 0)), (2, .int lf), (3, .ref out)] rfl ?_
  intro p e s m args below meth c Q A H0 C hK hNW hlk hrt hnm hQ hH0 hAA hA hZ hNC htab
  refine x_aload_n C dL_cut_0 rfl 3 rfl ?_
  refine x_iconst C (nI 0) dL_cut_1 (by decide +kernel) ?_
  refine x_aload_n C dL_cut_2 rfl 0 rfl ?_
  refine x_iload_n C dL_cut_3 rfl 1 rfl ?_
  refine x_iload_n C dL_cut_4 rfl 2 rfl ?_
  refine x_callXi (x_runVX C hK hNW hH0 hZ hA (c_cutX0 l hl0 D tys cI cJ hI hJ x qw qv qt ri qd qc ql pa po np bp cp lf (by first | omega | assumption) (by first | omega | assumption)) (cwV 2 C.2.2.2.2 gL_cut_X4_cut rfl rfl rfl (by decide +kernel) ⟨by decide, by decide⟩) [0, 1, 2, 3] rfl (by decide) 0 4 rfl rfl rfl (st := [.int (nI 0), .ref out]) rfl rfl (Nat.le_of_ble_eq_true rfl) dL_cut_5 ⟨by first | decide | omega, by first | decide | omega⟩) hA [0, 1, 2, 3] rfl [4] [(out, AJ cJ 1 fo)] rfl (by decide) (by decide) [1, 2, 3, 4, 0] (by decide) (wf := fun _ => [(x, OB 4 [.ref qw, .ref qv, .ref qt, .int ri, .ref qd, .ref qc, .ref ql]), (qv, OB 3 [.ref pa, .ref po, .int (nI np)]), (pa, AI cI 40 bp), (po, AI cI 40 cp), (out, AJ cJ 1 fo)]) (fun _ => rfl) (wsx := [(x, OB 4 [.ref qw, .ref qv, .ref qt, .int ri, .ref qd, .ref qc, .ref ql]), (qv, OB 3 [.ref pa, .ref po, .int (nI np)]), (pa, AI cI 40 bp), (po, AI cI 40 cp), (out, AJ cJ 1 fo)]) rfl (fun E9 hE9 => ?_) (fun _ _ hf9 => False.elim hf9)
  have hE8 : E9 = "java/lang/IllegalArgumentException" := hE9
  subst hE8
  refine x_catch C hNW (name := "java/lang/IllegalArgumentException") [] ⟨0, 10, 13, 13⟩ [] htab (fun z hz => by cases hz) (by decide) (by decide) (by decide +kernel) 43 rfl 13 rfl (fun qx_3 => ?_)
  refine x_astore C [(4, .ref qx_3), (0, .ref x), (1, .int (nI 0)), (2, .int lf), (3, .ref out)] dL_cut_13 (by decide) rfl ?_
  refine x_iconst C (nI 1) dL_cut_15 (by decide +kernel) ?_
  refine x_iret C hK hlk hrt hQ hH0 hAA () ?_ [0, 1, 2, 3, 4] (by decide) rfl (by first | decide | omega) (by first | decide | omega) dL_cut_16
  first | rfl | (exact ⟨rfl, rfl⟩) | trivial | assumption | omega
abbrev rm_w_onTop : Room := { frames := 4, cells := 1, slots := 6, locals := 89 }
set_option maxRecDepth 100000 in
set_option maxHeartbeats 4000000 in
theorem c_w_onTop (l : Launch) (hl0 : l.stackTraces = false) (D : va_G) (tys : List (ClassId × FieldType)) (cI cJ : ClassId) (hI : tys[0]? = some (cI, .int)) (hJ : tys[1]? = some (cJ, .long)) (x : Nat) (qw : Nat) (qv : Nat) (qt : Nat) (ri : Int32) (qd : Nat) (qc : Nat) (ql : Nat) (wa : Nat) (wo : Nat) (nw : Nat) (bw : Nat → Int32) (cw : Nat → Int32) (pa : Nat) (po : Nat) (np : Nat) (bp : Nat → Int32) (cp : Nat → Int32) (ti : Nat → Int32) (pk : Nat) (en : Nat) (out : Nat) (fo : Nat → Int64) (hnw : nw ≤ 40) (hnp : np ≤ 40) (hpk : pk < np) (hen : en < nw) : MIW l yL_isWarpOnTop wsL_isWarpOnTop rm_w_onTop D tys [.ref x, .int (nI pk), .int (nI en), .ref out] [(x, OB 4 [.ref qw, .ref qv, .ref qt, .int ri, .ref qd, .ref qc, .ref ql]), (qw, OB 3 [.ref wa, .ref wo, .int (nI nw)]), (wa, AI cI 40 bw), (wo, AI cI 40 cw), (qv, OB 3 [.ref pa, .ref po, .int (nI np)]), (pa, AI cI 40 bp), (po, AI cI 40 cp), (qt, AI cI 10 ti), (out, AJ cJ 1 fo)] Unit (fun r (_ : Unit) => r = nI 0) (fun (_ : Unit) => [(x, OB 4 [.ref qw, .ref qv, .ref qt, .int ri, .ref qd, .ref qc, .ref ql]), (qw, OB 3 [.ref wa, .ref wo, .int (nI nw)]), (wa, AI cI 40 bw), (wo, AI cI 40 cw), (qv, OB 3 [.ref pa, .ref po, .int (nI np)]), (pa, AI cI 40 bp), (po, AI cI 40 cp), (qt, AI cI 10 ti), (out, AJ cJ 1 (vp_updL fo 0 (bI (hbit (suA ri ti (bp pk)) (bw en))).toInt64))]) 1 6 := by
  intro sz
  refine x_metW (cc := cL_isWarpOnTop) (maxL := 5) (ret := (some .int)) (by decide +kernel) rfl (by show _ ≤ _; simp [lg_sl, Value.category]) [(0, .ref x), (1, .int (nI pk)), (2, .int (nI en)), (3, .ref out)] rfl ?_
  intro p e s m args below meth c Q A H0 C hK hNW hlk hrt hnm hQ hH0 hAA hA hZ hNC htab
  refine x_aload_n C dL_isWarpOnTop_0 rfl 3 rfl ?_
  refine x_iconst C (nI 0) dL_isWarpOnTop_1 (by decide +kernel) ?_
  refine x_aload_n C dL_isWarpOnTop_2 rfl 0 rfl ?_
  refine x_iload_n C dL_isWarpOnTop_3 rfl 1 rfl ?_
  refine x_iload_n C dL_isWarpOnTop_4 rfl 2 rfl ?_
  refine x_calli (x_runV C hK hNW (c_onTop l D tys cI cJ hI hJ x qw qv qt ri qd qc ql wa wo nw bw cw pa po np bp cp ti pk en (by first | omega | assumption) (by first | omega | assumption) (by first | omega | assumption) (by first | omega | assumption)) (cwV 2 C.2.2.2.2 gL_isWarpOnTop_X4_isWarpOnTop rfl rfl rfl (by decide +kernel) ⟨by decide, by decide⟩) [0, 1, 2, 3, 4, 5, 6, 7] rfl (by decide) 0 4 rfl rfl rfl (st := [.int (nI 0), .ref out]) rfl rfl (Nat.le_of_ble_eq_true rfl) dL_isWarpOnTop_5 ⟨by first | decide | omega, by first | decide | omega⟩) hA [0, 1, 2, 3, 4, 5, 6, 7] rfl [8] [(out, AJ cJ 1 fo)] rfl (by decide) (by decide) [1, 2, 3, 4, 5, 6, 7, 8, 0] (by decide) (wf := (fun (u : Unit) => [(x, OB 4 [.ref qw, .ref qv, .ref qt, .int ri, .ref qd, .ref qc, .ref ql]), (qw, OB 3 [.ref wa, .ref wo, .int (nI nw)]), (wa, AI cI 40 bw), (wo, AI cI 40 cw), (qv, OB 3 [.ref pa, .ref po, .int (nI np)]), (pa, AI cI 40 bp), (po, AI cI 40 cp), (qt, AI cI 10 ti), (out, AJ cJ 1 fo)])) (fun _ => rfl) (fun r_1 u h_2 => ?_)
  subst h_2
  refine x_if_eq C 15 dL_isWarpOnTop_8 (by decide) (fun h_3 => ?_) (fun h_3 => ?_)
  ·
    refine x_lconst C (0 : Int64) dL_isWarpOnTop_15 rfl ?_
    refine x_last C hK 8 1 rfl hJ (by omega) (by omega) [(x, OB 4 [.ref qw, .ref qv, .ref qt, .int ri, .ref qd, .ref qc, .ref ql]), (qw, OB 3 [.ref wa, .ref wo, .int (nI nw)]), (wa, AI cI 40 bw), (wo, AI cI 40 cw), (qv, OB 3 [.ref pa, .ref po, .int (nI np)]), (pa, AI cI 40 bp), (po, AI cI 40 cp), (qt, AI cI 10 ti), (out, AJ cJ 1 (vp_updL fo 0 (0 : Int64)))] rfl dL_isWarpOnTop_16 ?_
    refine x_goto C 24 dL_isWarpOnTop_17 (by decide) ?_
    refine x_ws [(x, OB 4 [.ref qw, .ref qv, .ref qt, .int ri, .ref qd, .ref qc, .ref ql]), (qw, OB 3 [.ref wa, .ref wo, .int (nI nw)]), (wa, AI cI 40 bw), (wo, AI cI 40 cw), (qv, OB 3 [.ref pa, .ref po, .int (nI np)]), (pa, AI cI 40 bp), (po, AI cI 40 cp), (qt, AI cI 10 ti), (out, AJ cJ 1 (vp_updL fo 0 (bI (hbit (suA ri ti (bp pk)) (bw en))).toInt64))] (by first | rw [bl1 (by assumption)] | rw [bl0 (by assumption)]) ?_
    refine x_iconst C (nI 0) dL_isWarpOnTop_24 (by decide +kernel) ?_
    refine x_iret C hK hlk hrt hQ hH0 hAA () ?_ [0, 1, 2, 3, 4, 5, 6, 7, 8] (by decide) rfl (by first | decide | omega) (by first | decide | omega) dL_isWarpOnTop_25
    first | rfl | (exact ⟨rfl, rfl⟩) | trivial | assumption | omega
  ·
    refine x_lconst C (1 : Int64) dL_isWarpOnTop_11 rfl ?_
    refine x_goto C 16 dL_isWarpOnTop_12 (by decide) ?_
    refine x_last C hK 8 1 rfl hJ (by omega) (by omega) [(x, OB 4 [.ref qw, .ref qv, .ref qt, .int ri, .ref qd, .ref qc, .ref ql]), (qw, OB 3 [.ref wa, .ref wo, .int (nI nw)]), (wa, AI cI 40 bw), (wo, AI cI 40 cw), (qv, OB 3 [.ref pa, .ref po, .int (nI np)]), (pa, AI cI 40 bp), (po, AI cI 40 cp), (qt, AI cI 10 ti), (out, AJ cJ 1 (vp_updL fo 0 (1 : Int64)))] rfl dL_isWarpOnTop_16 ?_
    refine x_goto C 24 dL_isWarpOnTop_17 (by decide) ?_
    refine x_ws [(x, OB 4 [.ref qw, .ref qv, .ref qt, .int ri, .ref qd, .ref qc, .ref ql]), (qw, OB 3 [.ref wa, .ref wo, .int (nI nw)]), (wa, AI cI 40 bw), (wo, AI cI 40 cw), (qv, OB 3 [.ref pa, .ref po, .int (nI np)]), (pa, AI cI 40 bp), (po, AI cI 40 cp), (qt, AI cI 10 ti), (out, AJ cJ 1 (vp_updL fo 0 (bI (hbit (suA ri ti (bp pk)) (bw en))).toInt64))] (by first | rw [bl1 (by assumption)] | rw [bl0 (by assumption)]) ?_
    refine x_iconst C (nI 0) dL_isWarpOnTop_24 (by decide +kernel) ?_
    refine x_iret C hK hlk hrt hQ hH0 hAA () ?_ [0, 1, 2, 3, 4, 5, 6, 7, 8] (by decide) rfl (by first | decide | omega) (by first | decide | omega) dL_isWarpOnTop_25
    first | rfl | (exact ⟨rfl, rfl⟩) | trivial | assumption | omega
abbrev rm_w_onTopX : Room := { frames := 7, cells := 1, slots := 6, locals := 103 }
set_option maxRecDepth 100000 in
set_option maxHeartbeats 4000000 in
theorem c_w_onTopX (l : Launch) (hl0 : l.stackTraces = false) (D : va_G) (tys : List (ClassId × FieldType)) (cI cJ : ClassId) (hI : tys[0]? = some (cI, .int)) (hJ : tys[1]? = some (cJ, .long)) (x : Nat) (qw : Nat) (qv : Nat) (qt : Nat) (ri : Int32) (qd : Nat) (qc : Nat) (ql : Nat) (wa : Nat) (wo : Nat) (nw : Nat) (bw : Nat → Int32) (cw : Nat → Int32) (pa : Nat) (po : Nat) (np : Nat) (bp : Nat → Int32) (cp : Nat → Int32) (pk : Int32) (en : Int32) (out : Nat) (fo : Nat → Int64) (hnw : nw ≤ 40) (hnp : np ≤ 40) (hx : ¬ (below pk np = true ∧ below en nw = true)) : MIW l yL_isWarpOnTop wsL_isWarpOnTop rm_w_onTopX D tys [.ref x, .int pk, .int en, .ref out] [(x, OB 4 [.ref qw, .ref qv, .ref qt, .int ri, .ref qd, .ref qc, .ref ql]), (qw, OB 3 [.ref wa, .ref wo, .int (nI nw)]), (wa, AI cI 40 bw), (wo, AI cI 40 cw), (qv, OB 3 [.ref pa, .ref po, .int (nI np)]), (pa, AI cI 40 bp), (po, AI cI 40 cp), (out, AJ cJ 1 fo)] Unit (fun r (_ : Unit) => r = nI 1) (fun (_ : Unit) => [(x, OB 4 [.ref qw, .ref qv, .ref qt, .int ri, .ref qd, .ref qc, .ref ql]), (qw, OB 3 [.ref wa, .ref wo, .int (nI nw)]), (wa, AI cI 40 bw), (wo, AI cI 40 cw), (qv, OB 3 [.ref pa, .ref po, .int (nI np)]), (pa, AI cI 40 bp), (po, AI cI 40 cp), (out, AJ cJ 1 fo)]) 1 6 := by
  intro sz
  refine x_metW (cc := cL_isWarpOnTop) (maxL := 5) (ret := (some .int)) (by decide +kernel) rfl (by show _ ≤ _; simp [lg_sl, Value.category]) [(0, .ref x), (1, .int pk), (2, .int en), (3, .ref out)] rfl ?_
  intro p e s m args below meth c Q A H0 C hK hNW hlk hrt hnm hQ hH0 hAA hA hZ hNC htab
  refine x_aload_n C dL_isWarpOnTop_0 rfl 3 rfl ?_
  refine x_iconst C (nI 0) dL_isWarpOnTop_1 (by decide +kernel) ?_
  refine x_aload_n C dL_isWarpOnTop_2 rfl 0 rfl ?_
  refine x_iload_n C dL_isWarpOnTop_3 rfl 1 rfl ?_
  refine x_iload_n C dL_isWarpOnTop_4 rfl 2 rfl ?_
  refine x_callXi (x_runVX C hK hNW hH0 hZ hA (c_onTopX l hl0 D tys cI cJ hI hJ x qw qv qt ri qd qc ql wa wo nw bw cw pa po np bp cp pk en (by first | omega | assumption) (by first | omega | assumption) (by first | omega | assumption)) (cwV 2 C.2.2.2.2 gL_isWarpOnTop_X4_isWarpOnTop rfl rfl rfl (by decide +kernel) ⟨by decide, by decide⟩) [0, 1, 2, 3, 4, 5, 6] rfl (by decide) 0 4 rfl rfl rfl (st := [.int (nI 0), .ref out]) rfl rfl (Nat.le_of_ble_eq_true rfl) dL_isWarpOnTop_5 ⟨by first | decide | omega, by first | decide | omega⟩) hA [0, 1, 2, 3, 4, 5, 6] rfl [7] [(out, AJ cJ 1 fo)] rfl (by decide) (by decide) [1, 2, 3, 4, 5, 6, 7, 0] (by decide) (wf := fun _ => [(x, OB 4 [.ref qw, .ref qv, .ref qt, .int ri, .ref qd, .ref qc, .ref ql]), (qw, OB 3 [.ref wa, .ref wo, .int (nI nw)]), (wa, AI cI 40 bw), (wo, AI cI 40 cw), (qv, OB 3 [.ref pa, .ref po, .int (nI np)]), (pa, AI cI 40 bp), (po, AI cI 40 cp), (out, AJ cJ 1 fo)]) (fun _ => rfl) (wsx := [(x, OB 4 [.ref qw, .ref qv, .ref qt, .int ri, .ref qd, .ref qc, .ref ql]), (qw, OB 3 [.ref wa, .ref wo, .int (nI nw)]), (wa, AI cI 40 bw), (wo, AI cI 40 cw), (qv, OB 3 [.ref pa, .ref po, .int (nI np)]), (pa, AI cI 40 bp), (po, AI cI 40 cp), (out, AJ cJ 1 fo)]) rfl (fun E9 hE9 => ?_) (fun _ _ hf9 => False.elim hf9)
  have hE8 : E9 = "java/lang/IndexOutOfBoundsException" := hE9
  subst hE8
  refine x_catch C hNW (name := "java/lang/IndexOutOfBoundsException") [] ⟨0, 17, 20, 23⟩ [] htab (fun z hz => by cases hz) (by decide) (by decide) (by decide +kernel) 45 rfl 20 rfl (fun qx_3 => ?_)
  refine x_astore C [(4, .ref qx_3), (0, .ref x), (1, .int pk), (2, .int en), (3, .ref out)] dL_isWarpOnTop_20 (by decide) rfl ?_
  refine x_iconst C (nI 1) dL_isWarpOnTop_22 (by decide +kernel) ?_
  refine x_iret C hK hlk hrt hQ hH0 hAA () ?_ [0, 1, 2, 3, 4, 5, 6, 7] (by decide) rfl (by first | decide | omega) (by first | decide | omega) dL_isWarpOnTop_23
  first | rfl | (exact ⟨rfl, rfl⟩) | trivial | assumption | omega
abbrev rm_w_colour : Room := { frames := 4, cells := 1, slots := 6, locals := 90 }
set_option maxRecDepth 100000 in
set_option maxHeartbeats 4000000 in
theorem c_w_colour (l : Launch) (hl0 : l.stackTraces = false) (D : va_G) (tys : List (ClassId × FieldType)) (cI cJ : ClassId) (hI : tys[0]? = some (cI, .int)) (hJ : tys[1]? = some (cJ, .long)) (x : Nat) (qw : Nat) (qv : Nat) (qt : Nat) (ri : Int32) (qd : Nat) (qc : Nat) (ql : Nat) (wa : Nat) (wo : Nat) (nw : Nat) (bw : Nat → Int32) (cw : Nat → Int32) (pa : Nat) (po : Nat) (np : Nat) (bp : Nat → Int32) (cp : Nat → Int32) (ti : Nat → Int32) (pk : Nat) (en : Nat) (out : Nat) (fo : Nat → Int64) (hnw : nw ≤ 40) (hnp : np ≤ 40) (hpk : pk < np) (hen : en < nw) : MIW l yL_colour wsL_colour rm_w_colour D tys [.ref x, .int (nI pk), .int (nI en), .ref out] [(x, OB 4 [.ref qw, .ref qv, .ref qt, .int ri, .ref qd, .ref qc, .ref ql]), (qw, OB 3 [.ref wa, .ref wo, .int (nI nw)]), (wa, AI cI 40 bw), (wo, AI cI 40 cw), (qv, OB 3 [.ref pa, .ref po, .int (nI np)]), (pa, AI cI 40 bp), (po, AI cI 40 cp), (qt, AI cI 10 ti), (out, AJ cJ 1 fo)] Unit (fun r (_ : Unit) => r = nI 0) (fun (_ : Unit) => [(x, OB 4 [.ref qw, .ref qv, .ref qt, .int ri, .ref qd, .ref qc, .ref ql]), (qw, OB 3 [.ref wa, .ref wo, .int (nI nw)]), (wa, AI cI 40 bw), (wo, AI cI 40 cw), (qv, OB 3 [.ref pa, .ref po, .int (nI np)]), (pa, AI cI 40 bp), (po, AI cI 40 cp), (qt, AI cI 10 ti), (out, AJ cJ 1 (vp_updL fo 0 (if hbit (suA ri ti (bp pk)) (bw en) then cw en else cp pk).toInt64))]) 1 6 := by
  intro sz
  refine x_metW (cc := cL_colour) (maxL := 5) (ret := (some .int)) (by decide +kernel) rfl (by show _ ≤ _; simp [lg_sl, Value.category]) [(0, .ref x), (1, .int (nI pk)), (2, .int (nI en)), (3, .ref out)] rfl ?_
  intro p e s m args below meth c Q A H0 C hK hNW hlk hrt hnm hQ hH0 hAA hA hZ hNC htab
  refine x_aload_n C dL_colour_0 rfl 3 rfl ?_
  refine x_iconst C (nI 0) dL_colour_1 (by decide +kernel) ?_
  refine x_aload_n C dL_colour_2 rfl 0 rfl ?_
  refine x_iload_n C dL_colour_3 rfl 1 rfl ?_
  refine x_iload_n C dL_colour_4 rfl 2 rfl ?_
  refine x_calli (x_runV C hK hNW (c_colour l D tys cI cJ hI hJ x qw qv qt ri qd qc ql wa wo nw bw cw pa po np bp cp ti pk en (by first | omega | assumption) (by first | omega | assumption) (by first | omega | assumption) (by first | omega | assumption)) (cwV 2 C.2.2.2.2 gL_colour_X4_colour rfl rfl rfl (by decide +kernel) ⟨by decide, by decide⟩) [0, 1, 2, 3, 4, 5, 6, 7] rfl (by decide) 0 4 rfl rfl rfl (st := [.int (nI 0), .ref out]) rfl rfl (Nat.le_of_ble_eq_true rfl) dL_colour_5 ⟨by first | decide | omega, by first | decide | omega⟩) hA [0, 1, 2, 3, 4, 5, 6, 7] rfl [8] [(out, AJ cJ 1 fo)] rfl (by decide) (by decide) [1, 2, 3, 4, 5, 6, 7, 8, 0] (by decide) (wf := (fun (u : Unit) => [(x, OB 4 [.ref qw, .ref qv, .ref qt, .int ri, .ref qd, .ref qc, .ref ql]), (qw, OB 3 [.ref wa, .ref wo, .int (nI nw)]), (wa, AI cI 40 bw), (wo, AI cI 40 cw), (qv, OB 3 [.ref pa, .ref po, .int (nI np)]), (pa, AI cI 40 bp), (po, AI cI 40 cp), (qt, AI cI 10 ti), (out, AJ cJ 1 fo)])) (fun _ => rfl) (fun r_1 u h_2 => ?_)
  subst h_2
  refine x_i2l C _ dL_colour_8 rfl ?_
  refine x_last C hK 8 1 rfl hJ (by omega) (by omega) [(x, OB 4 [.ref qw, .ref qv, .ref qt, .int ri, .ref qd, .ref qc, .ref ql]), (qw, OB 3 [.ref wa, .ref wo, .int (nI nw)]), (wa, AI cI 40 bw), (wo, AI cI 40 cw), (qv, OB 3 [.ref pa, .ref po, .int (nI np)]), (pa, AI cI 40 bp), (po, AI cI 40 cp), (qt, AI cI 10 ti), (out, AJ cJ 1 (vp_updL fo 0 ((if hbit (suA ri ti (bp pk)) (bw en) then cw en else cp pk).toInt64)))] rfl dL_colour_9 ?_
  refine x_goto C 17 dL_colour_10 (by decide) ?_
  refine x_iconst C (nI 0) dL_colour_17 (by decide +kernel) ?_
  refine x_iret C hK hlk hrt hQ hH0 hAA () ?_ [0, 1, 2, 3, 4, 5, 6, 7, 8] (by decide) rfl (by first | decide | omega) (by first | decide | omega) dL_colour_18
  first | rfl | (exact ⟨rfl, rfl⟩) | trivial | assumption | omega
abbrev rm_w_colourX : Room := { frames := 7, cells := 1, slots := 6, locals := 104 }
set_option maxRecDepth 100000 in
set_option maxHeartbeats 4000000 in
theorem c_w_colourX (l : Launch) (hl0 : l.stackTraces = false) (D : va_G) (tys : List (ClassId × FieldType)) (cI cJ : ClassId) (hI : tys[0]? = some (cI, .int)) (hJ : tys[1]? = some (cJ, .long)) (x : Nat) (qw : Nat) (qv : Nat) (qt : Nat) (ri : Int32) (qd : Nat) (qc : Nat) (ql : Nat) (wa : Nat) (wo : Nat) (nw : Nat) (bw : Nat → Int32) (cw : Nat → Int32) (pa : Nat) (po : Nat) (np : Nat) (bp : Nat → Int32) (cp : Nat → Int32) (pk : Int32) (en : Int32) (out : Nat) (fo : Nat → Int64) (hnw : nw ≤ 40) (hnp : np ≤ 40) (hx : ¬ (below pk np = true ∧ below en nw = true)) : MIW l yL_colour wsL_colour rm_w_colourX D tys [.ref x, .int pk, .int en, .ref out] [(x, OB 4 [.ref qw, .ref qv, .ref qt, .int ri, .ref qd, .ref qc, .ref ql]), (qw, OB 3 [.ref wa, .ref wo, .int (nI nw)]), (wa, AI cI 40 bw), (wo, AI cI 40 cw), (qv, OB 3 [.ref pa, .ref po, .int (nI np)]), (pa, AI cI 40 bp), (po, AI cI 40 cp), (out, AJ cJ 1 fo)] Unit (fun r (_ : Unit) => r = nI 1) (fun (_ : Unit) => [(x, OB 4 [.ref qw, .ref qv, .ref qt, .int ri, .ref qd, .ref qc, .ref ql]), (qw, OB 3 [.ref wa, .ref wo, .int (nI nw)]), (wa, AI cI 40 bw), (wo, AI cI 40 cw), (qv, OB 3 [.ref pa, .ref po, .int (nI np)]), (pa, AI cI 40 bp), (po, AI cI 40 cp), (out, AJ cJ 1 fo)]) 1 6 := by
  intro sz
  refine x_metW (cc := cL_colour) (maxL := 5) (ret := (some .int)) (by decide +kernel) rfl (by show _ ≤ _; simp [lg_sl, Value.category]) [(0, .ref x), (1, .int pk), (2, .int en), (3, .ref out)] rfl ?_
  intro p e s m args below meth c Q A H0 C hK hNW hlk hrt hnm hQ hH0 hAA hA hZ hNC htab
  refine x_aload_n C dL_colour_0 rfl 3 rfl ?_
  refine x_iconst C (nI 0) dL_colour_1 (by decide +kernel) ?_
  refine x_aload_n C dL_colour_2 rfl 0 rfl ?_
  refine x_iload_n C dL_colour_3 rfl 1 rfl ?_
  refine x_iload_n C dL_colour_4 rfl 2 rfl ?_
  refine x_callXi (x_runVX C hK hNW hH0 hZ hA (c_colourX l hl0 D tys cI cJ hI hJ x qw qv qt ri qd qc ql wa wo nw bw cw pa po np bp cp pk en (by first | omega | assumption) (by first | omega | assumption) (by first | omega | assumption)) (cwV 2 C.2.2.2.2 gL_colour_X4_colour rfl rfl rfl (by decide +kernel) ⟨by decide, by decide⟩) [0, 1, 2, 3, 4, 5, 6] rfl (by decide) 0 4 rfl rfl rfl (st := [.int (nI 0), .ref out]) rfl rfl (Nat.le_of_ble_eq_true rfl) dL_colour_5 ⟨by first | decide | omega, by first | decide | omega⟩) hA [0, 1, 2, 3, 4, 5, 6] rfl [7] [(out, AJ cJ 1 fo)] rfl (by decide) (by decide) [1, 2, 3, 4, 5, 6, 7, 0] (by decide) (wf := fun _ => [(x, OB 4 [.ref qw, .ref qv, .ref qt, .int ri, .ref qd, .ref qc, .ref ql]), (qw, OB 3 [.ref wa, .ref wo, .int (nI nw)]), (wa, AI cI 40 bw), (wo, AI cI 40 cw), (qv, OB 3 [.ref pa, .ref po, .int (nI np)]), (pa, AI cI 40 bp), (po, AI cI 40 cp), (out, AJ cJ 1 fo)]) (fun _ => rfl) (wsx := [(x, OB 4 [.ref qw, .ref qv, .ref qt, .int ri, .ref qd, .ref qc, .ref ql]), (qw, OB 3 [.ref wa, .ref wo, .int (nI nw)]), (wa, AI cI 40 bw), (wo, AI cI 40 cw), (qv, OB 3 [.ref pa, .ref po, .int (nI np)]), (pa, AI cI 40 bp), (po, AI cI 40 cp), (out, AJ cJ 1 fo)]) rfl (fun E9 hE9 => ?_) (fun _ _ hf9 => False.elim hf9)
  have hE8 : E9 = "java/lang/IndexOutOfBoundsException" := hE9
  subst hE8
  refine x_catch C hNW (name := "java/lang/IndexOutOfBoundsException") [] ⟨0, 10, 13, 23⟩ [] htab (fun z hz => by cases hz) (by decide) (by decide) (by decide +kernel) 45 rfl 13 rfl (fun qx_3 => ?_)
  refine x_astore C [(4, .ref qx_3), (0, .ref x), (1, .int pk), (2, .int en), (3, .ref out)] dL_colour_13 (by decide) rfl ?_
  refine x_iconst C (nI 1) dL_colour_15 (by decide +kernel) ?_
  refine x_iret C hK hlk hrt hQ hH0 hAA () ?_ [0, 1, 2, 3, 4, 5, 6, 7] (by decide) rfl (by first | decide | omega) (by first | decide | omega) dL_colour_16
  first | rfl | (exact ⟨rfl, rfl⟩) | trivial | assumption | omega
abbrev rm_w_floats1 : Room := { frames := 5, cells := 1, slots := 6, locals := 115 }
set_option maxRecDepth 100000 in
set_option maxHeartbeats 4000000 in
theorem c_w_floats1 (l : Launch) (hl0 : l.stackTraces = false) (D : va_G) (tys : List (ClassId × FieldType)) (cI cJ : ClassId) (hI : tys[0]? = some (cI, .int)) (hJ : tys[1]? = some (cJ, .long)) (x : Nat) (qw : Nat) (qv : Nat) (qt : Nat) (ri : Int32) (qd : Nat) (qc : Nat) (ql : Nat) (wa : Nat) (wo : Nat) (nw : Nat) (bw : Nat → Int32) (cw : Nat → Int32) (pa : Nat) (po : Nat) (np : Nat) (bp : Nat → Int32) (cp : Nat → Int32) (ti : Nat → Int32) (ce : Nat) (cf : Nat) (ven : Int32) (vpn : Int32) (fe : Nat → Int64) (ff : Nat → Int32) (ln : Nat) (out : Nat) (fo : Nat → Int64) (hnw : nw ≤ 40) (hnp : np ≤ 40) (h1 : 1 ≤ ln) (h2 : ln ≤ 40) : MIW l yL_floats wsL_floats rm_w_floats1 D tys [.ref x, .int (nI 1), .int (nI ln), .ref out] [(x, OB 4 [.ref qw, .ref qv, .ref qt, .int ri, .ref qd, .ref qc, .ref ql]), (qw, OB 3 [.ref wa, .ref wo, .int (nI nw)]), (wa, AI cI 40 bw), (wo, AI cI 40 cw), (qv, OB 3 [.ref pa, .ref po, .int (nI np)]), (pa, AI cI 40 bp), (po, AI cI 40 cp), (qt, AI cI 10 ti), (qc, OB 0 [.ref ce, .ref cf, .int ven, .int vpn]), (ce, AJ cJ 40 fe), (cf, AI cI 41 ff), (out, AJ cJ 1 fo)] Unit (fun r (_ : Unit) => r = nI 0) (fun (_ : Unit) => [(x, OB 4 [.ref qw, .ref qv, .ref qt, .int ri, .ref qd, .ref qc, .ref ql]), (qw, OB 3 [.ref wa, .ref wo, .int (nI nw)]), (wa, AI cI 40 bw), (wo, AI cI 40 cw), (qv, OB 3 [.ref pa, .ref po, .int (nI np)]), (pa, AI cI 40 bp), (po, AI cI 40 cp), (qt, AI cI 10 ti), (qc, OB 0 [.ref ce, .ref cf, .int (nI nw), .int (nI np)]), (ce, AJ cJ 40 (wvF ri ti bp bw nw fe np)), (cf, AI cI 41 (cfT (fun x0 y0 => hbit ((wvF ri ti bp bw nw fe np) y0) (nI x0) == true) np (flF ff 0 41) nw)), (out, AJ cJ 1 (vp_updL fo 0 ((cfT (fun x0 y0 => hbit ((wvF ri ti bp bw nw fe np) y0) (nI x0) == true) np (flF ff 0 41) nw) ln).toInt64))]) 1 6 := by
  intro sz
  refine x_metW (cc := cL_floats) (maxL := 5) (ret := (some .int)) (by decide +kernel) rfl (by show _ ≤ _; simp [lg_sl, Value.category]) [(0, .ref x), (1, .int (nI 1)), (2, .int (nI ln)), (3, .ref out)] rfl ?_
  intro p e s m args below meth c Q A H0 C hK hNW hlk hrt hnm hQ hH0 hAA hA hZ hNC htab
  refine x_aload_n C dL_floats_0 rfl 3 rfl ?_
  refine x_iconst C (nI 0) dL_floats_1 (by decide +kernel) ?_
  refine x_aload_n C dL_floats_2 rfl 0 rfl ?_
  refine x_iload_n C dL_floats_3 rfl 1 rfl ?_
  refine x_iload_n C dL_floats_4 rfl 2 rfl ?_
  refine x_calli (x_runV C hK hNW (c_floats1 l D tys cI cJ hI hJ x qw qv qt ri qd qc ql wa wo nw bw cw pa po np bp cp ti ce cf ven vpn fe ff ln (by first | omega | assumption) (by first | omega | assumption) (by first | omega | assumption) (by first | omega | assumption)) (cwV 2 C.2.2.2.2 gL_floats_X4_floats rfl rfl rfl (by decide +kernel) ⟨by decide, by decide⟩) [0, 1, 2, 3, 4, 5, 6, 7, 8, 9, 10] rfl (by decide) 0 4 rfl rfl rfl (st := [.int (nI 0), .ref out]) rfl rfl (Nat.le_of_ble_eq_true rfl) dL_floats_5 ⟨by first | decide | omega, by first | decide | omega⟩) hA [0, 1, 2, 3, 4, 5, 6, 7, 8, 9, 10] rfl [11] [(out, AJ cJ 1 fo)] rfl (by decide) (by decide) [1, 2, 3, 4, 5, 6, 7, 8, 9, 10, 11, 0] (by decide) (wf := (fun (u : Unit) => [(x, OB 4 [.ref qw, .ref qv, .ref qt, .int ri, .ref qd, .ref qc, .ref ql]), (qw, OB 3 [.ref wa, .ref wo, .int (nI nw)]), (wa, AI cI 40 bw), (wo, AI cI 40 cw), (qv, OB 3 [.ref pa, .ref po, .int (nI np)]), (pa, AI cI 40 bp), (po, AI cI 40 cp), (qt, AI cI 10 ti), (qc, OB 0 [.ref ce, .ref cf, .int (nI nw), .int (nI np)]), (ce, AJ cJ 40 (wvF ri ti bp bw nw fe np)), (cf, AI cI 41 (cfT (fun x0 y0 => hbit ((wvF ri ti bp bw nw fe np) y0) (nI x0) == true) np (flF ff 0 41) nw)), (out, AJ cJ 1 fo)])) (fun _ => rfl) (fun r_1 u h_2 => ?_)
  subst h_2
  refine x_i2l C _ dL_floats_8 rfl ?_
  refine x_last C hK 11 1 rfl hJ (by omega) (by omega) [(x, OB 4 [.ref qw, .ref qv, .ref qt, .int ri, .ref qd, .ref qc, .ref ql]), (qw, OB 3 [.ref wa, .ref wo, .int (nI nw)]), (wa, AI cI 40 bw), (wo, AI cI 40 cw), (qv, OB 3 [.ref pa, .ref po, .int (nI np)]), (pa, AI cI 40 bp), (po, AI cI 40 cp), (qt, AI cI 10 ti), (qc, OB 0 [.ref ce, .ref cf, .int (nI nw), .int (nI np)]), (ce, AJ cJ 40 (wvF ri ti bp bw nw fe np)), (cf, AI cI 41 (cfT (fun x0 y0 => hbit ((wvF ri ti bp bw nw fe np) y0) (nI x0) == true) np (flF ff 0 41) nw)), (out, AJ cJ 1 (vp_updL fo 0 (((cfT (fun x0 y0 => hbit ((wvF ri ti bp bw nw fe np) y0) (nI x0) == true) np (flF ff 0 41) nw) ln).toInt64)))] rfl dL_floats_9 ?_
  refine x_goto C 17 dL_floats_10 (by decide) ?_
  refine x_iconst C (nI 0) dL_floats_17 (by decide +kernel) ?_
  refine x_iret C hK hlk hrt hQ hH0 hAA () ?_ [0, 1, 2, 3, 4, 5, 6, 7, 8, 9, 10, 11] (by decide) rfl (by first | decide | omega) (by first | decide | omega) dL_floats_18
  first | rfl | (exact ⟨rfl, rfl⟩) | trivial | assumption | omega
abbrev rm_w_floats0 : Room := { frames := 5, cells := 1, slots := 6, locals := 115 }
set_option maxRecDepth 100000 in
set_option maxHeartbeats 4000000 in
theorem c_w_floats0 (l : Launch) (hl0 : l.stackTraces = false) (D : va_G) (tys : List (ClassId × FieldType)) (cI cJ : ClassId) (hI : tys[0]? = some (cI, .int)) (hJ : tys[1]? = some (cJ, .long)) (x : Nat) (qw : Nat) (qv : Nat) (qt : Nat) (ri : Int32) (qd : Nat) (qc : Nat) (ql : Nat) (wa : Nat) (wo : Nat) (nw : Nat) (bw : Nat → Int32) (cw : Nat → Int32) (pa : Nat) (po : Nat) (np : Nat) (bp : Nat → Int32) (cp : Nat → Int32) (ti : Nat → Int32) (ce : Nat) (cf : Nat) (ven : Int32) (vpn : Int32) (fe : Nat → Int64) (ff : Nat → Int32) (ln : Nat) (out : Nat) (fo : Nat → Int64) (hnw : nw ≤ 40) (hnp : np ≤ 40) (h1 : 1 ≤ ln) (h2 : ln ≤ 40) : MIW l yL_floats wsL_floats rm_w_floats0 D tys [.ref x, .int (nI 0), .int (nI ln), .ref out] [(x, OB 4 [.ref qw, .ref qv, .ref qt, .int ri, .ref qd, .ref qc, .ref ql]), (qw, OB 3 [.ref wa, .ref wo, .int (nI nw)]), (wa, AI cI 40 bw), (wo, AI cI 40 cw), (qv, OB 3 [.ref pa, .ref po, .int (nI np)]), (pa, AI cI 40 bp), (po, AI cI 40 cp), (qt, AI cI 10 ti), (qc, OB 0 [.ref ce, .ref cf, .int ven, .int vpn]), (ce, AJ cJ 40 fe), (cf, AI cI 41 ff), (out, AJ cJ 1 fo)] Unit (fun r (_ : Unit) => r = nI 0) (fun (_ : Unit) => [(x, OB 4 [.ref qw, .ref qv, .ref qt, .int ri, .ref qd, .ref qc, .ref ql]), (qw, OB 3 [.ref wa, .ref wo, .int (nI nw)]), (wa, AI cI 40 bw), (wo, AI cI 40 cw), (qv, OB 3 [.ref pa, .ref po, .int (nI np)]), (pa, AI cI 40 bp), (po, AI cI 40 cp), (qt, AI cI 10 ti), (qc, OB 0 [.ref ce, .ref cf, .int (nI nw), .int (nI np)]), (ce, AJ cJ 40 (wvF ri ti bp bw nw fe np)), (cf, AI cI 41 (cfT (fun x0 y0 => hbit ((wvF ri ti bp bw nw fe np) x0) (nI y0) == false) nw (flF ff 0 41) np)), (out, AJ cJ 1 (vp_updL fo 0 ((cfT (fun x0 y0 => hbit ((wvF ri ti bp bw nw fe np) x0) (nI y0) == false) nw (flF ff 0 41) np) ln).toInt64))]) 1 6 := by
  intro sz
  refine x_metW (cc := cL_floats) (maxL := 5) (ret := (some .int)) (by decide +kernel) rfl (by show _ ≤ _; simp [lg_sl, Value.category]) [(0, .ref x), (1, .int (nI 0)), (2, .int (nI ln)), (3, .ref out)] rfl ?_
  intro p e s m args below meth c Q A H0 C hK hNW hlk hrt hnm hQ hH0 hAA hA hZ hNC htab
  refine x_aload_n C dL_floats_0 rfl 3 rfl ?_
  refine x_iconst C (nI 0) dL_floats_1 (by decide +kernel) ?_
  refine x_aload_n C dL_floats_2 rfl 0 rfl ?_
  refine x_iload_n C dL_floats_3 rfl 1 rfl ?_
  refine x_iload_n C dL_floats_4 rfl 2 rfl ?_
  refine x_calli (x_runV C hK hNW (c_floats0 l D tys cI cJ hI hJ x qw qv qt ri qd qc ql wa wo nw bw cw pa po np bp cp ti ce cf ven vpn fe ff ln (by first | omega | assumption) (by first | omega | assumption) (by first | omega | assumption) (by first | omega | assumption)) (cwV 2 C.2.2.2.2 gL_floats_X4_floats rfl rfl rfl (by decide +kernel) ⟨by decide, by decide⟩) [0, 1, 2, 3, 4, 5, 6, 7, 8, 9, 10] rfl (by decide) 0 4 rfl rfl rfl (st := [.int (nI 0), .ref out]) rfl rfl (Nat.le_of_ble_eq_true rfl) dL_floats_5 ⟨by first | decide | omega, by first | decide | omega⟩) hA [0, 1, 2, 3, 4, 5, 6, 7, 8, 9, 10] rfl [11] [(out, AJ cJ 1 fo)] rfl (by decide) (by decide) [1, 2, 3, 4, 5, 6, 7, 8, 9, 10, 11, 0] (by decide) (wf := (fun (u : Unit) => [(x, OB 4 [.ref qw, .ref qv, .ref qt, .int ri, .ref qd, .ref qc, .ref ql]), (qw, OB 3 [.ref wa, .ref wo, .int (nI nw)]), (wa, AI cI 40 bw), (wo, AI cI 40 cw), (qv, OB 3 [.ref pa, .ref po, .int (nI np)]), (pa, AI cI 40 bp), (po, AI cI 40 cp), (qt, AI cI 10 ti), (qc, OB 0 [.ref ce, .ref cf, .int (nI nw), .int (nI np)]), (ce, AJ cJ 40 (wvF ri ti bp bw nw fe np)), (cf, AI cI 41 (cfT (fun x0 y0 => hbit ((wvF ri ti bp bw nw fe np) x0) (nI y0) == false) nw (flF ff 0 41) np)), (out, AJ cJ 1 fo)])) (fun _ => rfl) (fun r_1 u h_2 => ?_)
  subst h_2
  refine x_i2l C _ dL_floats_8 rfl ?_
  refine x_last C hK 11 1 rfl hJ (by omega) (by omega) [(x, OB 4 [.ref qw, .ref qv, .ref qt, .int ri, .ref qd, .ref qc, .ref ql]), (qw, OB 3 [.ref wa, .ref wo, .int (nI nw)]), (wa, AI cI 40 bw), (wo, AI cI 40 cw), (qv, OB 3 [.ref pa, .ref po, .int (nI np)]), (pa, AI cI 40 bp), (po, AI cI 40 cp), (qt, AI cI 10 ti), (qc, OB 0 [.ref ce, .ref cf, .int (nI nw), .int (nI np)]), (ce, AJ cJ 40 (wvF ri ti bp bw nw fe np)), (cf, AI cI 41 (cfT (fun x0 y0 => hbit ((wvF ri ti bp bw nw fe np) x0) (nI y0) == false) nw (flF ff 0 41) np)), (out, AJ cJ 1 (vp_updL fo 0 (((cfT (fun x0 y0 => hbit ((wvF ri ti bp bw nw fe np) x0) (nI y0) == false) nw (flF ff 0 41) np) ln).toInt64)))] rfl dL_floats_9 ?_
  refine x_goto C 17 dL_floats_10 (by decide) ?_
  refine x_iconst C (nI 0) dL_floats_17 (by decide +kernel) ?_
  refine x_iret C hK hlk hrt hQ hH0 hAA () ?_ [0, 1, 2, 3, 4, 5, 6, 7, 8, 9, 10, 11] (by decide) rfl (by first | decide | omega) (by first | decide | omega) dL_floats_18
  first | rfl | (exact ⟨rfl, rfl⟩) | trivial | assumption | omega
abbrev rm_w_floatsX : Room := { frames := 7, cells := 1, slots := 6, locals := 103 }
set_option maxRecDepth 100000 in
set_option maxHeartbeats 4000000 in
theorem c_w_floatsX (l : Launch) (hl0 : l.stackTraces = false) (D : va_G) (tys : List (ClassId × FieldType)) (cI cJ : ClassId) (hI : tys[0]? = some (cI, .int)) (hJ : tys[1]? = some (cJ, .long)) (x : Nat) (qw : Nat) (qv : Nat) (qt : Nat) (ri : Int32) (qd : Nat) (qc : Nat) (ql : Nat) (w0 : Int32) (ln : Int32) (out : Nat) (fo : Nat → Int64) (hx : ¬ (¬ ln < nI 1 ∧ ln ≤ nI 40)) : MIW l yL_floats wsL_floats rm_w_floatsX D tys [.ref x, .int w0, .int ln, .ref out] [(x, OB 4 [.ref qw, .ref qv, .ref qt, .int ri, .ref qd, .ref qc, .ref ql]), (out, AJ cJ 1 fo)] Unit (fun r (_ : Unit) => r = nI 1) (fun (_ : Unit) => [(x, OB 4 [.ref qw, .ref qv, .ref qt, .int ri, .ref qd, .ref qc, .ref ql]), (out, AJ cJ 1 fo)]) 1 6 := by
  intro sz
  refine x_metW (cc := cL_floats) (maxL := 5) (ret := (some .int)) (by decide +kernel) rfl (by show _ ≤ _; simp [lg_sl, Value.category]) [(0, .ref x), (1, .int w0), (2, .int ln), (3, .ref out)] rfl ?_
  intro p e s m args below meth c Q A H0 C hK hNW hlk hrt hnm hQ hH0 hAA hA hZ hNC htab
  refine x_aload_n C dL_floats_0 rfl 3 rfl ?_
  refine x_iconst C (nI 0) dL_floats_1 (by decide +kernel) ?_
  refine x_aload_n C dL_floats_2 rfl 0 rfl ?_
  refine x_iload_n C dL_floats_3 rfl 1 rfl ?_
  refine x_iload_n C dL_floats_4 rfl 2 rfl ?_
  refine x_callXi (x_runVX C hK hNW hH0 hZ hA (c_floatsX l hl0 D tys cI cJ hI hJ x qw qv qt ri qd qc ql w0 ln (by first | omega | assumption)) (cwV 2 C.2.2.2.2 gL_floats_X4_floats rfl rfl rfl (by decide +kernel) ⟨by decide, by decide⟩) [0] rfl (by decide) 0 4 rfl rfl rfl (st := [.int (nI 0), .ref out]) rfl rfl (Nat.le_of_ble_eq_true rfl) dL_floats_5 ⟨by first | decide | omega, by first | decide | omega⟩) hA [0] rfl [1] [(out, AJ cJ 1 fo)] rfl (by decide) (by decide) [1, 0] (by decide) (wf := fun _ => [(x, OB 4 [.ref qw, .ref qv, .ref qt, .int ri, .ref qd, .ref qc, .ref ql]), (out, AJ cJ 1 fo)]) (fun _ => rfl) (wsx := [(x, OB 4 [.ref qw, .ref qv, .ref qt, .int ri, .ref qd, .ref qc, .ref ql]), (out, AJ cJ 1 fo)]) rfl (fun E9 hE9 => ?_) (fun _ _ hf9 => False.elim hf9)
  have hE8 : E9 = "java/lang/IllegalArgumentException" := hE9
  subst hE8
  refine x_catch C hNW (name := "java/lang/IllegalArgumentException") [] ⟨0, 10, 13, 13⟩ [] htab (fun z hz => by cases hz) (by decide) (by decide) (by decide +kernel) 43 rfl 13 rfl (fun qx_3 => ?_)
  refine x_astore C [(4, .ref qx_3), (0, .ref x), (1, .int w0), (2, .int ln), (3, .ref out)] dL_floats_13 (by decide) rfl ?_
  refine x_iconst C (nI 1) dL_floats_15 (by decide +kernel) ?_
  refine x_iret C hK hlk hrt hQ hH0 hAA () ?_ [0, 1] (by decide) rfl (by first | decide | omega) (by first | decide | omega) dL_floats_16
  first | rfl | (exact ⟨rfl, rfl⟩) | trivial | assumption | omega
abbrev rm_w_colourAt : Room := { frames := 3, cells := 1, slots := 6, locals := 69 }
set_option maxRecDepth 100000 in
set_option maxHeartbeats 4000000 in
theorem c_w_colourAt (l : Launch) (hl0 : l.stackTraces = false) (D : va_G) (tys : List (ClassId × FieldType)) (cI cJ : ClassId) (hI : tys[0]? = some (cI, .int)) (hJ : tys[1]? = some (cJ, .long)) (x : Nat) (qw : Nat) (qv : Nat) (qt : Nat) (ri : Int32) (qd : Nat) (qc : Nat) (ql : Nat) (wa : Nat) (wo : Nat) (nw : Nat) (bw : Nat → Int32) (cw : Nat → Int32) (pa : Nat) (po : Nat) (np : Nat) (bp : Nat → Int32) (cp : Nat → Int32) (ix : Int32) (fi : Nat) (out : Nat) (fo : Nat → Int64) (hnw : nw ≤ 40) (hnp : np ≤ 40) (hfi : fi < nw + np) (hnew : hbit (seF (colF nw cw cp) fi).toInt64 ((colF nw cw cp) fi) = false) (hbc : bc32 (seF (colF nw cw cp) fi) = ix) (hno : ∀ j, j < fi → hbit (seF (colF nw cw cp) j).toInt64 ((colF nw cw cp) j) = false → bc32 (seF (colF nw cw cp) j) ≠ ix) (hpos : ¬ (colF nw cw cp) fi < 0) : MIW l yL_colourAt wsL_colourAt rm_w_colourAt D tys [.ref x, .int ix, .ref out] [(x, OB 4 [.ref qw, .ref qv, .ref qt, .int ri, .ref qd, .ref qc, .ref ql]), (qw, OB 3 [.ref wa, .ref wo, .int (nI nw)]), (wa, AI cI 40 bw), (wo, AI cI 40 cw), (qv, OB 3 [.ref pa, .ref po, .int (nI np)]), (pa, AI cI 40 bp), (po, AI cI 40 cp), (out, AJ cJ 1 fo)] Unit (fun r (_ : Unit) => r = nI 0) (fun (_ : Unit) => [(x, OB 4 [.ref qw, .ref qv, .ref qt, .int ri, .ref qd, .ref qc, .ref ql]), (qw, OB 3 [.ref wa, .ref wo, .int (nI nw)]), (wa, AI cI 40 bw), (wo, AI cI 40 cw), (qv, OB 3 [.ref pa, .ref po, .int (nI np)]), (pa, AI cI 40 bp), (po, AI cI 40 cp), (out, AJ cJ 1 (vp_updL fo 0 ((colF nw cw cp) fi).toInt64))]) 1 6 := by
  intro sz
  refine x_metW (cc := cL_colourAt) (maxL := 4) (ret := (some .int)) (by decide +kernel) rfl (by show _ ≤ _; simp [lg_sl, Value.category]) [(0, .ref x), (1, .int ix), (2, .ref out)] rfl ?_
  intro p e s m args below meth c Q A H0 C hK hNW hlk hrt hnm hQ hH0 hAA hA hZ hNC htab
  refine x_aload_n C dL_colourAt_0 rfl 2 rfl ?_
  refine x_iconst C (nI 0) dL_colourAt_1 (by decide +kernel) ?_
  refine x_aload_n C dL_colourAt_2 rfl 0 rfl ?_
  refine x_iload_n C dL_colourAt_3 rfl 1 rfl ?_
  refine x_calli (x_runV C hK hNW (c_colourAt l D tys cI cJ hI hJ x qw qv qt ri qd qc ql wa wo nw bw cw pa po np bp cp ix fi (by first | omega | assumption) (by first | omega | assumption) (by first | omega | assumption) (by first | omega | assumption) (by first | omega | assumption) (by first | omega | assumption) (by first | omega | assumption)) (cwV 1 C.2.2.2.2 gL_colourAt_X4_colourAt rfl rfl rfl (by decide +kernel) ⟨by decide, by decide⟩) [0, 1, 2, 3, 4, 5, 6] rfl (by decide) 0 4 rfl rfl rfl (st := [.int (nI 0), .ref out]) rfl rfl (Nat.le_of_ble_eq_true rfl) dL_colourAt_4 ⟨by first | decide | omega, by first | decide | omega⟩) hA [0, 1, 2, 3, 4, 5, 6] rfl [7] [(out, AJ cJ 1 fo)] rfl (by decide) (by decide) [1, 2, 3, 4, 5, 6, 7, 0] (by decide) (wf := (fun (u : Unit) => [(x, OB 4 [.ref qw, .ref qv, .ref qt, .int ri, .ref qd, .ref qc, .ref ql]), (qw, OB 3 [.ref wa, .ref wo, .int (nI nw)]), (wa, AI cI 40 bw), (wo, AI cI 40 cw), (qv, OB 3 [.ref pa, .ref po, .int (nI np)]), (pa, AI cI 40 bp), (po, AI cI 40 cp), (out, AJ cJ 1 fo)])) (fun _ => rfl) (fun r_1 u h_2 => ?_)
  subst h_2
  refine x_i2l C _ dL_colourAt_7 rfl ?_
  refine x_last C hK 7 1 rfl hJ (by omega) (by omega) [(x, OB 4 [.ref qw, .ref qv, .ref qt, .int ri, .ref qd, .ref qc, .ref ql]), (qw, OB 3 [.ref wa, .ref wo, .int (nI nw)]), (wa, AI cI 40 bw), (wo, AI cI 40 cw), (qv, OB 3 [.ref pa, .ref po, .int (nI np)]), (pa, AI cI 40 bp), (po, AI cI 40 cp), (out, AJ cJ 1 (vp_updL fo 0 (((colF nw cw cp) fi).toInt64)))] rfl dL_colourAt_8 ?_
  refine x_goto C 15 dL_colourAt_9 (by decide) ?_
  refine x_iconst C (nI 0) dL_colourAt_15 (by decide +kernel) ?_
  refine x_iret C hK hlk hrt hQ hH0 hAA () ?_ [0, 1, 2, 3, 4, 5, 6, 7] (by decide) rfl (by first | decide | omega) (by first | decide | omega) dL_colourAt_16
  first | rfl | (exact ⟨rfl, rfl⟩) | trivial | assumption | omega
abbrev rm_w_colourAtX : Room := { frames := 7, cells := 1, slots := 6, locals := 103 }
set_option maxRecDepth 100000 in
set_option maxHeartbeats 4000000 in
theorem c_w_colourAtX (l : Launch) (hl0 : l.stackTraces = false) (D : va_G) (tys : List (ClassId × FieldType)) (cI cJ : ClassId) (hI : tys[0]? = some (cI, .int)) (hJ : tys[1]? = some (cJ, .long)) (x : Nat) (qw : Nat) (qv : Nat) (qt : Nat) (ri : Int32) (qd : Nat) (qc : Nat) (ql : Nat) (wa : Nat) (wo : Nat) (nw : Nat) (bw : Nat → Int32) (cw : Nat → Int32) (pa : Nat) (po : Nat) (np : Nat) (bp : Nat → Int32) (cp : Nat → Int32) (ix : Int32) (out : Nat) (fo : Nat → Int64) (hnw : nw ≤ 40) (hnp : np ≤ 40) (hno : ∀ j, j < nw + np → hbit (seF (colF nw cw cp) j).toInt64 ((colF nw cw cp) j) = false → bc32 (seF (colF nw cw cp) j) ≠ ix) : MIW l yL_colourAt wsL_colourAt rm_w_colourAtX D tys [.ref x, .int ix, .ref out] [(x, OB 4 [.ref qw, .ref qv, .ref qt, .int ri, .ref qd, .ref qc, .ref ql]), (qw, OB 3 [.ref wa, .ref wo, .int (nI nw)]), (wa, AI cI 40 bw), (wo, AI cI 40 cw), (qv, OB 3 [.ref pa, .ref po, .int (nI np)]), (pa, AI cI 40 bp), (po, AI cI 40 cp), (out, AJ cJ 1 fo)] Unit (fun r (_ : Unit) => r = nI 1) (fun (_ : Unit) => [(x, OB 4 [.ref qw, .ref qv, .ref qt, .int ri, .ref qd, .ref qc, .ref ql]), (qw, OB 3 [.ref wa, .ref wo, .int (nI nw)]), (wa, AI cI 40 bw), (wo, AI cI 40 cw), (qv, OB 3 [.ref pa, .ref po, .int (nI np)]), (pa, AI cI 40 bp), (po, AI cI 40 cp), (out, AJ cJ 1 fo)]) 1 6 := by
  intro sz
  refine x_metW (cc := cL_colourAt) (maxL := 4) (ret := (some .int)) (by decide +kernel) rfl (by show _ ≤ _; simp [lg_sl, Value.category]) [(0, .ref x), (1, .int ix), (2, .ref out)] rfl ?_
  intro p e s m args below meth c Q A H0 C hK hNW hlk hrt hnm hQ hH0 hAA hA hZ hNC htab
  refine x_aload_n C dL_colourAt_0 rfl 2 rfl ?_
  refine x_iconst C (nI 0) dL_colourAt_1 (by decide +kernel) ?_
  refine x_aload_n C dL_colourAt_2 rfl 0 rfl ?_
  refine x_iload_n C dL_colourAt_3 rfl 1 rfl ?_
  refine x_callXi (x_runVX C hK hNW hH0 hZ hA (c_colourAtX l hl0 D tys cI cJ hI hJ x qw qv qt ri qd qc ql wa wo nw bw cw pa po np bp cp ix (by first | omega | assumption) (by first | omega | assumption) (by first | omega | assumption)) (cwV 1 C.2.2.2.2 gL_colourAt_X4_colourAt rfl rfl rfl (by decide +kernel) ⟨by decide, by decide⟩) [0, 1, 2, 3, 4, 5, 6] rfl (by decide) 0 4 rfl rfl rfl (st := [.int (nI 0), .ref out]) rfl rfl (Nat.le_of_ble_eq_true rfl) dL_colourAt_4 ⟨by first | decide | omega, by first | decide | omega⟩) hA [0, 1, 2, 3, 4, 5, 6] rfl [7] [(out, AJ cJ 1 fo)] rfl (by decide) (by decide) [1, 2, 3, 4, 5, 6, 7, 0] (by decide) (wf := fun _ => [(x, OB 4 [.ref qw, .ref qv, .ref qt, .int ri, .ref qd, .ref qc, .ref ql]), (qw, OB 3 [.ref wa, .ref wo, .int (nI nw)]), (wa, AI cI 40 bw), (wo, AI cI 40 cw), (qv, OB 3 [.ref pa, .ref po, .int (nI np)]), (pa, AI cI 40 bp), (po, AI cI 40 cp), (out, AJ cJ 1 fo)]) (fun _ => rfl) (wsx := [(x, OB 4 [.ref qw, .ref qv, .ref qt, .int ri, .ref qd, .ref qc, .ref ql]), (qw, OB 3 [.ref wa, .ref wo, .int (nI nw)]), (wa, AI cI 40 bw), (wo, AI cI 40 cw), (qv, OB 3 [.ref pa, .ref po, .int (nI np)]), (pa, AI cI 40 bp), (po, AI cI 40 cp), (out, AJ cJ 1 fo)]) rfl (fun E9 hE9 => ?_) (fun _ _ hf9 => False.elim hf9)
  have hE8 : E9 = "java/lang/IndexOutOfBoundsException" := hE9
  subst hE8
  refine x_catch C hNW (name := "java/lang/IndexOutOfBoundsException") [] ⟨0, 9, 12, 23⟩ [] htab (fun z hz => by cases hz) (by decide) (by decide) (by decide +kernel) 45 rfl 12 rfl (fun qx_3 => ?_)
  refine x_astore_n C [(3, .ref qx_3), (0, .ref x), (1, .int ix), (2, .ref out)] dL_colourAt_12 rfl (by decide) rfl ?_
  refine x_iconst C (nI 1) dL_colourAt_13 (by decide +kernel) ?_
  refine x_iret C hK hlk hrt hQ hH0 hAA () ?_ [0, 1, 2, 3, 4, 5, 6, 7] (by decide) rfl (by first | decide | omega) (by first | decide | omega) dL_colourAt_14
  first | rfl | (exact ⟨rfl, rfl⟩) | trivial | assumption | omega
abbrev rm_w_threadsOf : Room := { frames := 2, cells := 1, slots := 6, locals := 44 }
set_option maxRecDepth 100000 in
set_option maxHeartbeats 4000000 in
theorem c_w_threadsOf (l : Launch) (hl0 : l.stackTraces = false) (D : va_G) (tys : List (ClassId × FieldType)) (cI cJ : ClassId) (hI : tys[0]? = some (cI, .int)) (hJ : tys[1]? = some (cJ, .long)) (x : Nat) (qw : Nat) (qv : Nat) (qt : Nat) (ri : Int32) (qd : Nat) (qc : Nat) (ql : Nat) (wa : Nat) (wo : Nat) (nw : Nat) (bw : Nat → Int32) (cw : Nat → Int32) (pa : Nat) (po : Nat) (np : Nat) (bp : Nat → Int32) (cp : Nat → Int32) (cl : Nat) (out : Nat) (fo : Nat → Int64) (hnw : nw ≤ 40) (hnp : np ≤ 40) (hcl : cl < 8) : MIW l yL_threadsOf wsL_threadsOf rm_w_threadsOf D tys [.ref x, .int (nI cl), .ref out] [(x, OB 4 [.ref qw, .ref qv, .ref qt, .int ri, .ref qd, .ref qc, .ref ql]), (qw, OB 3 [.ref wa, .ref wo, .int (nI nw)]), (wa, AI cI 40 bw), (wo, AI cI 40 cw), (qv, OB 3 [.ref pa, .ref po, .int (nI np)]), (pa, AI cI 40 bp), (po, AI cI 40 cp), (out, AJ cJ 1 fo)] Unit (fun r (_ : Unit) => r = nI 0) (fun (_ : Unit) => [(x, OB 4 [.ref qw, .ref qv, .ref qt, .int ri, .ref qd, .ref qc, .ref ql]), (qw, OB 3 [.ref wa, .ref wo, .int (nI nw)]), (wa, AI cI 40 bw), (wo, AI cI 40 cw), (qv, OB 3 [.ref pa, .ref po, .int (nI np)]), (pa, AI cI 40 bp), (po, AI cI 40 cp), (out, AJ cJ 1 (vp_updL fo 0 (nI (cnE cw (nI cl) nw + cnE cp (nI cl) np)).toInt64))]) 1 6 := by
  intro sz
  refine x_metW (cc := cL_threadsOf) (maxL := 4) (ret := (some .int)) (by decide +kernel) rfl (by show _ ≤ _; simp [lg_sl, Value.category]) [(0, .ref x), (1, .int (nI cl)), (2, .ref out)] rfl ?_
  intro p e s m args below meth c Q A H0 C hK hNW hlk hrt hnm hQ hH0 hAA hA hZ hNC htab
  refine x_aload_n C dL_threadsOf_0 rfl 2 rfl ?_
  refine x_iconst C (nI 0) dL_threadsOf_1 (by decide +kernel) ?_
  refine x_aload_n C dL_threadsOf_2 rfl 0 rfl ?_
  refine x_iload_n C dL_threadsOf_3 rfl 1 rfl ?_
  refine x_calli (x_runV C hK hNW (c_threadsOf l D tys cI cJ hI hJ x qw qv qt ri qd qc ql wa wo nw bw cw pa po np bp cp cl (by first | omega | assumption) (by first | omega | assumption) (by first | omega | assumption)) (cwV 1 C.2.2.2.2 gL_threadsOf_X4_threadsOf rfl rfl rfl (by decide +kernel) ⟨by decide, by decide⟩) [0, 1, 2, 3, 4, 5, 6] rfl (by decide) 0 4 rfl rfl rfl (st := [.int (nI 0), .ref out]) rfl rfl (Nat.le_of_ble_eq_true rfl) dL_threadsOf_4 ⟨by first | decide | omega, by first | decide | omega⟩) hA [0, 1, 2, 3, 4, 5, 6] rfl [7] [(out, AJ cJ 1 fo)] rfl (by decide) (by decide) [1, 2, 3, 4, 5, 6, 7, 0] (by decide) (wf := (fun (u : Unit) => [(x, OB 4 [.ref qw, .ref qv, .ref qt, .int ri, .ref qd, .ref qc, .ref ql]), (qw, OB 3 [.ref wa, .ref wo, .int (nI nw)]), (wa, AI cI 40 bw), (wo, AI cI 40 cw), (qv, OB 3 [.ref pa, .ref po, .int (nI np)]), (pa, AI cI 40 bp), (po, AI cI 40 cp), (out, AJ cJ 1 fo)])) (fun _ => rfl) (fun r_1 u h_2 => ?_)
  subst h_2
  refine x_i2l C _ dL_threadsOf_7 rfl ?_
  refine x_last C hK 7 1 rfl hJ (by omega) (by omega) [(x, OB 4 [.ref qw, .ref qv, .ref qt, .int ri, .ref qd, .ref qc, .ref ql]), (qw, OB 3 [.ref wa, .ref wo, .int (nI nw)]), (wa, AI cI 40 bw), (wo, AI cI 40 cw), (qv, OB 3 [.ref pa, .ref po, .int (nI np)]), (pa, AI cI 40 bp), (po, AI cI 40 cp), (out, AJ cJ 1 (vp_updL fo 0 ((nI (cnE cw (nI cl) nw + cnE cp (nI cl) np)).toInt64)))] rfl dL_threadsOf_8 ?_
  refine x_goto C 15 dL_threadsOf_9 (by decide) ?_
  refine x_iconst C (nI 0) dL_threadsOf_15 (by decide +kernel) ?_
  refine x_iret C hK hlk hrt hQ hH0 hAA () ?_ [0, 1, 2, 3, 4, 5, 6, 7] (by decide) rfl (by first | decide | omega) (by first | decide | omega) dL_threadsOf_16
  first | rfl | (exact ⟨rfl, rfl⟩) | trivial | assumption | omega
abbrev rm_w_threadsOfX : Room := { frames := 7, cells := 1, slots := 6, locals := 102 }
set_option maxRecDepth 100000 in
set_option maxHeartbeats 4000000 in
theorem c_w_threadsOfX (l : Launch) (hl0 : l.stackTraces = false) (D : va_G) (tys : List (ClassId × FieldType)) (cI cJ : ClassId) (hI : tys[0]? = some (cI, .int)) (hJ : tys[1]? = some (cJ, .long)) (x : Nat) (qw : Nat) (qv : Nat) (qt : Nat) (ri : Int32) (qd : Nat) (qc : Nat) (ql : Nat) (cl : Int32) (out : Nat) (fo : Nat → Int64) (hx : below cl 8 = false) : MIW l yL_threadsOf wsL_threadsOf rm_w_threadsOfX D tys [.ref x, .int cl, .ref out] [(x, OB 4 [.ref qw, .ref qv, .ref qt, .int ri, .ref qd, .ref qc, .ref ql]), (out, AJ cJ 1 fo)] Unit (fun r (_ : Unit) => r = nI 1) (fun (_ : Unit) => [(x, OB 4 [.ref qw, .ref qv, .ref qt, .int ri, .ref qd, .ref qc, .ref ql]), (out, AJ cJ 1 fo)]) 1 6 := by
  intro sz
  refine x_metW (cc := cL_threadsOf) (maxL := 4) (ret := (some .int)) (by decide +kernel) rfl (by show _ ≤ _; simp [lg_sl, Value.category]) [(0, .ref x), (1, .int cl), (2, .ref out)] rfl ?_
  intro p e s m args below meth c Q A H0 C hK hNW hlk hrt hnm hQ hH0 hAA hA hZ hNC htab
  refine x_aload_n C dL_threadsOf_0 rfl 2 rfl ?_
  refine x_iconst C (nI 0) dL_threadsOf_1 (by decide +kernel) ?_
  refine x_aload_n C dL_threadsOf_2 rfl 0 rfl ?_
  refine x_iload_n C dL_threadsOf_3 rfl 1 rfl ?_
  refine x_callXi (x_runVX C hK hNW hH0 hZ hA (c_threadsOfX l hl0 D tys cI cJ hI hJ x qw qv qt ri qd qc ql cl (by first | omega | assumption)) (cwV 1 C.2.2.2.2 gL_threadsOf_X4_threadsOf rfl rfl rfl (by decide +kernel) ⟨by decide, by decide⟩) [0] rfl (by decide) 0 4 rfl rfl rfl (st := [.int (nI 0), .ref out]) rfl rfl (Nat.le_of_ble_eq_true rfl) dL_threadsOf_4 ⟨by first | decide | omega, by first | decide | omega⟩) hA [0] rfl [1] [(out, AJ cJ 1 fo)] rfl (by decide) (by decide) [1, 0] (by decide) (wf := fun _ => [(x, OB 4 [.ref qw, .ref qv, .ref qt, .int ri, .ref qd, .ref qc, .ref ql]), (out, AJ cJ 1 fo)]) (fun _ => rfl) (wsx := [(x, OB 4 [.ref qw, .ref qv, .ref qt, .int ri, .ref qd, .ref qc, .ref ql]), (out, AJ cJ 1 fo)]) rfl (fun E9 hE9 => ?_) (fun _ _ hf9 => False.elim hf9)
  have hE8 : E9 = "java/lang/IndexOutOfBoundsException" := hE9
  subst hE8
  refine x_catch C hNW (name := "java/lang/IndexOutOfBoundsException") [] ⟨0, 9, 12, 23⟩ [] htab (fun z hz => by cases hz) (by decide) (by decide) (by decide +kernel) 45 rfl 12 rfl (fun qx_3 => ?_)
  refine x_astore_n C [(3, .ref qx_3), (0, .ref x), (1, .int cl), (2, .ref out)] dL_threadsOf_12 rfl (by decide) rfl ?_
  refine x_iconst C (nI 1) dL_threadsOf_13 (by decide +kernel) ?_
  refine x_iret C hK hlk hrt hQ hH0 hAA () ?_ [0, 1] (by decide) rfl (by first | decide | omega) (by first | decide | omega) dL_threadsOf_14
  first | rfl | (exact ⟨rfl, rfl⟩) | trivial | assumption | omega
abbrev rm_w_draw : Room := { frames := 1, cells := 1, slots := 6, locals := 22 }
set_option maxRecDepth 100000 in
set_option maxHeartbeats 4000000 in
theorem c_w_draw (l : Launch) (hl0 : l.stackTraces = false) (D : va_G) (tys : List (ClassId × FieldType)) (cI cJ : ClassId) (hI : tys[0]? = some (cI, .int)) (hJ : tys[1]? = some (cJ, .long)) (x : Nat) (qw : Nat) (qv : Nat) (qt : Nat) (ri : Int32) (qd : Nat) (qc : Nat) (ql : Nat) (dr : Nat) (dk : Nat) (ds : Nat) (dt : Nat) (co : Nat) (dn : Nat) (c1 : Nat) (out : Nat) (fo : Nat → Int64) (h1 : 1 ≤ c1) (h2 : c1 ≤ 40) : MIW l yL_draw wsL_draw rm_w_draw D tys [.ref x, .int (nI c1), .ref out] [(x, OB 4 [.ref qw, .ref qv, .ref qt, .int ri, .ref qd, .ref qc, .ref ql]), (qd, OB 1 [.ref dr, .ref dk, .ref ds, .ref dt, .int (nI co), .int (nI dn)]), (out, AJ cJ 1 fo)] Unit (fun r (_ : Unit) => r = nI 0) (fun (_ : Unit) => [(x, OB 4 [.ref qw, .ref qv, .ref qt, .int ri, .ref qd, .ref qc, .ref ql]), (qd, OB 1 [.ref dr, .ref dk, .ref ds, .ref dt, .int (nI c1), .int (nI 0)]), (out, AJ cJ 1 (vp_updL fo 0 (nI dn).toInt64))]) 1 6 := by
  intro sz
  refine x_metW (cc := cL_draw) (maxL := 4) (ret := (some .int)) (by decide +kernel) rfl (by show _ ≤ _; simp [lg_sl, Value.category]) [(0, .ref x), (1, .int (nI c1)), (2, .ref out)] rfl ?_
  intro p e s m args below meth c Q A H0 C hK hNW hlk hrt hnm hQ hH0 hAA hA hZ hNC htab
  refine x_aload_n C dL_draw_0 rfl 2 rfl ?_
  refine x_iconst C (nI 0) dL_draw_1 (by decide +kernel) ?_
  refine x_aload_n C dL_draw_2 rfl 0 rfl ?_
  refine x_iload_n C dL_draw_3 rfl 1 rfl ?_
  refine x_calli (x_runV C hK hNW (c_draw l D tys cI cJ hI hJ x qw qv qt ri qd qc ql dr dk ds dt co dn c1 (by first | omega | assumption) (by first | omega | assumption)) (cwV 1 C.2.2.2.2 gL_draw_X4_draw rfl rfl rfl (by decide +kernel) ⟨by decide, by decide⟩) [0, 1] rfl (by decide) 0 4 rfl rfl rfl (st := [.int (nI 0), .ref out]) rfl rfl (Nat.le_of_ble_eq_true rfl) dL_draw_4 ⟨by first | decide | omega, by first | decide | omega⟩) hA [0, 1] rfl [2] [(out, AJ cJ 1 fo)] rfl (by decide) (by decide) [1, 2, 0] (by decide) (wf := (fun (u : Unit) => [(x, OB 4 [.ref qw, .ref qv, .ref qt, .int ri, .ref qd, .ref qc, .ref ql]), (qd, OB 1 [.ref dr, .ref dk, .ref ds, .ref dt, .int (nI c1), .int (nI 0)]), (out, AJ cJ 1 fo)])) (fun _ => rfl) (fun r_1 u h_2 => ?_)
  subst h_2
  refine x_i2l C _ dL_draw_7 rfl ?_
  refine x_last C hK 2 1 rfl hJ (by omega) (by omega) [(x, OB 4 [.ref qw, .ref qv, .ref qt, .int ri, .ref qd, .ref qc, .ref ql]), (qd, OB 1 [.ref dr, .ref dk, .ref ds, .ref dt, .int (nI c1), .int (nI 0)]), (out, AJ cJ 1 (vp_updL fo 0 ((nI dn).toInt64)))] rfl dL_draw_8 ?_
  refine x_goto C 15 dL_draw_9 (by decide) ?_
  refine x_iconst C (nI 0) dL_draw_15 (by decide +kernel) ?_
  refine x_iret C hK hlk hrt hQ hH0 hAA () ?_ [0, 1, 2] (by decide) rfl (by first | decide | omega) (by first | decide | omega) dL_draw_16
  first | rfl | (exact ⟨rfl, rfl⟩) | trivial | assumption | omega
abbrev rm_w_drawX : Room := { frames := 7, cells := 1, slots := 6, locals := 103 }
set_option maxRecDepth 100000 in
set_option maxHeartbeats 4000000 in
theorem c_w_drawX (l : Launch) (hl0 : l.stackTraces = false) (D : va_G) (tys : List (ClassId × FieldType)) (cI cJ : ClassId) (hI : tys[0]? = some (cI, .int)) (hJ : tys[1]? = some (cJ, .long)) (x : Nat) (qw : Nat) (qv : Nat) (qt : Nat) (ri : Int32) (qd : Nat) (qc : Nat) (ql : Nat) (ln : Int32) (out : Nat) (fo : Nat → Int64) (hx : ¬ (¬ ln < nI 1 ∧ ln ≤ nI 40)) : MIW l yL_draw wsL_draw rm_w_drawX D tys [.ref x, .int ln, .ref out] [(x, OB 4 [.ref qw, .ref qv, .ref qt, .int ri, .ref qd, .ref qc, .ref ql]), (out, AJ cJ 1 fo)] Unit (fun r (_ : Unit) => r = nI 1) (fun (_ : Unit) => [(x, OB 4 [.ref qw, .ref qv, .ref qt, .int ri, .ref qd, .ref qc, .ref ql]), (out, AJ cJ 1 fo)]) 1 6 := by
  intro sz
  refine x_metW (cc := cL_draw) (maxL := 4) (ret := (some .int)) (by decide +kernel) rfl (by show _ ≤ _; simp [lg_sl, Value.category]) [(0, .ref x), (1, .int ln), (2, .ref out)] rfl ?_
  intro p e s m args below meth c Q A H0 C hK hNW hlk hrt hnm hQ hH0 hAA hA hZ hNC htab
  refine x_aload_n C dL_draw_0 rfl 2 rfl ?_
  refine x_iconst C (nI 0) dL_draw_1 (by decide +kernel) ?_
  refine x_aload_n C dL_draw_2 rfl 0 rfl ?_
  refine x_iload_n C dL_draw_3 rfl 1 rfl ?_
  refine x_callXi (x_runVX C hK hNW hH0 hZ hA (c_drawX l hl0 D tys cI cJ hI hJ x qw qv qt ri qd qc ql ln (by first | omega | assumption)) (cwV 1 C.2.2.2.2 gL_draw_X4_draw rfl rfl rfl (by decide +kernel) ⟨by decide, by decide⟩) [0] rfl (by decide) 0 4 rfl rfl rfl (st := [.int (nI 0), .ref out]) rfl rfl (Nat.le_of_ble_eq_true rfl) dL_draw_4 ⟨by first | decide | omega, by first | decide | omega⟩) hA [0] rfl [1] [(out, AJ cJ 1 fo)] rfl (by decide) (by decide) [1, 0] (by decide) (wf := fun _ => [(x, OB 4 [.ref qw, .ref qv, .ref qt, .int ri, .ref qd, .ref qc, .ref ql]), (out, AJ cJ 1 fo)]) (fun _ => rfl) (wsx := [(x, OB 4 [.ref qw, .ref qv, .ref qt, .int ri, .ref qd, .ref qc, .ref ql]), (out, AJ cJ 1 fo)]) rfl (fun E9 hE9 => ?_) (fun _ _ hf9 => False.elim hf9)
  have hE8 : E9 = "java/lang/IllegalArgumentException" := hE9
  subst hE8
  refine x_catch C hNW (name := "java/lang/IllegalArgumentException") [] ⟨0, 9, 12, 13⟩ [] htab (fun z hz => by cases hz) (by decide) (by decide) (by decide +kernel) 43 rfl 12 rfl (fun qx_3 => ?_)
  refine x_astore_n C [(3, .ref qx_3), (0, .ref x), (1, .int ln), (2, .ref out)] dL_draw_12 rfl (by decide) rfl ?_
  refine x_iconst C (nI 1) dL_draw_13 (by decide +kernel) ?_
  refine x_iret C hK hlk hrt hQ hH0 hAA () ?_ [0, 1] (by decide) rfl (by first | decide | omega) (by first | decide | omega) dL_draw_14
  first | rfl | (exact ⟨rfl, rfl⟩) | trivial | assumption | omega
abbrev rm_w_row : Room := { frames := 2, cells := 1, slots := 6, locals := 42 }
set_option maxRecDepth 100000 in
set_option maxHeartbeats 4000000 in
theorem c_w_row (l : Launch) (hl0 : l.stackTraces = false) (D : va_G) (tys : List (ClassId × FieldType)) (cI cJ : ClassId) (hI : tys[0]? = some (cI, .int)) (hJ : tys[1]? = some (cJ, .long)) (x : Nat) (qw : Nat) (qv : Nat) (qt : Nat) (ri : Int32) (qd : Nat) (qc : Nat) (ql : Nat) (dr : Nat) (dk : Nat) (ds : Nat) (dt : Nat) (co : Nat) (dn : Nat) (fr : Nat → Int64) (cl : Int64) (out : Nat) (fo : Nat → Int64) (h1 : 0 < co) (h1b : co ≤ 40) (h2 : dn < 40) (hok : cl &&& (allof (nI co) ^^^ (-1)) = 0) : MIW l yL_row wsL_row rm_w_row D tys [.ref x, .long cl, .ref out] [(x, OB 4 [.ref qw, .ref qv, .ref qt, .int ri, .ref qd, .ref qc, .ref ql]), (qd, OB 1 [.ref dr, .ref dk, .ref ds, .ref dt, .int (nI co), .int (nI dn)]), (dr, AJ cJ 40 fr), (out, AJ cJ 1 fo)] Unit (fun r (_ : Unit) => r = nI 0) (fun (_ : Unit) => [(x, OB 4 [.ref qw, .ref qv, .ref qt, .int ri, .ref qd, .ref qc, .ref ql]), (qd, OB 1 [.ref dr, .ref dk, .ref ds, .ref dt, .int (nI co), .int (nI (dn + 1))]), (dr, AJ cJ 40 (vp_updL fr dn cl)), (out, AJ cJ 1 (vp_updL fo 0 (nI (dn + 1)).toInt64))]) 1 6 := by
  intro sz
  refine x_metW (cc := cL_row) (maxL := 5) (ret := (some .int)) (by decide +kernel) rfl (by show _ ≤ _; simp [lg_sl, Value.category]) [(0, .ref x), (1, .long cl), (3, .ref out)] rfl ?_
  intro p e s m args below meth c Q A H0 C hK hNW hlk hrt hnm hQ hH0 hAA hA hZ hNC htab
  refine x_aload_n C dL_row_0 rfl 2 rfl ?_
  refine x_iconst C (nI 0) dL_row_1 (by decide +kernel) ?_
  refine x_aload_n C dL_row_2 rfl 0 rfl ?_
  refine x_lload_n C dL_row_3 rfl 1 rfl ?_
  refine x_calli (x_runV C hK hNW (c_row l D tys cI cJ hI hJ x qw qv qt ri qd qc ql dr dk ds dt co dn fr cl (by first | omega | assumption) (by first | omega | assumption) (by first | omega | assumption) (by first | omega | assumption)) (cwV 1 C.2.2.2.2 gL_row_X4_row rfl rfl rfl (by decide +kernel) ⟨by decide, by decide⟩) [0, 1, 2] rfl (by decide) 0 4 rfl rfl rfl (st := [.int (nI 0), .ref out]) rfl rfl (Nat.le_of_ble_eq_true rfl) dL_row_4 ⟨by first | decide | omega, by first | decide | omega⟩) hA [0, 1, 2] rfl [3] [(out, AJ cJ 1 fo)] rfl (by decide) (by decide) [1, 2, 3, 0] (by decide) (wf := (fun (u : Unit) => [(x, OB 4 [.ref qw, .ref qv, .ref qt, .int ri, .ref qd, .ref qc, .ref ql]), (qd, OB 1 [.ref dr, .ref dk, .ref ds, .ref dt, .int (nI co), .int (nI (dn + 1))]), (dr, AJ cJ 40 (vp_updL fr dn cl)), (out, AJ cJ 1 fo)])) (fun _ => rfl) (fun r_1 u h_2 => ?_)
  subst h_2
  refine x_i2l C _ dL_row_7 rfl ?_
  refine x_last C hK 3 1 rfl hJ (by omega) (by omega) [(x, OB 4 [.ref qw, .ref qv, .ref qt, .int ri, .ref qd, .ref qc, .ref ql]), (qd, OB 1 [.ref dr, .ref dk, .ref ds, .ref dt, .int (nI co), .int (nI (dn + 1))]), (dr, AJ cJ 40 (vp_updL fr dn cl)), (out, AJ cJ 1 (vp_updL fo 0 ((nI (dn + 1)).toInt64)))] rfl dL_row_8 ?_
  refine x_goto C 20 dL_row_9 (by decide) ?_
  refine x_iconst C (nI 0) dL_row_20 (by decide +kernel) ?_
  refine x_iret C hK hlk hrt hQ hH0 hAA () ?_ [0, 1, 2, 3] (by decide) rfl (by first | decide | omega) (by first | decide | omega) dL_row_21
  first | rfl | (exact ⟨rfl, rfl⟩) | trivial | assumption | omega
abbrev rm_w_rowX1 : Room := { frames := 7, cells := 1, slots := 6, locals := 103 }
set_option maxRecDepth 100000 in
set_option maxHeartbeats 4000000 in
theorem c_w_rowX1 (l : Launch) (hl0 : l.stackTraces = false) (D : va_G) (tys : List (ClassId × FieldType)) (cI cJ : ClassId) (hI : tys[0]? = some (cI, .int)) (hJ : tys[1]? = some (cJ, .long)) (x : Nat) (qw : Nat) (qv : Nat) (qt : Nat) (ri : Int32) (qd : Nat) (qc : Nat) (ql : Nat) (dr : Nat) (dk : Nat) (ds : Nat) (dt : Nat) (co : Nat) (dn : Nat) (cl : Int64) (out : Nat) (fo : Nat → Int64) (h1 : co ≤ 40) (h2 : dn ≤ 40) (hx : co = 0 ∨ dn = 40) : MIW l yL_row wsL_row rm_w_rowX1 D tys [.ref x, .long cl, .ref out] [(x, OB 4 [.ref qw, .ref qv, .ref qt, .int ri, .ref qd, .ref qc, .ref ql]), (qd, OB 1 [.ref dr, .ref dk, .ref ds, .ref dt, .int (nI co), .int (nI dn)]), (out, AJ cJ 1 fo)] Unit (fun r (_ : Unit) => r = nI 1) (fun (_ : Unit) => [(x, OB 4 [.ref qw, .ref qv, .ref qt, .int ri, .ref qd, .ref qc, .ref ql]), (qd, OB 1 [.ref dr, .ref dk, .ref ds, .ref dt, .int (nI co), .int (nI dn)]), (out, AJ cJ 1 fo)]) 1 6 := by
  intro sz
  refine x_metW (cc := cL_row) (maxL := 5) (ret := (some .int)) (by decide +kernel) rfl (by show _ ≤ _; simp [lg_sl, Value.category]) [(0, .ref x), (1, .long cl), (3, .ref out)] rfl ?_
  intro p e s m args below meth c Q A H0 C hK hNW hlk hrt hnm hQ hH0 hAA hA hZ hNC htab
  refine x_aload_n C dL_row_0 rfl 2 rfl ?_
  refine x_iconst C (nI 0) dL_row_1 (by decide +kernel) ?_
  refine x_aload_n C dL_row_2 rfl 0 rfl ?_
  refine x_lload_n C dL_row_3 rfl 1 rfl ?_
  refine x_callXi (x_runVX C hK hNW hH0 hZ hA (c_rowX1 l hl0 D tys cI cJ hI hJ x qw qv qt ri qd qc ql dr dk ds dt co dn cl (by first | omega | assumption) (by first | omega | assumption) (by first | omega | assumption)) (cwV 1 C.2.2.2.2 gL_row_X4_row rfl rfl rfl (by decide +kernel) ⟨by decide, by decide⟩) [0, 1] rfl (by decide) 0 4 rfl rfl rfl (st := [.int (nI 0), .ref out]) rfl rfl (Nat.le_of_ble_eq_true rfl) dL_row_4 ⟨by first | decide | omega, by first | decide | omega⟩) hA [0, 1] rfl [2] [(out, AJ cJ 1 fo)] rfl (by decide) (by decide) [1, 2, 0] (by decide) (wf := fun _ => [(x, OB 4 [.ref qw, .ref qv, .ref qt, .int ri, .ref qd, .ref qc, .ref ql]), (qd, OB 1 [.ref dr, .ref dk, .ref ds, .ref dt, .int (nI co), .int (nI dn)]), (out, AJ cJ 1 fo)]) (fun _ => rfl) (wsx := [(x, OB 4 [.ref qw, .ref qv, .ref qt, .int ri, .ref qd, .ref qc, .ref ql]), (qd, OB 1 [.ref dr, .ref dk, .ref ds, .ref dt, .int (nI co), .int (nI dn)]), (out, AJ cJ 1 fo)]) rfl (fun E9 hE9 => ?_) (fun _ _ hf9 => False.elim hf9)
  have hE8 : E9 = "java/lang/IllegalStateException" := hE9
  subst hE8
  refine x_catch C hNW (name := "java/lang/IllegalStateException") [] ⟨0, 9, 12, 15⟩ [⟨0, 9, 16, 13⟩] htab (fun z hz => by cases hz) (by decide) (by decide) (by decide +kernel) 44 rfl 12 rfl (fun qx_3 => ?_)
  refine x_astore C [(4, .ref qx_3), (0, .ref x), (1, .long cl), (3, .ref out)] dL_row_12 (by decide) rfl ?_
  refine x_iconst C (nI 1) dL_row_14 (by decide +kernel) ?_
  refine x_iret C hK hlk hrt hQ hH0 hAA () ?_ [0, 1, 2] (by decide) rfl (by first | decide | omega) (by first | decide | omega) dL_row_15
  first | rfl | (exact ⟨rfl, rfl⟩) | trivial | assumption | omega
abbrev rm_w_rowX2 : Room := { frames := 7, cells := 1, slots := 6, locals := 103 }
set_option maxRecDepth 100000 in
set_option maxHeartbeats 4000000 in
theorem c_w_rowX2 (l : Launch) (hl0 : l.stackTraces = false) (D : va_G) (tys : List (ClassId × FieldType)) (cI cJ : ClassId) (hI : tys[0]? = some (cI, .int)) (hJ : tys[1]? = some (cJ, .long)) (x : Nat) (qw : Nat) (qv : Nat) (qt : Nat) (ri : Int32) (qd : Nat) (qc : Nat) (ql : Nat) (dr : Nat) (dk : Nat) (ds : Nat) (dt : Nat) (co : Nat) (dn : Nat) (cl : Int64) (out : Nat) (fo : Nat → Int64) (h1 : 0 < co) (h1b : co ≤ 40) (h2 : dn < 40) (hok : cl &&& (allof (nI co) ^^^ (-1)) ≠ 0) : MIW l yL_row wsL_row rm_w_rowX2 D tys [.ref x, .long cl, .ref out] [(x, OB 4 [.ref qw, .ref qv, .ref qt, .int ri, .ref qd, .ref qc, .ref ql]), (qd, OB 1 [.ref dr, .ref dk, .ref ds, .ref dt, .int (nI co), .int (nI dn)]), (out, AJ cJ 1 fo)] Unit (fun r (_ : Unit) => r = nI 2) (fun (_ : Unit) => [(x, OB 4 [.ref qw, .ref qv, .ref qt, .int ri, .ref qd, .ref qc, .ref ql]), (qd, OB 1 [.ref dr, .ref dk, .ref ds, .ref dt, .int (nI co), .int (nI dn)]), (out, AJ cJ 1 fo)]) 1 6 := by
  intro sz
  refine x_metW (cc := cL_row) (maxL := 5) (ret := (some .int)) (by decide +kernel) rfl (by show _ ≤ _; simp [lg_sl, Value.category]) [(0, .ref x), (1, .long cl), (3, .ref out)] rfl ?_
  intro p e s m args below meth c Q A H0 C hK hNW hlk hrt hnm hQ hH0 hAA hA hZ hNC htab
  refine x_aload_n C dL_row_0 rfl 2 rfl ?_
  refine x_iconst C (nI 0) dL_row_1 (by decide +kernel) ?_
  refine x_aload_n C dL_row_2 rfl 0 rfl ?_
  refine x_lload_n C dL_row_3 rfl 1 rfl ?_
  refine x_callXi (x_runVX C hK hNW hH0 hZ hA (c_rowX2 l hl0 D tys cI cJ hI hJ x qw qv qt ri qd qc ql dr dk ds dt co dn cl (by first | omega | assumption) (by first | omega | assumption) (by first | omega | assumption) (by first | omega | assumption)) (cwV 1 C.2.2.2.2 gL_row_X4_row rfl rfl rfl (by decide +kernel) ⟨by decide, by decide⟩) [0, 1] rfl (by decide) 0 4 rfl rfl rfl (st := [.int (nI 0), .ref out]) rfl rfl (Nat.le_of_ble_eq_true rfl) dL_row_4 ⟨by first | decide | omega, by first | decide | omega⟩) hA [0, 1] rfl [2] [(out, AJ cJ 1 fo)] rfl (by decide) (by decide) [1, 2, 0] (by decide) (wf := fun _ => [(x, OB 4 [.ref qw, .ref qv, .ref qt, .int ri, .ref qd, .ref qc, .ref ql]), (qd, OB 1 [.ref dr, .ref dk, .ref ds, .ref dt, .int (nI co), .int (nI dn)]), (out, AJ cJ 1 fo)]) (fun _ => rfl) (wsx := [(x, OB 4 [.ref qw, .ref qv, .ref qt, .int ri, .ref qd, .ref qc, .ref ql]), (qd, OB 1 [.ref dr, .ref dk, .ref ds, .ref dt, .int (nI co), .int (nI dn)]), (out, AJ cJ 1 fo)]) rfl (fun E9 hE9 => ?_) (fun _ _ hf9 => False.elim hf9)
  have hE8 : E9 = "java/lang/IllegalArgumentException" := hE9
  subst hE8
  refine x_catch C hNW (name := "java/lang/IllegalArgumentException") [⟨0, 9, 12, 15⟩] ⟨0, 9, 16, 13⟩ [] htab (fun z hz => by rcases List.mem_singleton.mp hz with rfl; exact Or.inr ⟨by decide, "java/lang/IllegalStateException", C.2.2.2.2 _ (by decide +kernel), hNC.2.2⟩) (by decide) (by decide) (by decide +kernel) 43 rfl 16 rfl (fun qx_3 => ?_)
  refine x_astore C [(4, .ref qx_3), (0, .ref x), (1, .long cl), (3, .ref out)] dL_row_16 (by decide) rfl ?_
  refine x_iconst C (nI 2) dL_row_18 (by decide +kernel) ?_
  refine x_iret C hK hlk hrt hQ hH0 hAA () ?_ [0, 1, 2] (by decide) rfl (by first | decide | omega) (by first | decide | omega) dL_row_19
  first | rfl | (exact ⟨rfl, rfl⟩) | trivial | assumption | omega
abbrev rm_w_fit : Room := { frames := 4, cells := 1, slots := 6, locals := 90 }
set_option maxRecDepth 100000 in
set_option maxHeartbeats 4000000 in
theorem c_w_fit (l : Launch) (hl0 : l.stackTraces = false) (D : va_G) (tys : List (ClassId × FieldType)) (cI cJ : ClassId) (hI : tys[0]? = some (cI, .int)) (hJ : tys[1]? = some (cJ, .long)) (x : Nat) (qw : Nat) (qv : Nat) (qt : Nat) (ri : Int32) (qd : Nat) (qc : Nat) (ql : Nat) (wa : Nat) (wo : Nat) (nw : Nat) (bw : Nat → Int32) (cw : Nat → Int32) (pa : Nat) (po : Nat) (np : Nat) (bp : Nat → Int32) (cp : Nat → Int32) (ti : Nat → Int32) (dr : Nat) (dk : Nat) (ds : Nat) (dt : Nat) (co : Nat) (dn : Nat) (fr : Nat → Int64) (fk : Nat → Int64) (fs : Nat → Int32) (ft : Nat → Int32) (out : Nat) (fo : Nat → Int64) (hco : co ≤ 40) (hdn : dn ≤ 40) (h0 : 0 < dn) (h8 : tkn (clF fk fr dn co) co ≤ 8) (h10 : tkn fr dn ≤ 10) : MIW l yL_fit wsL_fit rm_w_fit D tys [.ref x, .ref out] [(x, OB 4 [.ref qw, .ref qv, .ref qt, .int ri, .ref qd, .ref qc, .ref ql]), (qw, OB 3 [.ref wa, .ref wo, .int (nI nw)]), (wa, AI cI 40 bw), (wo, AI cI 40 cw), (qv, OB 3 [.ref pa, .ref po, .int (nI np)]), (pa, AI cI 40 bp), (po, AI cI 40 cp), (qt, AI cI 10 ti), (qd, OB 1 [.ref dr, .ref dk, .ref ds, .ref dt, .int (nI co), .int (nI dn)]), (dr, AJ cJ 40 fr), (dk, AJ cJ 40 fk), (ds, AI cI 40 fs), (dt, AI cI 40 ft), (out, AJ cJ 1 fo)] Unit (fun r (_ : Unit) => r = nI 0) (fun (_ : Unit) => [(x, OB 4 [.ref qw, .ref qv, .ref qt, .int ri, .ref qd, .ref qc, .ref ql]), (qw, OB 3 [.ref wa, .ref wo, .int (nI co)]), (wa, AI cI 40 (thF (cpN fs (clF fk fr dn co) co) bw co)), (wo, AI cI 40 (thF (fun _ => nI 0) cw co)), (qv, OB 3 [.ref pa, .ref po, .int (nI dn)]), (pa, AI cI 40 (thF (fun y0 => (nI 1) <<< ((cpN ft fr dn) y0 &&& 31)) bp dn)), (po, AI cI 40 (thF (fun _ => nI 1) cp dn)), (qt, AI cI 10 (tiF ri fr (cpN fs (clF fk fr dn co) co) co (flF ti 0 10) dn)), (qd, OB 1 [.ref dr, .ref dk, .ref ds, .ref dt, .int (nI co), .int (nI dn)]), (dr, AJ cJ 40 fr), (dk, AJ cJ 40 (clF fk fr dn co)), (ds, AI cI 40 (cpN fs (clF fk fr dn co) co)), (dt, AI cI 40 (cpN ft fr dn)), (out, AJ cJ 1 (vp_updL fo 0 (nI (tkn (clF fk fr dn co) co)).toInt64))]) 1 6 := by
  intro sz
  refine x_metW (cc := cL_fit) (maxL := 3) (ret := (some .int)) (by decide +kernel) rfl (by show _ ≤ _; simp [lg_sl, Value.category]) [(0, .ref x), (1, .ref out)] rfl ?_
  intro p e s m args below meth c Q A H0 C hK hNW hlk hrt hnm hQ hH0 hAA hA hZ hNC htab
  refine x_aload_n C dL_fit_0 rfl 1 rfl ?_
  refine x_iconst C (nI 0) dL_fit_1 (by decide +kernel) ?_
  refine x_aload_n C dL_fit_2 rfl 0 rfl ?_
  refine x_calli (x_runV C hK hNW (c_fit l D tys cI cJ hI hJ x qw qv qt ri qd qc ql wa wo nw bw cw pa po np bp cp ti dr dk ds dt co dn fr fk fs ft (by first | omega | assumption) (by first | omega | assumption) (by first | omega | assumption) (by first | omega | assumption) (by first | omega | assumption)) (cwV 0 C.2.2.2.2 gL_fit_X4_fit rfl rfl rfl (by decide +kernel) ⟨by decide, by decide⟩) [0, 1, 2, 3, 4, 5, 6, 7, 8, 9, 10, 11, 12] rfl (by decide) 0 4 rfl rfl rfl (st := [.int (nI 0), .ref out]) rfl rfl (Nat.le_of_ble_eq_true rfl) dL_fit_3 ⟨by first | decide | omega, by first | decide | omega⟩) hA [0, 1, 2, 3, 4, 5, 6, 7, 8, 9, 10, 11, 12] rfl [13] [(out, AJ cJ 1 fo)] rfl (by decide) (by decide) [1, 2, 3, 4, 5, 6, 7, 8, 9, 10, 11, 12, 13, 0] (by decide) (wf := (fun (u : Unit) => [(x, OB 4 [.ref qw, .ref qv, .ref qt, .int ri, .ref qd, .ref qc, .ref ql]), (qw, OB 3 [.ref wa, .ref wo, .int (nI co)]), (wa, AI cI 40 (thF (cpN fs (clF fk fr dn co) co) bw co)), (wo, AI cI 40 (thF (fun _ => nI 0) cw co)), (qv, OB 3 [.ref pa, .ref po, .int (nI dn)]), (pa, AI cI 40 (thF (fun y0 => (nI 1) <<< ((cpN ft fr dn) y0 &&& 31)) bp dn)), (po, AI cI 40 (thF (fun _ => nI 1) cp dn)), (qt, AI cI 10 (tiF ri fr (cpN fs (clF fk fr dn co) co) co (flF ti 0 10) dn)), (qd, OB 1 [.ref dr, .ref dk, .ref ds, .ref dt, .int (nI co), .int (nI dn)]), (dr, AJ cJ 40 fr), (dk, AJ cJ 40 (clF fk fr dn co)), (ds, AI cI 40 (cpN fs (clF fk fr dn co) co)), (dt, AI cI 40 (cpN ft fr dn)), (out, AJ cJ 1 fo)])) (fun _ => rfl) (fun r_1 u h_2 => ?_)
  subst h_2
  refine x_i2l C _ dL_fit_6 rfl ?_
  refine x_last C hK 13 1 rfl hJ (by omega) (by omega) [(x, OB 4 [.ref qw, .ref qv, .ref qt, .int ri, .ref qd, .ref qc, .ref ql]), (qw, OB 3 [.ref wa, .ref wo, .int (nI co)]), (wa, AI cI 40 (thF (cpN fs (clF fk fr dn co) co) bw co)), (wo, AI cI 40 (thF (fun _ => nI 0) cw co)), (qv, OB 3 [.ref pa, .ref po, .int (nI dn)]), (pa, AI cI 40 (thF (fun y0 => (nI 1) <<< ((cpN ft fr dn) y0 &&& 31)) bp dn)), (po, AI cI 40 (thF (fun _ => nI 1) cp dn)), (qt, AI cI 10 (tiF ri fr (cpN fs (clF fk fr dn co) co) co (flF ti 0 10) dn)), (qd, OB 1 [.ref dr, .ref dk, .ref ds, .ref dt, .int (nI co), .int (nI dn)]), (dr, AJ cJ 40 fr), (dk, AJ cJ 40 (clF fk fr dn co)), (ds, AI cI 40 (cpN fs (clF fk fr dn co) co)), (dt, AI cI 40 (cpN ft fr dn)), (out, AJ cJ 1 (vp_updL fo 0 ((nI (tkn (clF fk fr dn co) co)).toInt64)))] rfl dL_fit_7 ?_
  refine x_goto C 14 dL_fit_8 (by decide) ?_
  refine x_iconst C (nI 0) dL_fit_14 (by decide +kernel) ?_
  refine x_iret C hK hlk hrt hQ hH0 hAA () ?_ [0, 1, 2, 3, 4, 5, 6, 7, 8, 9, 10, 11, 12, 13] (by decide) rfl (by first | decide | omega) (by first | decide | omega) dL_fit_15
  first | rfl | (exact ⟨rfl, rfl⟩) | trivial | assumption | omega
abbrev rm_w_fitX1 : Room := { frames := 7, cells := 1, slots := 6, locals := 103 }
set_option maxRecDepth 100000 in
set_option maxHeartbeats 4000000 in
theorem c_w_fitX1 (l : Launch) (hl0 : l.stackTraces = false) (D : va_G) (tys : List (ClassId × FieldType)) (cI cJ : ClassId) (hI : tys[0]? = some (cI, .int)) (hJ : tys[1]? = some (cJ, .long)) (x : Nat) (qw : Nat) (qv : Nat) (qt : Nat) (ri : Int32) (qd : Nat) (qc : Nat) (ql : Nat) (dr : Nat) (dk : Nat) (ds : Nat) (dt : Nat) (co : Nat) (out : Nat) (fo : Nat → Int64)  : MIW l yL_fit wsL_fit rm_w_fitX1 D tys [.ref x, .ref out] [(x, OB 4 [.ref qw, .ref qv, .ref qt, .int ri, .ref qd, .ref qc, .ref ql]), (qd, OB 1 [.ref dr, .ref dk, .ref ds, .ref dt, .int (nI co), .int (nI 0)]), (out, AJ cJ 1 fo)] Unit (fun r (_ : Unit) => r = nI 1) (fun (_ : Unit) => [(x, OB 4 [.ref qw, .ref qv, .ref qt, .int ri, .ref qd, .ref qc, .ref ql]), (qd, OB 1 [.ref dr, .ref dk, .ref ds, .ref dt, .int (nI co), .int (nI 0)]), (out, AJ cJ 1 fo)]) 1 6 := by
  intro sz
  refine x_metW (cc := cL_fit) (maxL := 3) (ret := (some .int)) (by decide +kernel) rfl (by show _ ≤ _; simp [lg_sl, Value.category]) [(0, .ref x), (1, .ref out)] rfl ?_
  intro p e s m args below meth c Q A H0 C hK hNW hlk hrt hnm hQ hH0 hAA hA hZ hNC htab
  refine x_aload_n C dL_fit_0 rfl 1 rfl ?_
  refine x_iconst C (nI 0) dL_fit_1 (by decide +kernel) ?_
  refine x_aload_n C dL_fit_2 rfl 0 rfl ?_
  refine x_callXi (x_runVX C hK hNW hH0 hZ hA (c_fitX1 l hl0 D tys cI cJ hI hJ x qw qv qt ri qd qc ql dr dk ds dt co ) (cwV 0 C.2.2.2.2 gL_fit_X4_fit rfl rfl rfl (by decide +kernel) ⟨by decide, by decide⟩) [0, 1] rfl (by decide) 0 4 rfl rfl rfl (st := [.int (nI 0), .ref out]) rfl rfl (Nat.le_of_ble_eq_true rfl) dL_fit_3 ⟨by first | decide | omega, by first | decide | omega⟩) hA [0, 1] rfl [2] [(out, AJ cJ 1 fo)] rfl (by decide) (by decide) [1, 2, 0] (by decide) (wf := fun _ => [(x, OB 4 [.ref qw, .ref qv, .ref qt, .int ri, .ref qd, .ref qc, .ref ql]), (qd, OB 1 [.ref dr, .ref dk, .ref ds, .ref dt, .int (nI co), .int (nI 0)]), (out, AJ cJ 1 fo)]) (fun _ => rfl) (wsx := [(x, OB 4 [.ref qw, .ref qv, .ref qt, .int ri, .ref qd, .ref qc, .ref ql]), (qd, OB 1 [.ref dr, .ref dk, .ref ds, .ref dt, .int (nI co), .int (nI 0)]), (out, AJ cJ 1 fo)]) rfl (fun E9 hE9 => ?_) (fun _ _ hf9 => False.elim hf9)
  have hE8 : E9 = "java/lang/IllegalStateException" := hE9
  subst hE8
  refine x_catch C hNW (name := "java/lang/IllegalStateException") [] ⟨0, 8, 11, 15⟩ [] htab (fun z hz => by cases hz) (by decide) (by decide) (by decide +kernel) 44 rfl 11 rfl (fun qx_3 => ?_)
  refine x_astore_n C [(2, .ref qx_3), (0, .ref x), (1, .ref out)] dL_fit_11 rfl (by decide) rfl ?_
  refine x_iconst C (nI 1) dL_fit_12 (by decide +kernel) ?_
  refine x_iret C hK hlk hrt hQ hH0 hAA () ?_ [0, 1, 2] (by decide) rfl (by first | decide | omega) (by first | decide | omega) dL_fit_13
  first | rfl | (exact ⟨rfl, rfl⟩) | trivial | assumption | omega
abbrev rm_w_fitX2 : Room := { frames := 7, cells := 1, slots := 6, locals := 103 }
set_option maxRecDepth 100000 in
set_option maxHeartbeats 4000000 in
theorem c_w_fitX2 (l : Launch) (hl0 : l.stackTraces = false) (D : va_G) (tys : List (ClassId × FieldType)) (cI cJ : ClassId) (hI : tys[0]? = some (cI, .int)) (hJ : tys[1]? = some (cJ, .long)) (x : Nat) (qw : Nat) (qv : Nat) (qt : Nat) (ri : Int32) (qd : Nat) (qc : Nat) (ql : Nat) (dr : Nat) (dk : Nat) (ds : Nat) (dt : Nat) (co : Nat) (dn : Nat) (fr : Nat → Int64) (fk : Nat → Int64) (fs : Nat → Int32) (ft : Nat → Int32) (out : Nat) (fo : Nat → Int64) (hco : co ≤ 40) (hdn : dn ≤ 40) (h0 : 0 < dn) (hx : 8 < tkn (clF fk fr dn co) co ∨ 10 < tkn fr dn) : MIW l yL_fit wsL_fit rm_w_fitX2 D tys [.ref x, .ref out] [(x, OB 4 [.ref qw, .ref qv, .ref qt, .int ri, .ref qd, .ref qc, .ref ql]), (qd, OB 1 [.ref dr, .ref dk, .ref ds, .ref dt, .int (nI co), .int (nI dn)]), (dr, AJ cJ 40 fr), (dk, AJ cJ 40 fk), (ds, AI cI 40 fs), (dt, AI cI 40 ft), (out, AJ cJ 1 fo)] Unit (fun r (_ : Unit) => r = nI 1) (fun (_ : Unit) => [(x, OB 4 [.ref qw, .ref qv, .ref qt, .int ri, .ref qd, .ref qc, .ref ql]), (qd, OB 1 [.ref dr, .ref dk, .ref ds, .ref dt, .int (nI co), .int (nI dn)]), (dr, AJ cJ 40 fr), (dk, AJ cJ 40 (clF fk fr dn co)), (ds, AI cI 40 (cpN fs (clF fk fr dn co) co)), (dt, AI cI 40 (cpN ft fr dn)), (out, AJ cJ 1 fo)]) 1 6 := by
  intro sz
  refine x_metW (cc := cL_fit) (maxL := 3) (ret := (some .int)) (by decide +kernel) rfl (by show _ ≤ _; simp [lg_sl, Value.category]) [(0, .ref x), (1, .ref out)] rfl ?_
  intro p e s m args below meth c Q A H0 C hK hNW hlk hrt hnm hQ hH0 hAA hA hZ hNC htab
  refine x_aload_n C dL_fit_0 rfl 1 rfl ?_
  refine x_iconst C (nI 0) dL_fit_1 (by decide +kernel) ?_
  refine x_aload_n C dL_fit_2 rfl 0 rfl ?_
  refine x_callXi (x_runVX C hK hNW hH0 hZ hA (c_fitX2 l hl0 D tys cI cJ hI hJ x qw qv qt ri qd qc ql dr dk ds dt co dn fr fk fs ft (by first | omega | assumption) (by first | omega | assumption) (by first | omega | assumption) (by first | omega | assumption)) (cwV 0 C.2.2.2.2 gL_fit_X4_fit rfl rfl rfl (by decide +kernel) ⟨by decide, by decide⟩) [0, 1, 2, 3, 4, 5] rfl (by decide) 0 4 rfl rfl rfl (st := [.int (nI 0), .ref out]) rfl rfl (Nat.le_of_ble_eq_true rfl) dL_fit_3 ⟨by first | decide | omega, by first | decide | omega⟩) hA [0, 1, 2, 3, 4, 5] rfl [6] [(out, AJ cJ 1 fo)] rfl (by decide) (by decide) [1, 2, 3, 4, 5, 6, 0] (by decide) (wf := fun _ => [(x, OB 4 [.ref qw, .ref qv, .ref qt, .int ri, .ref qd, .ref qc, .ref ql]), (qd, OB 1 [.ref dr, .ref dk, .ref ds, .ref dt, .int (nI co), .int (nI dn)]), (dr, AJ cJ 40 fr), (dk, AJ cJ 40 fk), (ds, AI cI 40 fs), (dt, AI cI 40 ft), (out, AJ cJ 1 fo)]) (fun _ => rfl) (wsx := [(x, OB 4 [.ref qw, .ref qv, .ref qt, .int ri, .ref qd, .ref qc, .ref ql]), (qd, OB 1 [.ref dr, .ref dk, .ref ds, .ref dt, .int (nI co), .int (nI dn)]), (dr, AJ cJ 40 fr), (dk, AJ cJ 40 (clF fk fr dn co)), (ds, AI cI 40 (cpN fs (clF fk fr dn co) co)), (dt, AI cI 40 (cpN ft fr dn)), (out, AJ cJ 1 fo)]) rfl (fun E9 hE9 => ?_) (fun _ _ hf9 => False.elim hf9)
  have hE8 : E9 = "java/lang/IllegalStateException" := hE9
  subst hE8
  refine x_catch C hNW (name := "java/lang/IllegalStateException") [] ⟨0, 8, 11, 15⟩ [] htab (fun z hz => by cases hz) (by decide) (by decide) (by decide +kernel) 44 rfl 11 rfl (fun qx_3 => ?_)
  refine x_astore_n C [(2, .ref qx_3), (0, .ref x), (1, .ref out)] dL_fit_11 rfl (by decide) rfl ?_
  refine x_iconst C (nI 1) dL_fit_12 (by decide +kernel) ?_
  refine x_iret C hK hlk hrt hQ hH0 hAA () ?_ [0, 1, 2, 3, 4, 5, 6] (by decide) rfl (by first | decide | omega) (by first | decide | omega) dL_fit_13
  first | rfl | (exact ⟨rfl, rfl⟩) | trivial | assumption | omega
