/-! the law: names of its helpers -/
theorem ggL_thread_X4_thread : GoodIn wsL_thread wsX4_thread := goodIn_ca (goodIn_ca (goodIn_r _ [7, 8, 9, 10, 11, 12, 13, 14, 6, 15, 16, 17, 18, 19, 20, 21, 22, 23, 24, 25, 26, 27, 28, 29, 30, 31, 32, 33, 34, 35] (by decide +kernel) (by decide +kernel)) (goodIn_sub (fun _ h => List.mem_cons_of_mem _ (List.mem_append_left _ (List.mem_append_right _ h))) (by decide +kernel))) (goodIn_sub (fun _ h => List.mem_cons_of_mem _ (List.mem_append_right _ h)) (by decide +kernel))
set_option maxRecDepth 20000 in
theorem gL_thread_X4_thread : GoodIn wsL_thread (wsV RL 7 RX4 yX4_thread wsX4_thread) := goodIn_app (goodIn_of _ (by decide +kernel)) ggL_thread_X4_thread
theorem dL_thread_0 : decode cL_thread 0 = .ok (.aload_n 3, 1) := by decide +kernel
theorem dL_thread_1 : decode cL_thread 1 = .ok (.iconst 0, 1) := by decide +kernel
theorem dL_thread_2 : decode cL_thread 2 = .ok (.aload_n 0, 1) := by decide +kernel
theorem dL_thread_3 : decode cL_thread 3 = .ok (.iload_n 1, 1) := by decide +kernel
theorem dL_thread_4 : decode cL_thread 4 = .ok (.iload_n 2, 1) := by decide +kernel
theorem dL_thread_5 : decode cL_thread 5 = .ok (.invokevirtual 7, 3) := by decide +kernel
theorem dL_thread_8 : decode cL_thread 8 = .ok (.i2l, 1) := by decide +kernel
theorem dL_thread_9 : decode cL_thread 9 = .ok (.lastore, 1) := by decide +kernel
theorem dL_thread_10 : decode cL_thread 10 = .ok (.goto 11, 3) := by decide +kernel
theorem dL_thread_13 : decode cL_thread 13 = .ok (.astore 4, 2) := by decide +kernel
theorem dL_thread_15 : decode cL_thread 15 = .ok (.iconst 1, 1) := by decide +kernel
theorem dL_thread_16 : decode cL_thread 16 = .ok (.ireturn, 1) := by decide +kernel
theorem dL_thread_17 : decode cL_thread 17 = .ok (.astore 4, 2) := by decide +kernel
theorem dL_thread_19 : decode cL_thread 19 = .ok (.iconst 2, 1) := by decide +kernel
theorem dL_thread_20 : decode cL_thread 20 = .ok (.ireturn, 1) := by decide +kernel
theorem dL_thread_21 : decode cL_thread 21 = .ok (.iconst 0, 1) := by decide +kernel
theorem dL_thread_22 : decode cL_thread 22 = .ok (.ireturn, 1) := by decide +kernel
set_option maxRecDepth 20000 in
theorem ggL_tread_X4_tread : GoodIn wsL_tread wsX4_tread := goodIn_ca (goodIn_ca (goodIn_r _ [7, 8, 9, 10, 11, 12, 13, 14, 6, 15, 16, 17, 18, 19, 20, 21, 22, 23, 24, 25, 26, 27, 28, 29, 30, 31, 32, 33, 34, 35, 36, 37, 38] (by decide +kernel) (by decide +kernel)) (goodIn_sub (fun _ h => List.mem_cons_of_mem _ (List.mem_append_left _ (List.mem_append_right _ h))) (by decide +kernel))) (goodIn_sub (fun _ h => List.mem_cons_of_mem _ (List.mem_append_right _ h)) (by decide +kernel))
set_option maxRecDepth 20000 in
theorem gL_tread_X4_tread : GoodIn wsL_tread (wsV RL 17 RX4 yX4_tread wsX4_tread) := goodIn_app (goodIn_of _ (by decide +kernel)) ggL_tread_X4_tread
theorem dL_tread_0 : decode cL_tread 0 = .ok (.aload_n 3, 1) := by decide +kernel
theorem dL_tread_1 : decode cL_tread 1 = .ok (.iconst 0, 1) := by decide +kernel
theorem dL_tread_2 : decode cL_tread 2 = .ok (.aload_n 0, 1) := by decide +kernel
theorem dL_tread_3 : decode cL_tread 3 = .ok (.iload_n 1, 1) := by decide +kernel
theorem dL_tread_4 : decode cL_tread 4 = .ok (.iload_n 2, 1) := by decide +kernel
theorem dL_tread_5 : decode cL_tread 5 = .ok (.invokevirtual 17, 3) := by decide +kernel
theorem dL_tread_8 : decode cL_tread 8 = .ok (.i2l, 1) := by decide +kernel
theorem dL_tread_9 : decode cL_tread 9 = .ok (.lastore, 1) := by decide +kernel
theorem dL_tread_10 : decode cL_tread 10 = .ok (.goto 11, 3) := by decide +kernel
theorem dL_tread_13 : decode cL_tread 13 = .ok (.astore 4, 2) := by decide +kernel
theorem dL_tread_15 : decode cL_tread 15 = .ok (.iconst 1, 1) := by decide +kernel
theorem dL_tread_16 : decode cL_tread 16 = .ok (.ireturn, 1) := by decide +kernel
theorem dL_tread_17 : decode cL_tread 17 = .ok (.astore 4, 2) := by decide +kernel
theorem dL_tread_19 : decode cL_tread 19 = .ok (.iconst 2, 1) := by decide +kernel
theorem dL_tread_20 : decode cL_tread 20 = .ok (.ireturn, 1) := by decide +kernel
theorem dL_tread_21 : decode cL_tread 21 = .ok (.iconst 0, 1) := by decide +kernel
theorem dL_tread_22 : decode cL_tread 22 = .ok (.ireturn, 1) := by decide +kernel
set_option maxRecDepth 20000 in
theorem ggL_tie_X4_tie : GoodIn wsL_tie wsX4_tie := goodIn_ca (goodIn_ca (goodIn_r _ [7, 8, 9, 10, 11, 12, 13, 14, 6, 15, 16, 17, 18, 19, 20, 21, 22, 23, 24, 25] (by decide +kernel) (by decide +kernel)) (goodIn_sub (fun _ h => List.mem_cons_of_mem _ (List.mem_append_left _ (List.mem_append_right _ h))) (by decide +kernel))) (goodIn_sub (fun _ h => List.mem_cons_of_mem _ (List.mem_append_right _ h)) (by decide +kernel))
set_option maxRecDepth 20000 in
theorem gL_tie_X4_tie : GoodIn wsL_tie (wsV RL 20 RX4 yX4_tie wsX4_tie) := goodIn_app (goodIn_of _ (by decide +kernel)) ggL_tie_X4_tie
theorem dL_tie_0 : decode cL_tie 0 = .ok (.aload_n 3, 1) := by decide +kernel
theorem dL_tie_1 : decode cL_tie 1 = .ok (.iconst 0, 1) := by decide +kernel
theorem dL_tie_2 : decode cL_tie 2 = .ok (.aload_n 0, 1) := by decide +kernel
theorem dL_tie_3 : decode cL_tie 3 = .ok (.iload_n 1, 1) := by decide +kernel
theorem dL_tie_4 : decode cL_tie 4 = .ok (.iload_n 2, 1) := by decide +kernel
theorem dL_tie_5 : decode cL_tie 5 = .ok (.invokevirtual 20, 3) := by decide +kernel
theorem dL_tie_8 : decode cL_tie 8 = .ok (.i2l, 1) := by decide +kernel
theorem dL_tie_9 : decode cL_tie 9 = .ok (.lastore, 1) := by decide +kernel
theorem dL_tie_10 : decode cL_tie 10 = .ok (.goto 11, 3) := by decide +kernel
theorem dL_tie_13 : decode cL_tie 13 = .ok (.astore 4, 2) := by decide +kernel
theorem dL_tie_15 : decode cL_tie 15 = .ok (.iconst 1, 1) := by decide +kernel
theorem dL_tie_16 : decode cL_tie 16 = .ok (.ireturn, 1) := by decide +kernel
theorem dL_tie_17 : decode cL_tie 17 = .ok (.astore 4, 2) := by decide +kernel
theorem dL_tie_19 : decode cL_tie 19 = .ok (.iconst 2, 1) := by decide +kernel
theorem dL_tie_20 : decode cL_tie 20 = .ok (.ireturn, 1) := by decide +kernel
theorem dL_tie_21 : decode cL_tie 21 = .ok (.iconst 0, 1) := by decide +kernel
theorem dL_tie_22 : decode cL_tie 22 = .ok (.ireturn, 1) := by decide +kernel
set_option maxRecDepth 20000 in
theorem ggL_end_X4_end : GoodIn wsL_end wsX4_end := goodIn_ca (goodIn_r _ [6, 7, 8, 9, 10, 11, 12, 13, 14, 15, 5, 16, 17, 18, 19, 20, 21, 22, 23, 24, 25, 26, 27] (by decide +kernel) (by decide +kernel)) (goodIn_sub (fun _ h => List.mem_cons_of_mem _ (List.mem_append_right _ h)) (by decide +kernel))
set_option maxRecDepth 20000 in
theorem gL_end_X4_end : GoodIn wsL_end (wsV RL 25 RX4 yX4_end wsX4_end) := goodIn_app (goodIn_of _ (by decide +kernel)) ggL_end_X4_end
theorem dL_end_0 : decode cL_end 0 = .ok (.aload_n 3, 1) := by decide +kernel
theorem dL_end_1 : decode cL_end 1 = .ok (.iconst 0, 1) := by decide +kernel
theorem dL_end_2 : decode cL_end 2 = .ok (.aload_n 0, 1) := by decide +kernel
theorem dL_end_3 : decode cL_end 3 = .ok (.iload_n 1, 1) := by decide +kernel
theorem dL_end_4 : decode cL_end 4 = .ok (.iload_n 2, 1) := by decide +kernel
theorem dL_end_5 : decode cL_end 5 = .ok (.invokevirtual 25, 3) := by decide +kernel
theorem dL_end_8 : decode cL_end 8 = .ok (.i2l, 1) := by decide +kernel
theorem dL_end_9 : decode cL_end 9 = .ok (.lastore, 1) := by decide +kernel
theorem dL_end_10 : decode cL_end 10 = .ok (.goto 7, 3) := by decide +kernel
theorem dL_end_13 : decode cL_end 13 = .ok (.astore 4, 2) := by decide +kernel
theorem dL_end_15 : decode cL_end 15 = .ok (.iconst 1, 1) := by decide +kernel
theorem dL_end_16 : decode cL_end 16 = .ok (.ireturn, 1) := by decide +kernel
theorem dL_end_17 : decode cL_end 17 = .ok (.iconst 0, 1) := by decide +kernel
theorem dL_end_18 : decode cL_end 18 = .ok (.ireturn, 1) := by decide +kernel
set_option maxRecDepth 20000 in
theorem ggL_pick_X4_pick : GoodIn wsL_pick wsX4_pick := goodIn_ca (goodIn_r _ [6, 7, 8, 9, 10, 11, 12, 13, 14, 15, 5, 16, 17, 18, 19, 20, 21, 22, 23, 24, 25, 26, 27, 28, 29, 30, 31, 32, 33, 34, 35] (by decide +kernel) (by decide +kernel)) (goodIn_sub (fun _ h => List.mem_cons_of_mem _ (List.mem_append_right _ h)) (by decide +kernel))
set_option maxRecDepth 20000 in
theorem gL_pick_X4_pick : GoodIn wsL_pick (wsV RL 28 RX4 yX4_pick wsX4_pick) := goodIn_app (goodIn_of _ (by decide +kernel)) ggL_pick_X4_pick
theorem dL_pick_0 : decode cL_pick 0 = .ok (.aload_n 3, 1) := by decide +kernel
theorem dL_pick_1 : decode cL_pick 1 = .ok (.iconst 0, 1) := by decide +kernel
theorem dL_pick_2 : decode cL_pick 2 = .ok (.aload_n 0, 1) := by decide +kernel
theorem dL_pick_3 : decode cL_pick 3 = .ok (.iload_n 1, 1) := by decide +kernel
theorem dL_pick_4 : decode cL_pick 4 = .ok (.iload_n 2, 1) := by decide +kernel
theorem dL_pick_5 : decode cL_pick 5 = .ok (.invokevirtual 28, 3) := by decide +kernel
theorem dL_pick_8 : decode cL_pick 8 = .ok (.i2l, 1) := by decide +kernel
theorem dL_pick_9 : decode cL_pick 9 = .ok (.lastore, 1) := by decide +kernel
theorem dL_pick_10 : decode cL_pick 10 = .ok (.goto 7, 3) := by decide +kernel
theorem dL_pick_13 : decode cL_pick 13 = .ok (.astore 4, 2) := by decide +kernel
theorem dL_pick_15 : decode cL_pick 15 = .ok (.iconst 1, 1) := by decide +kernel
theorem dL_pick_16 : decode cL_pick 16 = .ok (.ireturn, 1) := by decide +kernel
theorem dL_pick_17 : decode cL_pick 17 = .ok (.iconst 0, 1) := by decide +kernel
theorem dL_pick_18 : decode cL_pick 18 = .ok (.ireturn, 1) := by decide +kernel
set_option maxRecDepth 20000 in
theorem ggL_rotate_X4_rotate : GoodIn wsL_rotate wsX4_rotate := goodIn_ca (goodIn_r _ [6, 7, 8, 9, 10, 11, 5, 12, 13, 14, 15, 16, 17, 18, 19, 20, 21, 22, 23, 24, 25, 26, 27, 28, 29, 30, 31, 32, 33, 34, 35, 36, 37, 38, 39] (by decide +kernel) (by decide +kernel)) (goodIn_sub (fun _ h => List.mem_cons_of_mem _ (List.mem_append_right _ h)) (by decide +kernel))
set_option maxRecDepth 20000 in
theorem gL_rotate_X4_rotate : GoodIn wsL_rotate (wsV RL 31 RX4 yX4_rotate wsX4_rotate) := goodIn_app (goodIn_of _ (by decide +kernel)) ggL_rotate_X4_rotate
theorem dL_rotate_0 : decode cL_rotate 0 = .ok (.aload_n 3, 1) := by decide +kernel
theorem dL_rotate_1 : decode cL_rotate 1 = .ok (.iconst 0, 1) := by decide +kernel
theorem dL_rotate_2 : decode cL_rotate 2 = .ok (.aload_n 0, 1) := by decide +kernel
theorem dL_rotate_3 : decode cL_rotate 3 = .ok (.iload_n 1, 1) := by decide +kernel
theorem dL_rotate_4 : decode cL_rotate 4 = .ok (.iload_n 2, 1) := by decide +kernel
theorem dL_rotate_5 : decode cL_rotate 5 = .ok (.invokevirtual 31, 3) := by decide +kernel
theorem dL_rotate_8 : decode cL_rotate 8 = .ok (.i2l, 1) := by decide +kernel
theorem dL_rotate_9 : decode cL_rotate 9 = .ok (.lastore, 1) := by decide +kernel
theorem dL_rotate_10 : decode cL_rotate 10 = .ok (.goto 7, 3) := by decide +kernel
theorem dL_rotate_13 : decode cL_rotate 13 = .ok (.astore 4, 2) := by decide +kernel
theorem dL_rotate_15 : decode cL_rotate 15 = .ok (.iconst 1, 1) := by decide +kernel
theorem dL_rotate_16 : decode cL_rotate 16 = .ok (.ireturn, 1) := by decide +kernel
theorem dL_rotate_17 : decode cL_rotate 17 = .ok (.iconst 0, 1) := by decide +kernel
theorem dL_rotate_18 : decode cL_rotate 18 = .ok (.ireturn, 1) := by decide +kernel
set_option maxRecDepth 20000 in
theorem ggL_repeat_X4_repeat : GoodIn wsL_repeat wsX4_repeat := goodIn_ca (goodIn_r _ [6, 7, 8, 9, 10, 11, 5, 12, 13, 14, 15, 16, 17, 18, 19, 20, 21, 22, 23, 24, 25, 26, 27, 28, 29, 30, 31, 32, 33, 34, 35] (by decide +kernel) (by decide +kernel)) (goodIn_sub (fun _ h => List.mem_cons_of_mem _ (List.mem_append_right _ h)) (by decide +kernel))
set_option maxRecDepth 20000 in
theorem gL_repeat_X4_repeat : GoodIn wsL_repeat (wsV RL 35 RX4 yX4_repeat wsX4_repeat) := goodIn_app (goodIn_of _ (by decide +kernel)) ggL_repeat_X4_repeat
theorem dL_repeat_0 : decode cL_repeat 0 = .ok (.aload_n 2, 1) := by decide +kernel
theorem dL_repeat_1 : decode cL_repeat 1 = .ok (.iconst 0, 1) := by decide +kernel
theorem dL_repeat_2 : decode cL_repeat 2 = .ok (.aload_n 0, 1) := by decide +kernel
theorem dL_repeat_3 : decode cL_repeat 3 = .ok (.iload_n 1, 1) := by decide +kernel
theorem dL_repeat_4 : decode cL_repeat 4 = .ok (.invokevirtual 35, 3) := by decide +kernel
theorem dL_repeat_7 : decode cL_repeat 7 = .ok (.i2l, 1) := by decide +kernel
theorem dL_repeat_8 : decode cL_repeat 8 = .ok (.lastore, 1) := by decide +kernel
theorem dL_repeat_9 : decode cL_repeat 9 = .ok (.goto 6, 3) := by decide +kernel
theorem dL_repeat_12 : decode cL_repeat 12 = .ok (.astore_n 3, 1) := by decide +kernel
theorem dL_repeat_13 : decode cL_repeat 13 = .ok (.iconst 1, 1) := by decide +kernel
theorem dL_repeat_14 : decode cL_repeat 14 = .ok (.ireturn, 1) := by decide +kernel
theorem dL_repeat_15 : decode cL_repeat 15 = .ok (.iconst 0, 1) := by decide +kernel
theorem dL_repeat_16 : decode cL_repeat 16 = .ok (.ireturn, 1) := by decide +kernel
set_option maxRecDepth 20000 in
theorem ggL_cut_X4_cut : GoodIn wsL_cut wsX4_cut := goodIn_ca (goodIn_r _ [6, 7, 8, 9, 10, 11, 5, 12, 13, 14, 15, 16, 17, 18, 19, 20, 21, 22, 23, 24] (by decide +kernel) (by decide +kernel)) (goodIn_sub (fun _ h => List.mem_cons_of_mem _ (List.mem_append_right _ h)) (by decide +kernel))
set_option maxRecDepth 20000 in
theorem gL_cut_X4_cut : GoodIn wsL_cut (wsV RL 39 RX4 yX4_cut wsX4_cut) := goodIn_app (goodIn_of _ (by decide +kernel)) ggL_cut_X4_cut
theorem dL_cut_0 : decode cL_cut 0 = .ok (.aload_n 3, 1) := by decide +kernel
theorem dL_cut_1 : decode cL_cut 1 = .ok (.iconst 0, 1) := by decide +kernel
theorem dL_cut_2 : decode cL_cut 2 = .ok (.aload_n 0, 1) := by decide +kernel
theorem dL_cut_3 : decode cL_cut 3 = .ok (.iload_n 1, 1) := by decide +kernel
theorem dL_cut_4 : decode cL_cut 4 = .ok (.iload_n 2, 1) := by decide +kernel
theorem dL_cut_5 : decode cL_cut 5 = .ok (.invokevirtual 39, 3) := by decide +kernel
theorem dL_cut_8 : decode cL_cut 8 = .ok (.i2l, 1) := by decide +kernel
theorem dL_cut_9 : decode cL_cut 9 = .ok (.lastore, 1) := by decide +kernel
theorem dL_cut_10 : decode cL_cut 10 = .ok (.goto 7, 3) := by decide +kernel
theorem dL_cut_13 : decode cL_cut 13 = .ok (.astore 4, 2) := by decide +kernel
theorem dL_cut_15 : decode cL_cut 15 = .ok (.iconst 1, 1) := by decide +kernel
theorem dL_cut_16 : decode cL_cut 16 = .ok (.ireturn, 1) := by decide +kernel
theorem dL_cut_17 : decode cL_cut 17 = .ok (.iconst 0, 1) := by decide +kernel
theorem dL_cut_18 : decode cL_cut 18 = .ok (.ireturn, 1) := by decide +kernel
set_option maxRecDepth 20000 in
theorem ggL_isWarpOnTop_X4_isWarpOnTop : GoodIn wsL_isWarpOnTop wsX4_isWarpOnTop := goodIn_ca (goodIn_r _ [6, 7, 8, 9, 10, 11, 12, 13, 14, 15, 16, 5, 17, 18, 19, 20, 21, 22, 23, 24, 25, 26, 27, 28, 29, 30, 31, 32, 33, 34, 35, 36, 37, 38, 39, 40, 41, 42, 43] (by decide +kernel) (by decide +kernel)) (goodIn_sub (fun _ h => List.mem_cons_of_mem _ (List.mem_append_right _ h)) (by decide +kernel))
set_option maxRecDepth 20000 in
theorem gL_isWarpOnTop_X4_isWarpOnTop : GoodIn wsL_isWarpOnTop (wsV RL 42 RX4 yX4_isWarpOnTop wsX4_isWarpOnTop) := goodIn_app (goodIn_of _ (by decide +kernel)) ggL_isWarpOnTop_X4_isWarpOnTop
theorem dL_isWarpOnTop_0 : decode cL_isWarpOnTop 0 = .ok (.aload_n 3, 1) := by decide +kernel
theorem dL_isWarpOnTop_1 : decode cL_isWarpOnTop 1 = .ok (.iconst 0, 1) := by decide +kernel
theorem dL_isWarpOnTop_2 : decode cL_isWarpOnTop 2 = .ok (.aload_n 0, 1) := by decide +kernel
theorem dL_isWarpOnTop_3 : decode cL_isWarpOnTop 3 = .ok (.iload_n 1, 1) := by decide +kernel
theorem dL_isWarpOnTop_4 : decode cL_isWarpOnTop 4 = .ok (.iload_n 2, 1) := by decide +kernel
theorem dL_isWarpOnTop_5 : decode cL_isWarpOnTop 5 = .ok (.invokevirtual 42, 3) := by decide +kernel
theorem dL_isWarpOnTop_8 : decode cL_isWarpOnTop 8 = .ok (.ifCond .eq 7, 3) := by decide +kernel
theorem dL_isWarpOnTop_11 : decode cL_isWarpOnTop 11 = .ok (.lconst 1, 1) := by decide +kernel
theorem dL_isWarpOnTop_12 : decode cL_isWarpOnTop 12 = .ok (.goto 4, 3) := by decide +kernel
theorem dL_isWarpOnTop_15 : decode cL_isWarpOnTop 15 = .ok (.lconst 0, 1) := by decide +kernel
theorem dL_isWarpOnTop_16 : decode cL_isWarpOnTop 16 = .ok (.lastore, 1) := by decide +kernel
theorem dL_isWarpOnTop_17 : decode cL_isWarpOnTop 17 = .ok (.goto 7, 3) := by decide +kernel
theorem dL_isWarpOnTop_20 : decode cL_isWarpOnTop 20 = .ok (.astore 4, 2) := by decide +kernel
theorem dL_isWarpOnTop_22 : decode cL_isWarpOnTop 22 = .ok (.iconst 1, 1) := by decide +kernel
theorem dL_isWarpOnTop_23 : decode cL_isWarpOnTop 23 = .ok (.ireturn, 1) := by decide +kernel
theorem dL_isWarpOnTop_24 : decode cL_isWarpOnTop 24 = .ok (.iconst 0, 1) := by decide +kernel
theorem dL_isWarpOnTop_25 : decode cL_isWarpOnTop 25 = .ok (.ireturn, 1) := by decide +kernel
set_option maxRecDepth 20000 in
theorem ggL_colour_X4_colour : GoodIn wsL_colour wsX4_colour := goodIn_ca (goodIn_r _ [6, 7, 8, 9, 10, 11, 12, 13, 14, 15, 16, 5, 17, 18, 19, 20, 21, 22, 23, 24, 25, 26, 27, 28, 29, 30, 31, 32, 33, 34, 35, 36, 37, 38, 39, 40, 41, 42, 43] (by decide +kernel) (by decide +kernel)) (goodIn_sub (fun _ h => List.mem_cons_of_mem _ (List.mem_append_right _ h)) (by decide +kernel))
set_option maxRecDepth 20000 in
theorem gL_colour_X4_colour : GoodIn wsL_colour (wsV RL 46 RX4 yX4_colour wsX4_colour) := goodIn_app (goodIn_of _ (by decide +kernel)) ggL_colour_X4_colour
theorem dL_colour_0 : decode cL_colour 0 = .ok (.aload_n 3, 1) := by decide +kernel
theorem dL_colour_1 : decode cL_colour 1 = .ok (.iconst 0, 1) := by decide +kernel
theorem dL_colour_2 : decode cL_colour 2 = .ok (.aload_n 0, 1) := by decide +kernel
theorem dL_colour_3 : decode cL_colour 3 = .ok (.iload_n 1, 1) := by decide +kernel
theorem dL_colour_4 : decode cL_colour 4 = .ok (.iload_n 2, 1) := by decide +kernel
theorem dL_colour_5 : decode cL_colour 5 = .ok (.invokevirtual 46, 3) := by decide +kernel
theorem dL_colour_8 : decode cL_colour 8 = .ok (.i2l, 1) := by decide +kernel
theorem dL_colour_9 : decode cL_colour 9 = .ok (.lastore, 1) := by decide +kernel
theorem dL_colour_10 : decode cL_colour 10 = .ok (.goto 7, 3) := by decide +kernel
theorem dL_colour_13 : decode cL_colour 13 = .ok (.astore 4, 2) := by decide +kernel
theorem dL_colour_15 : decode cL_colour 15 = .ok (.iconst 1, 1) := by decide +kernel
theorem dL_colour_16 : decode cL_colour 16 = .ok (.ireturn, 1) := by decide +kernel
theorem dL_colour_17 : decode cL_colour 17 = .ok (.iconst 0, 1) := by decide +kernel
theorem dL_colour_18 : decode cL_colour 18 = .ok (.ireturn, 1) := by decide +kernel
set_option maxRecDepth 20000 in
theorem ggL_floats_X4_floats : GoodIn wsL_floats wsX4_floats := goodIn_ca (goodIn_r _ [6, 7, 8, 9, 10, 11, 12, 5, 13, 14, 15, 16, 17, 18, 19, 20, 21, 22, 23, 24, 25, 26, 27, 28, 29, 30, 31, 32, 33, 34, 35, 36, 37, 38, 39, 40, 41, 42, 43, 44, 45, 46, 47, 48, 49, 50, 51, 52, 53, 54, 55, 56, 57, 58, 59, 60, 61] (by decide +kernel) (by decide +kernel)) (goodIn_sub (fun _ h => List.mem_cons_of_mem _ (List.mem_append_right _ h)) (by decide +kernel))
set_option maxRecDepth 20000 in
theorem gL_floats_X4_floats : GoodIn wsL_floats (wsV RL 49 RX4 yX4_floats wsX4_floats) := goodIn_app (goodIn_of _ (by decide +kernel)) ggL_floats_X4_floats
theorem dL_floats_0 : decode cL_floats 0 = .ok (.aload_n 3, 1) := by decide +kernel
theorem dL_floats_1 : decode cL_floats 1 = .ok (.iconst 0, 1) := by decide +kernel
theorem dL_floats_2 : decode cL_floats 2 = .ok (.aload_n 0, 1) := by decide +kernel
theorem dL_floats_3 : decode cL_floats 3 = .ok (.iload_n 1, 1) := by decide +kernel
theorem dL_floats_4 : decode cL_floats 4 = .ok (.iload_n 2, 1) := by decide +kernel
theorem dL_floats_5 : decode cL_floats 5 = .ok (.invokevirtual 49, 3) := by decide +kernel
theorem dL_floats_8 : decode cL_floats 8 = .ok (.i2l, 1) := by decide +kernel
theorem dL_floats_9 : decode cL_floats 9 = .ok (.lastore, 1) := by decide +kernel
theorem dL_floats_10 : decode cL_floats 10 = .ok (.goto 7, 3) := by decide +kernel
theorem dL_floats_13 : decode cL_floats 13 = .ok (.astore 4, 2) := by decide +kernel
theorem dL_floats_15 : decode cL_floats 15 = .ok (.iconst 1, 1) := by decide +kernel
theorem dL_floats_16 : decode cL_floats 16 = .ok (.ireturn, 1) := by decide +kernel
theorem dL_floats_17 : decode cL_floats 17 = .ok (.iconst 0, 1) := by decide +kernel
theorem dL_floats_18 : decode cL_floats 18 = .ok (.ireturn, 1) := by decide +kernel
set_option maxRecDepth 20000 in
theorem ggL_colourAt_X4_colourAt : GoodIn wsL_colourAt wsX4_colourAt := goodIn_ca (goodIn_r _ [6, 7, 8, 9, 10, 11, 5, 12, 13, 14, 15, 16, 17, 18, 19, 20, 21, 22, 23, 24, 25, 26, 27, 28, 29, 30, 31, 32, 33, 34] (by decide +kernel) (by decide +kernel)) (goodIn_sub (fun _ h => List.mem_cons_of_mem _ (List.mem_append_right _ h)) (by decide +kernel))
set_option maxRecDepth 20000 in
theorem gL_colourAt_X4_colourAt : GoodIn wsL_colourAt (wsV RL 52 RX4 yX4_colourAt wsX4_colourAt) := goodIn_app (goodIn_of _ (by decide +kernel)) ggL_colourAt_X4_colourAt
theorem dL_colourAt_0 : decode cL_colourAt 0 = .ok (.aload_n 2, 1) := by decide +kernel
theorem dL_colourAt_1 : decode cL_colourAt 1 = .ok (.iconst 0, 1) := by decide +kernel
theorem dL_colourAt_2 : decode cL_colourAt 2 = .ok (.aload_n 0, 1) := by decide +kernel
theorem dL_colourAt_3 : decode cL_colourAt 3 = .ok (.iload_n 1, 1) := by decide +kernel
theorem dL_colourAt_4 : decode cL_colourAt 4 = .ok (.invokevirtual 52, 3) := by decide +kernel
theorem dL_colourAt_7 : decode cL_colourAt 7 = .ok (.i2l, 1) := by decide +kernel
theorem dL_colourAt_8 : decode cL_colourAt 8 = .ok (.lastore, 1) := by decide +kernel
theorem dL_colourAt_9 : decode cL_colourAt 9 = .ok (.goto 6, 3) := by decide +kernel
theorem dL_colourAt_12 : decode cL_colourAt 12 = .ok (.astore_n 3, 1) := by decide +kernel
theorem dL_colourAt_13 : decode cL_colourAt 13 = .ok (.iconst 1, 1) := by decide +kernel
theorem dL_colourAt_14 : decode cL_colourAt 14 = .ok (.ireturn, 1) := by decide +kernel
theorem dL_colourAt_15 : decode cL_colourAt 15 = .ok (.iconst 0, 1) := by decide +kernel
theorem dL_colourAt_16 : decode cL_colourAt 16 = .ok (.ireturn, 1) := by decide +kernel
set_option maxRecDepth 20000 in
theorem ggL_threadsOf_X4_threadsOf : GoodIn wsL_threadsOf wsX4_threadsOf := goodIn_ca (goodIn_r _ [6, 7, 8, 9, 10, 11, 12, 5, 13, 14, 15, 16, 17, 18, 19, 20, 21, 22, 23, 24, 25, 26, 27, 28, 29] (by decide +kernel) (by decide +kernel)) (goodIn_sub (fun _ h => List.mem_cons_of_mem _ (List.mem_append_right _ h)) (by decide +kernel))
set_option maxRecDepth 20000 in
theorem gL_threadsOf_X4_threadsOf : GoodIn wsL_threadsOf (wsV RL 56 RX4 yX4_threadsOf wsX4_threadsOf) := goodIn_app (goodIn_of _ (by decide +kernel)) ggL_threadsOf_X4_threadsOf
theorem dL_threadsOf_0 : decode cL_threadsOf 0 = .ok (.aload_n 2, 1) := by decide +kernel
theorem dL_threadsOf_1 : decode cL_threadsOf 1 = .ok (.iconst 0, 1) := by decide +kernel
theorem dL_threadsOf_2 : decode cL_threadsOf 2 = .ok (.aload_n 0, 1) := by decide +kernel
theorem dL_threadsOf_3 : decode cL_threadsOf 3 = .ok (.iload_n 1, 1) := by decide +kernel
theorem dL_threadsOf_4 : decode cL_threadsOf 4 = .ok (.invokevirtual 56, 3) := by decide +kernel
theorem dL_threadsOf_7 : decode cL_threadsOf 7 = .ok (.i2l, 1) := by decide +kernel
theorem dL_threadsOf_8 : decode cL_threadsOf 8 = .ok (.lastore, 1) := by decide +kernel
theorem dL_threadsOf_9 : decode cL_threadsOf 9 = .ok (.goto 6, 3) := by decide +kernel
theorem dL_threadsOf_12 : decode cL_threadsOf 12 = .ok (.astore_n 3, 1) := by decide +kernel
theorem dL_threadsOf_13 : decode cL_threadsOf 13 = .ok (.iconst 1, 1) := by decide +kernel
theorem dL_threadsOf_14 : decode cL_threadsOf 14 = .ok (.ireturn, 1) := by decide +kernel
theorem dL_threadsOf_15 : decode cL_threadsOf 15 = .ok (.iconst 0, 1) := by decide +kernel
theorem dL_threadsOf_16 : decode cL_threadsOf 16 = .ok (.ireturn, 1) := by decide +kernel
set_option maxRecDepth 20000 in
theorem ggL_draw_X4_draw : GoodIn wsL_draw wsX4_draw := goodIn_ca (goodIn_r _ [6, 7, 8, 9, 10, 11, 12, 13, 14, 15, 16, 17, 18, 19, 20, 21, 22] (by decide +kernel) (by decide +kernel)) (goodIn_sub (fun _ h => List.mem_cons_of_mem _ (List.mem_append_right _ h)) (by decide +kernel))
set_option maxRecDepth 20000 in
theorem gL_draw_X4_draw : GoodIn wsL_draw (wsV RL 59 RX4 yX4_draw wsX4_draw) := goodIn_app (goodIn_of _ (by decide +kernel)) ggL_draw_X4_draw
theorem dL_draw_0 : decode cL_draw 0 = .ok (.aload_n 2, 1) := by decide +kernel
theorem dL_draw_1 : decode cL_draw 1 = .ok (.iconst 0, 1) := by decide +kernel
theorem dL_draw_2 : decode cL_draw 2 = .ok (.aload_n 0, 1) := by decide +kernel
theorem dL_draw_3 : decode cL_draw 3 = .ok (.iload_n 1, 1) := by decide +kernel
theorem dL_draw_4 : decode cL_draw 4 = .ok (.invokevirtual 59, 3) := by decide +kernel
theorem dL_draw_7 : decode cL_draw 7 = .ok (.i2l, 1) := by decide +kernel
theorem dL_draw_8 : decode cL_draw 8 = .ok (.lastore, 1) := by decide +kernel
theorem dL_draw_9 : decode cL_draw 9 = .ok (.goto 6, 3) := by decide +kernel
theorem dL_draw_12 : decode cL_draw 12 = .ok (.astore_n 3, 1) := by decide +kernel
theorem dL_draw_13 : decode cL_draw 13 = .ok (.iconst 1, 1) := by decide +kernel
theorem dL_draw_14 : decode cL_draw 14 = .ok (.ireturn, 1) := by decide +kernel
theorem dL_draw_15 : decode cL_draw 15 = .ok (.iconst 0, 1) := by decide +kernel
theorem dL_draw_16 : decode cL_draw 16 = .ok (.ireturn, 1) := by decide +kernel
set_option maxRecDepth 20000 in
theorem ggL_row_X4_row : GoodIn wsL_row wsX4_row := goodIn_ca (goodIn_ca (goodIn_r _ [7, 8, 9, 10, 11, 12, 13, 14, 15, 6, 16, 17, 18, 19, 20, 21, 22, 23, 24, 25, 26, 27, 28, 29] (by decide +kernel) (by decide +kernel)) (goodIn_sub (fun _ h => List.mem_cons_of_mem _ (List.mem_append_left _ (List.mem_append_right _ h))) (by decide +kernel))) (goodIn_sub (fun _ h => List.mem_cons_of_mem _ (List.mem_append_right _ h)) (by decide +kernel))
set_option maxRecDepth 20000 in
theorem gL_row_X4_row : GoodIn wsL_row (wsV RL 62 RX4 yX4_row wsX4_row) := goodIn_app (goodIn_of _ (by decide +kernel)) ggL_row_X4_row
theorem dL_row_0 : decode cL_row 0 = .ok (.aload_n 3, 1) := by decide +kernel
theorem dL_row_1 : decode cL_row 1 = .ok (.iconst 0, 1) := by decide +kernel
theorem dL_row_2 : decode cL_row 2 = .ok (.aload_n 0, 1) := by decide +kernel
theorem dL_row_3 : decode cL_row 3 = .ok (.lload_n 1, 1) := by decide +kernel
theorem dL_row_4 : decode cL_row 4 = .ok (.invokevirtual 62, 3) := by decide +kernel
theorem dL_row_7 : decode cL_row 7 = .ok (.i2l, 1) := by decide +kernel
theorem dL_row_8 : decode cL_row 8 = .ok (.lastore, 1) := by decide +kernel
theorem dL_row_9 : decode cL_row 9 = .ok (.goto 11, 3) := by decide +kernel
theorem dL_row_12 : decode cL_row 12 = .ok (.astore 4, 2) := by decide +kernel
theorem dL_row_14 : decode cL_row 14 = .ok (.iconst 1, 1) := by decide +kernel
theorem dL_row_15 : decode cL_row 15 = .ok (.ireturn, 1) := by decide +kernel
theorem dL_row_16 : decode cL_row 16 = .ok (.astore 4, 2) := by decide +kernel
theorem dL_row_18 : decode cL_row 18 = .ok (.iconst 2, 1) := by decide +kernel
theorem dL_row_19 : decode cL_row 19 = .ok (.ireturn, 1) := by decide +kernel
theorem dL_row_20 : decode cL_row 20 = .ok (.iconst 0, 1) := by decide +kernel
theorem dL_row_21 : decode cL_row 21 = .ok (.ireturn, 1) := by decide +kernel
set_option maxRecDepth 20000 in
theorem ggL_fit_X4_fit : GoodIn wsL_fit wsX4_fit := goodIn_ca (goodIn_r _ [6, 7, 8, 9, 10, 11, 12, 13, 14, 15, 16, 17, 18, 19, 20, 21, 22, 23, 5, 24, 25, 26, 27, 28, 29, 30, 31, 32, 33, 34, 35, 36, 37, 38, 39, 40, 41, 42, 43, 44, 45, 46, 47, 48, 49, 50, 51, 52, 53, 54, 55, 56, 57, 58, 59, 60, 61, 62, 63, 64, 65, 66, 67, 68, 69, 70, 71, 72, 73, 74] (by decide +kernel) (by decide +kernel)) (goodIn_sub (fun _ h => List.mem_cons_of_mem _ (List.mem_append_right _ h)) (by decide +kernel))
set_option maxRecDepth 20000 in
theorem gL_fit_X4_fit : GoodIn wsL_fit (wsV RL 66 RX4 yX4_fit wsX4_fit) := goodIn_app (goodIn_of _ (by decide +kernel)) ggL_fit_X4_fit
theorem dL_fit_0 : decode cL_fit 0 = .ok (.aload_n 1, 1) := by decide +kernel
theorem dL_fit_1 : decode cL_fit 1 = .ok (.iconst 0, 1) := by decide +kernel
theorem dL_fit_2 : decode cL_fit 2 = .ok (.aload_n 0, 1) := by decide +kernel
theorem dL_fit_3 : decode cL_fit 3 = .ok (.invokevirtual 66, 3) := by decide +kernel
theorem dL_fit_6 : decode cL_fit 6 = .ok (.i2l, 1) := by decide +kernel
theorem dL_fit_7 : decode cL_fit 7 = .ok (.lastore, 1) := by decide +kernel
theorem dL_fit_8 : decode cL_fit 8 = .ok (.goto 6, 3) := by decide +kernel
theorem dL_fit_11 : decode cL_fit 11 = .ok (.astore_n 2, 1) := by decide +kernel
theorem dL_fit_12 : decode cL_fit 12 = .ok (.iconst 1, 1) := by decide +kernel
theorem dL_fit_13 : decode cL_fit 13 = .ok (.ireturn, 1) := by decide +kernel
theorem dL_fit_14 : decode cL_fit 14 = .ok (.iconst 0, 1) := by decide +kernel
theorem dL_fit_15 : decode cL_fit 15 = .ok (.ireturn, 1) := by decide +kernel
