theorem ggX4_init_X3_init : GoodIn wsX4_init wsX3_init := goodIn_r _ [25, 26, 2, 3, 9, 27, 28, 47, 48, 49] (by decide +kernel) (by decide +kernel)
set_option maxRecDepth 20000 in
theorem gX4_init_X3_init_n9 : GoodIn wsX4_init (wsX3_init) := ggX4_init_X3_init
set_option maxRecDepth 20000 in
theorem ggX4_init_X1_init : GoodIn wsX4_init wsX1_init := goodIn_r _ [30, 31, 2, 3, 32, 33, 34, 9, 35, 36, 57, 58, 59, 60, 61, 62] (by decide +kernel) (by decide +kernel)
set_option maxRecDepth 20000 in
theorem gX4_init_X1_init_n29 : GoodIn wsX4_init (wsX1_init) := ggX4_init_X1_init
set_option maxRecDepth 20000 in
theorem ggX4_init_X0_init : GoodIn wsX4_init wsX0_init := goodIn_r _ [38, 39, 2, 3, 32, 40, 9, 41, 63, 64, 65, 66] (by decide +kernel) (by decide +kernel)
set_option maxRecDepth 20000 in
theorem gX4_init_X0_init_n36 : GoodIn wsX4_init (wsX0_init) := ggX4_init_X0_init
set_option maxRecDepth 20000 in
theorem ggX4_init_X2_init : GoodIn wsX4_init wsX2_init := goodIn_r _ [43, 44, 2, 3, 32, 45, 46, 67, 68, 69, 70] (by decide +kernel) (by decide +kernel)
set_option maxRecDepth 20000 in
theorem gX4_init_X2_init_n43 : GoodIn wsX4_init (wsX2_init) := ggX4_init_X2_init
theorem dX4_init_0 : decode cX4_init 0 = .ok (.aload_n 0, 1) := by decide +kernel
theorem dX4_init_1 : decode cX4_init 1 = .ok (.invokespecial 1, 3) := by decide +kernel
theorem dX4_init_4 : decode cX4_init 4 = .ok (.aload_n 0, 1) := by decide +kernel
theorem dX4_init_5 : decode cX4_init 5 = .ok (.new 7, 3) := by decide +kernel
theorem dX4_init_8 : decode cX4_init 8 = .ok (.dup, 1) := by decide +kernel
theorem dX4_init_9 : decode cX4_init 9 = .ok (.invokespecial 9, 3) := by decide +kernel
theorem dX4_init_12 : decode cX4_init 12 = .ok (.putfield 10, 3) := by decide +kernel
theorem dX4_init_15 : decode cX4_init 15 = .ok (.aload_n 0, 1) := by decide +kernel
theorem dX4_init_16 : decode cX4_init 16 = .ok (.new 7, 3) := by decide +kernel
theorem dX4_init_19 : decode cX4_init 19 = .ok (.dup, 1) := by decide +kernel
theorem dX4_init_20 : decode cX4_init 20 = .ok (.invokespecial 9, 3) := by decide +kernel
theorem dX4_init_23 : decode cX4_init 23 = .ok (.putfield 16, 3) := by decide +kernel
theorem dX4_init_26 : decode cX4_init 26 = .ok (.aload_n 0, 1) := by decide +kernel
theorem dX4_init_27 : decode cX4_init 27 = .ok (.bipush 10, 2) := by decide +kernel
theorem dX4_init_29 : decode cX4_init 29 = .ok (.newarray .int, 2) := by decide +kernel
theorem dX4_init_31 : decode cX4_init 31 = .ok (.putfield 19, 3) := by decide +kernel
theorem dX4_init_34 : decode cX4_init 34 = .ok (.aload_n 0, 1) := by decide +kernel
theorem dX4_init_35 : decode cX4_init 35 = .ok (.iconst 1, 1) := by decide +kernel
theorem dX4_init_36 : decode cX4_init 36 = .ok (.putfield 23, 3) := by decide +kernel
theorem dX4_init_39 : decode cX4_init 39 = .ok (.aload_n 0, 1) := by decide +kernel
theorem dX4_init_40 : decode cX4_init 40 = .ok (.new 27, 3) := by decide +kernel
theorem dX4_init_43 : decode cX4_init 43 = .ok (.dup, 1) := by decide +kernel
theorem dX4_init_44 : decode cX4_init 44 = .ok (.invokespecial 29, 3) := by decide +kernel
theorem dX4_init_47 : decode cX4_init 47 = .ok (.putfield 30, 3) := by decide +kernel
theorem dX4_init_50 : decode cX4_init 50 = .ok (.aload_n 0, 1) := by decide +kernel
theorem dX4_init_51 : decode cX4_init 51 = .ok (.new 34, 3) := by decide +kernel
theorem dX4_init_54 : decode cX4_init 54 = .ok (.dup, 1) := by decide +kernel
theorem dX4_init_55 : decode cX4_init 55 = .ok (.invokespecial 36, 3) := by decide +kernel
theorem dX4_init_58 : decode cX4_init 58 = .ok (.putfield 37, 3) := by decide +kernel
theorem dX4_init_61 : decode cX4_init 61 = .ok (.aload_n 0, 1) := by decide +kernel
theorem dX4_init_62 : decode cX4_init 62 = .ok (.new 41, 3) := by decide +kernel
theorem dX4_init_65 : decode cX4_init 65 = .ok (.dup, 1) := by decide +kernel
theorem dX4_init_66 : decode cX4_init 66 = .ok (.invokespecial 43, 3) := by decide +kernel
theorem dX4_init_69 : decode cX4_init 69 = .ok (.putfield 44, 3) := by decide +kernel
theorem dX4_init_72 : decode cX4_init 72 = .ok (.return_, 1) := by decide +kernel
set_option maxRecDepth 20000 in
theorem ggX4_thread_X4_isBelow : GoodIn wsX4_thread wsX4_isBelow := goodIn_r _ [9] (by decide +kernel) (by decide +kernel)
set_option maxRecDepth 20000 in
theorem gX4_thread_X4_isBelow : GoodIn wsX4_thread (va_wsS RX4 48 yX4_isBelow wsX4_isBelow) := goodIn_app (goodIn_of _ (by decide +kernel)) ggX4_thread_X4_isBelow
set_option maxRecDepth 20000 in
theorem ggX4_thread_X3_isFull : GoodIn wsX4_thread wsX3_isFull := goodIn_r _ [13, 14, 27, 28, 29] (by decide +kernel) (by decide +kernel)
set_option maxRecDepth 20000 in
theorem gX4_thread_X3_isFull_n55 : GoodIn wsX4_thread (wsX3_isFull) := ggX4_thread_X3_isFull
set_option maxRecDepth 20000 in
theorem ggX4_thread_X3_add : GoodIn wsX4_thread wsX3_add := goodIn_r _ [17, 14, 18, 19, 27, 28, 29] (by decide +kernel) (by decide +kernel)
set_option maxRecDepth 20000 in
theorem gX4_thread_X3_add_n62 : GoodIn wsX4_thread (wsX3_add) := ggX4_thread_X3_add
theorem dX4_thread_0 : decode cX4_thread 0 = .ok (.iload_n 1, 1) := by decide +kernel
theorem dX4_thread_1 : decode cX4_thread 1 = .ok (.bipush 8, 2) := by decide +kernel
theorem dX4_thread_3 : decode cX4_thread 3 = .ok (.invokestatic 48, 3) := by decide +kernel
theorem dX4_thread_6 : decode cX4_thread 6 = .ok (.ifCond .eq 12, 3) := by decide +kernel
theorem dX4_thread_9 : decode cX4_thread 9 = .ok (.iload_n 2, 1) := by decide +kernel
theorem dX4_thread_10 : decode cX4_thread 10 = .ok (.bipush 8, 2) := by decide +kernel
theorem dX4_thread_12 : decode cX4_thread 12 = .ok (.invokestatic 48, 3) := by decide +kernel
theorem dX4_thread_15 : decode cX4_thread 15 = .ok (.ifCond .ne 11, 3) := by decide +kernel
theorem dX4_thread_18 : decode cX4_thread 18 = .ok (.new 52, 3) := by decide +kernel
theorem dX4_thread_21 : decode cX4_thread 21 = .ok (.dup, 1) := by decide +kernel
theorem dX4_thread_22 : decode cX4_thread 22 = .ok (.invokespecial 54, 3) := by decide +kernel
theorem dX4_thread_25 : decode cX4_thread 25 = .ok (.athrow, 1) := by decide +kernel
theorem dX4_thread_26 : decode cX4_thread 26 = .ok (.aload_n 0, 1) := by decide +kernel
theorem dX4_thread_27 : decode cX4_thread 27 = .ok (.getfield 10, 3) := by decide +kernel
theorem dX4_thread_30 : decode cX4_thread 30 = .ok (.invokevirtual 55, 3) := by decide +kernel
theorem dX4_thread_33 : decode cX4_thread 33 = .ok (.ifCond .eq 11, 3) := by decide +kernel
theorem dX4_thread_36 : decode cX4_thread 36 = .ok (.new 59, 3) := by decide +kernel
theorem dX4_thread_39 : decode cX4_thread 39 = .ok (.dup, 1) := by decide +kernel
theorem dX4_thread_40 : decode cX4_thread 40 = .ok (.invokespecial 61, 3) := by decide +kernel
theorem dX4_thread_43 : decode cX4_thread 43 = .ok (.athrow, 1) := by decide +kernel
theorem dX4_thread_44 : decode cX4_thread 44 = .ok (.aload_n 0, 1) := by decide +kernel
theorem dX4_thread_45 : decode cX4_thread 45 = .ok (.getfield 10, 3) := by decide +kernel
theorem dX4_thread_48 : decode cX4_thread 48 = .ok (.iload_n 1, 1) := by decide +kernel
theorem dX4_thread_49 : decode cX4_thread 49 = .ok (.iload_n 2, 1) := by decide +kernel
theorem dX4_thread_50 : decode cX4_thread 50 = .ok (.invokevirtual 62, 3) := by decide +kernel
theorem dX4_thread_53 : decode cX4_thread 53 = .ok (.ireturn, 1) := by decide +kernel
set_option maxRecDepth 20000 in
theorem ggX4_tread_X4_isSetOf : GoodIn wsX4_tread wsX4_isSetOf := goodIn_r _ [9, 10, 11, 8, 12] (by decide +kernel) (by decide +kernel)
set_option maxRecDepth 20000 in
theorem gX4_tread_X4_isSetOf : GoodIn wsX4_tread (va_wsS RX4 66 yX4_isSetOf wsX4_isSetOf) := goodIn_app (goodIn_of _ (by decide +kernel)) ggX4_tread_X4_isSetOf
set_option maxRecDepth 20000 in
theorem ggX4_tread_X4_isBelow : GoodIn wsX4_tread wsX4_isBelow := goodIn_r _ [12] (by decide +kernel) (by decide +kernel)
set_option maxRecDepth 20000 in
theorem gX4_tread_X4_isBelow : GoodIn wsX4_tread (va_wsS RX4 48 yX4_isBelow wsX4_isBelow) := goodIn_app (goodIn_of _ (by decide +kernel)) ggX4_tread_X4_isBelow
set_option maxRecDepth 20000 in
theorem ggX4_tread_X3_isFull : GoodIn wsX4_tread wsX3_isFull := goodIn_r _ [16, 17, 30, 31, 32] (by decide +kernel) (by decide +kernel)
set_option maxRecDepth 20000 in
theorem gX4_tread_X3_isFull_n55 : GoodIn wsX4_tread (wsX3_isFull) := ggX4_tread_X3_isFull
set_option maxRecDepth 20000 in
theorem ggX4_tread_X3_add : GoodIn wsX4_tread wsX3_add := goodIn_r _ [20, 17, 21, 22, 30, 31, 32] (by decide +kernel) (by decide +kernel)
set_option maxRecDepth 20000 in
theorem gX4_tread_X3_add_n62 : GoodIn wsX4_tread (wsX3_add) := ggX4_tread_X3_add
theorem dX4_tread_0 : decode cX4_tread 0 = .ok (.iload_n 1, 1) := by decide +kernel
theorem dX4_tread_1 : decode cX4_tread 1 = .ok (.bipush 10, 2) := by decide +kernel
theorem dX4_tread_3 : decode cX4_tread 3 = .ok (.invokestatic 66, 3) := by decide +kernel
theorem dX4_tread_6 : decode cX4_tread 6 = .ok (.ifCond .eq 12, 3) := by decide +kernel
theorem dX4_tread_9 : decode cX4_tread 9 = .ok (.iload_n 2, 1) := by decide +kernel
theorem dX4_tread_10 : decode cX4_tread 10 = .ok (.bipush 8, 2) := by decide +kernel
theorem dX4_tread_12 : decode cX4_tread 12 = .ok (.invokestatic 48, 3) := by decide +kernel
theorem dX4_tread_15 : decode cX4_tread 15 = .ok (.ifCond .ne 11, 3) := by decide +kernel
theorem dX4_tread_18 : decode cX4_tread 18 = .ok (.new 52, 3) := by decide +kernel
theorem dX4_tread_21 : decode cX4_tread 21 = .ok (.dup, 1) := by decide +kernel
theorem dX4_tread_22 : decode cX4_tread 22 = .ok (.invokespecial 54, 3) := by decide +kernel
theorem dX4_tread_25 : decode cX4_tread 25 = .ok (.athrow, 1) := by decide +kernel
theorem dX4_tread_26 : decode cX4_tread 26 = .ok (.aload_n 0, 1) := by decide +kernel
theorem dX4_tread_27 : decode cX4_tread 27 = .ok (.getfield 16, 3) := by decide +kernel
theorem dX4_tread_30 : decode cX4_tread 30 = .ok (.invokevirtual 55, 3) := by decide +kernel
theorem dX4_tread_33 : decode cX4_tread 33 = .ok (.ifCond .eq 11, 3) := by decide +kernel
theorem dX4_tread_36 : decode cX4_tread 36 = .ok (.new 59, 3) := by decide +kernel
theorem dX4_tread_39 : decode cX4_tread 39 = .ok (.dup, 1) := by decide +kernel
theorem dX4_tread_40 : decode cX4_tread 40 = .ok (.invokespecial 61, 3) := by decide +kernel
theorem dX4_tread_43 : decode cX4_tread 43 = .ok (.athrow, 1) := by decide +kernel
theorem dX4_tread_44 : decode cX4_tread 44 = .ok (.aload_n 0, 1) := by decide +kernel
theorem dX4_tread_45 : decode cX4_tread 45 = .ok (.getfield 16, 3) := by decide +kernel
theorem dX4_tread_48 : decode cX4_tread 48 = .ok (.iload_n 1, 1) := by decide +kernel
theorem dX4_tread_49 : decode cX4_tread 49 = .ok (.iload_n 2, 1) := by decide +kernel
theorem dX4_tread_50 : decode cX4_tread 50 = .ok (.invokevirtual 62, 3) := by decide +kernel
theorem dX4_tread_53 : decode cX4_tread 53 = .ok (.ireturn, 1) := by decide +kernel
set_option maxRecDepth 20000 in
theorem ggX4_tie_X4_isBelow : GoodIn wsX4_tie wsX4_isBelow := goodIn_r _ [9] (by decide +kernel) (by decide +kernel)
set_option maxRecDepth 20000 in
theorem gX4_tie_X4_isBelow : GoodIn wsX4_tie (va_wsS RX4 48 yX4_isBelow wsX4_isBelow) := goodIn_app (goodIn_of _ (by decide +kernel)) ggX4_tie_X4_isBelow
set_option maxRecDepth 20000 in
theorem ggX4_tie_X4_isSetOf : GoodIn wsX4_tie wsX4_isSetOf := goodIn_r _ [12, 6, 7, 8, 9] (by decide +kernel) (by decide +kernel)
set_option maxRecDepth 20000 in
theorem gX4_tie_X4_isSetOf : GoodIn wsX4_tie (va_wsS RX4 66 yX4_isSetOf wsX4_isSetOf) := goodIn_app (goodIn_of _ (by decide +kernel)) ggX4_tie_X4_isSetOf
theorem dX4_tie_0 : decode cX4_tie 0 = .ok (.iload_n 1, 1) := by decide +kernel
theorem dX4_tie_1 : decode cX4_tie 1 = .ok (.bipush 10, 2) := by decide +kernel
theorem dX4_tie_3 : decode cX4_tie 3 = .ok (.invokestatic 48, 3) := by decide +kernel
theorem dX4_tie_6 : decode cX4_tie 6 = .ok (.ifCond .ne 11, 3) := by decide +kernel
theorem dX4_tie_9 : decode cX4_tie 9 = .ok (.new 69, 3) := by decide +kernel
theorem dX4_tie_12 : decode cX4_tie 12 = .ok (.dup, 1) := by decide +kernel
theorem dX4_tie_13 : decode cX4_tie 13 = .ok (.invokespecial 71, 3) := by decide +kernel
theorem dX4_tie_16 : decode cX4_tie 16 = .ok (.athrow, 1) := by decide +kernel
theorem dX4_tie_17 : decode cX4_tie 17 = .ok (.iload_n 2, 1) := by decide +kernel
theorem dX4_tie_18 : decode cX4_tie 18 = .ok (.bipush 8, 2) := by decide +kernel
theorem dX4_tie_20 : decode cX4_tie 20 = .ok (.invokestatic 66, 3) := by decide +kernel
theorem dX4_tie_23 : decode cX4_tie 23 = .ok (.ifCond .ne 11, 3) := by decide +kernel
theorem dX4_tie_26 : decode cX4_tie 26 = .ok (.new 52, 3) := by decide +kernel
theorem dX4_tie_29 : decode cX4_tie 29 = .ok (.dup, 1) := by decide +kernel
theorem dX4_tie_30 : decode cX4_tie 30 = .ok (.invokespecial 54, 3) := by decide +kernel
theorem dX4_tie_33 : decode cX4_tie 33 = .ok (.athrow, 1) := by decide +kernel
theorem dX4_tie_34 : decode cX4_tie 34 = .ok (.aload_n 0, 1) := by decide +kernel
theorem dX4_tie_35 : decode cX4_tie 35 = .ok (.getfield 19, 3) := by decide +kernel
theorem dX4_tie_38 : decode cX4_tie 38 = .ok (.iload_n 1, 1) := by decide +kernel
theorem dX4_tie_39 : decode cX4_tie 39 = .ok (.iaload, 1) := by decide +kernel
theorem dX4_tie_40 : decode cX4_tie 40 = .ok (.istore_n 3, 1) := by decide +kernel
theorem dX4_tie_41 : decode cX4_tie 41 = .ok (.aload_n 0, 1) := by decide +kernel
theorem dX4_tie_42 : decode cX4_tie 42 = .ok (.getfield 19, 3) := by decide +kernel
theorem dX4_tie_45 : decode cX4_tie 45 = .ok (.iload_n 1, 1) := by decide +kernel
theorem dX4_tie_46 : decode cX4_tie 46 = .ok (.iload_n 2, 1) := by decide +kernel
theorem dX4_tie_47 : decode cX4_tie 47 = .ok (.iastore, 1) := by decide +kernel
theorem dX4_tie_48 : decode cX4_tie 48 = .ok (.iload_n 3, 1) := by decide +kernel
theorem dX4_tie_49 : decode cX4_tie 49 = .ok (.ireturn, 1) := by decide +kernel
theorem dX4_setRising_0 : decode cX4_setRising 0 = .ok (.aload_n 0, 1) := by decide +kernel
theorem dX4_setRising_1 : decode cX4_setRising 1 = .ok (.getfield 23, 3) := by decide +kernel
theorem dX4_setRising_4 : decode cX4_setRising 4 = .ok (.istore_n 2, 1) := by decide +kernel
theorem dX4_setRising_5 : decode cX4_setRising 5 = .ok (.aload_n 0, 1) := by decide +kernel
theorem dX4_setRising_6 : decode cX4_setRising 6 = .ok (.iload_n 1, 1) := by decide +kernel
theorem dX4_setRising_7 : decode cX4_setRising 7 = .ok (.putfield 23, 3) := by decide +kernel
theorem dX4_setRising_10 : decode cX4_setRising 10 = .ok (.iload_n 2, 1) := by decide +kernel
theorem dX4_setRising_11 : decode cX4_setRising 11 = .ok (.ireturn, 1) := by decide +kernel
set_option maxRecDepth 20000 in
theorem ggX4_count_X4_rowOf : GoodIn wsX4_count wsX4_rowOf := goodIn_r _ [5, 6, 7, 11, 12, 13, 14, 15, 16, 17] (by decide +kernel) (by decide +kernel)
set_option maxRecDepth 20000 in
theorem gX4_count_X4_rowOf : GoodIn wsX4_count (wsV RX4 72 RX4 yX4_rowOf wsX4_rowOf) := goodIn_app (goodIn_of _ (by decide +kernel)) ggX4_count_X4_rowOf
theorem dX4_count_0 : decode cX4_count 0 = .ok (.aload_n 0, 1) := by decide +kernel
theorem dX4_count_1 : decode cX4_count 1 = .ok (.iload_n 1, 1) := by decide +kernel
theorem dX4_count_2 : decode cX4_count 2 = .ok (.invokevirtual 72, 3) := by decide +kernel
theorem dX4_count_5 : decode cX4_count 5 = .ok (.getfield 76, 3) := by decide +kernel
theorem dX4_count_8 : decode cX4_count 8 = .ok (.ireturn, 1) := by decide +kernel
set_option maxRecDepth 20000 in
theorem ggX4_end_X3_has : GoodIn wsX4_end wsX3_has := goodIn_r _ [7, 8, 9, 10, 11, 20, 21, 22] (by decide +kernel) (by decide +kernel)
set_option maxRecDepth 20000 in
theorem gX4_end_X3_has_n80 : GoodIn wsX4_end (wsX3_has) := ggX4_end_X3_has
set_option maxRecDepth 20000 in
theorem ggX4_end_X4_isBelow : GoodIn wsX4_end wsX4_isBelow := goodIn_r _ [11] (by decide +kernel) (by decide +kernel)
set_option maxRecDepth 20000 in
theorem gX4_end_X4_isBelow : GoodIn wsX4_end (va_wsS RX4 48 yX4_isBelow wsX4_isBelow) := goodIn_app (goodIn_of _ (by decide +kernel)) ggX4_end_X4_isBelow
theorem dX4_end_0 : decode cX4_end 0 = .ok (.aload_n 0, 1) := by decide +kernel
theorem dX4_end_1 : decode cX4_end 1 = .ok (.getfield 10, 3) := by decide +kernel
theorem dX4_end_4 : decode cX4_end 4 = .ok (.iload_n 1, 1) := by decide +kernel
theorem dX4_end_5 : decode cX4_end 5 = .ok (.invokevirtual 80, 3) := by decide +kernel
theorem dX4_end_8 : decode cX4_end 8 = .ok (.ifCond .eq 11, 3) := by decide +kernel
theorem dX4_end_11 : decode cX4_end 11 = .ok (.iload_n 2, 1) := by decide +kernel
theorem dX4_end_12 : decode cX4_end 12 = .ok (.iconst 2, 1) := by decide +kernel
theorem dX4_end_13 : decode cX4_end 13 = .ok (.invokestatic 48, 3) := by decide +kernel
theorem dX4_end_16 : decode cX4_end 16 = .ok (.ifCond .ne 11, 3) := by decide +kernel
theorem dX4_end_19 : decode cX4_end 19 = .ok (.new 69, 3) := by decide +kernel
theorem dX4_end_22 : decode cX4_end 22 = .ok (.dup, 1) := by decide +kernel
theorem dX4_end_23 : decode cX4_end 23 = .ok (.invokespecial 71, 3) := by decide +kernel
theorem dX4_end_26 : decode cX4_end 26 = .ok (.athrow, 1) := by decide +kernel
theorem dX4_end_27 : decode cX4_end 27 = .ok (.iload_n 2, 1) := by decide +kernel
theorem dX4_end_28 : decode cX4_end 28 = .ok (.ifCond .ne 15, 3) := by decide +kernel
theorem dX4_end_31 : decode cX4_end 31 = .ok (.aload_n 0, 1) := by decide +kernel
theorem dX4_end_32 : decode cX4_end 32 = .ok (.getfield 10, 3) := by decide +kernel
theorem dX4_end_35 : decode cX4_end 35 = .ok (.getfield 84, 3) := by decide +kernel
theorem dX4_end_38 : decode cX4_end 38 = .ok (.iload_n 1, 1) := by decide +kernel
theorem dX4_end_39 : decode cX4_end 39 = .ok (.iaload, 1) := by decide +kernel
theorem dX4_end_40 : decode cX4_end 40 = .ok (.goto 12, 3) := by decide +kernel
theorem dX4_end_43 : decode cX4_end 43 = .ok (.aload_n 0, 1) := by decide +kernel
theorem dX4_end_44 : decode cX4_end 44 = .ok (.getfield 10, 3) := by decide +kernel
theorem dX4_end_47 : decode cX4_end 47 = .ok (.getfield 87, 3) := by decide +kernel
theorem dX4_end_50 : decode cX4_end 50 = .ok (.iload_n 1, 1) := by decide +kernel
theorem dX4_end_51 : decode cX4_end 51 = .ok (.iaload, 1) := by decide +kernel
theorem dX4_end_52 : decode cX4_end 52 = .ok (.ireturn, 1) := by decide +kernel
set_option maxRecDepth 20000 in
theorem ggX4_pick_X3_has : GoodIn wsX4_pick wsX3_has := goodIn_r _ [7, 8, 9, 10, 11, 28, 29, 30] (by decide +kernel) (by decide +kernel)
set_option maxRecDepth 20000 in
theorem gX4_pick_X3_has_n80 : GoodIn wsX4_pick (wsX3_has) := ggX4_pick_X3_has
set_option maxRecDepth 20000 in
theorem ggX4_pick_X4_isBelow : GoodIn wsX4_pick wsX4_isBelow := goodIn_r _ [11] (by decide +kernel) (by decide +kernel)
set_option maxRecDepth 20000 in
theorem gX4_pick_X4_isBelow : GoodIn wsX4_pick (va_wsS RX4 48 yX4_isBelow wsX4_isBelow) := goodIn_app (goodIn_of _ (by decide +kernel)) ggX4_pick_X4_isBelow
set_option maxRecDepth 20000 in
theorem ggX4_pick_X4_shaftsMovedFor : GoodIn wsX4_pick wsX4_shaftsMovedFor := goodIn_r _ [16, 3, 17, 18, 19, 10, 20, 21, 22, 23, 24, 25, 26, 27, 28, 29, 30] (by decide +kernel) (by decide +kernel)
set_option maxRecDepth 20000 in
theorem gX4_pick_X4_shaftsMovedFor : GoodIn wsX4_pick (wsV RX4 90 RX4 yX4_shaftsMovedFor wsX4_shaftsMovedFor) := goodIn_app (goodIn_of _ (by decide +kernel)) ggX4_pick_X4_shaftsMovedFor
theorem dX4_pick_0 : decode cX4_pick 0 = .ok (.aload_n 0, 1) := by decide +kernel
theorem dX4_pick_1 : decode cX4_pick 1 = .ok (.getfield 16, 3) := by decide +kernel
theorem dX4_pick_4 : decode cX4_pick 4 = .ok (.iload_n 1, 1) := by decide +kernel
theorem dX4_pick_5 : decode cX4_pick 5 = .ok (.invokevirtual 80, 3) := by decide +kernel
theorem dX4_pick_8 : decode cX4_pick 8 = .ok (.ifCond .eq 11, 3) := by decide +kernel
theorem dX4_pick_11 : decode cX4_pick 11 = .ok (.iload_n 2, 1) := by decide +kernel
theorem dX4_pick_12 : decode cX4_pick 12 = .ok (.iconst 3, 1) := by decide +kernel
theorem dX4_pick_13 : decode cX4_pick 13 = .ok (.invokestatic 48, 3) := by decide +kernel
theorem dX4_pick_16 : decode cX4_pick 16 = .ok (.ifCond .ne 11, 3) := by decide +kernel
theorem dX4_pick_19 : decode cX4_pick 19 = .ok (.new 69, 3) := by decide +kernel
theorem dX4_pick_22 : decode cX4_pick 22 = .ok (.dup, 1) := by decide +kernel
theorem dX4_pick_23 : decode cX4_pick 23 = .ok (.invokespecial 71, 3) := by decide +kernel
theorem dX4_pick_26 : decode cX4_pick 26 = .ok (.athrow, 1) := by decide +kernel
theorem dX4_pick_27 : decode cX4_pick 27 = .ok (.iload_n 2, 1) := by decide +kernel
theorem dX4_pick_28 : decode cX4_pick 28 = .ok (.iconst 2, 1) := by decide +kernel
theorem dX4_pick_29 : decode cX4_pick 29 = .ok (.if_icmp .ne 9, 3) := by decide +kernel
theorem dX4_pick_32 : decode cX4_pick 32 = .ok (.aload_n 0, 1) := by decide +kernel
theorem dX4_pick_33 : decode cX4_pick 33 = .ok (.iload_n 1, 1) := by decide +kernel
theorem dX4_pick_34 : decode cX4_pick 34 = .ok (.invokevirtual 90, 3) := by decide +kernel
theorem dX4_pick_37 : decode cX4_pick 37 = .ok (.ireturn, 1) := by decide +kernel
theorem dX4_pick_38 : decode cX4_pick 38 = .ok (.iload_n 2, 1) := by decide +kernel
theorem dX4_pick_39 : decode cX4_pick 39 = .ok (.ifCond .ne 15, 3) := by decide +kernel
theorem dX4_pick_42 : decode cX4_pick 42 = .ok (.aload_n 0, 1) := by decide +kernel
theorem dX4_pick_43 : decode cX4_pick 43 = .ok (.getfield 16, 3) := by decide +kernel
theorem dX4_pick_46 : decode cX4_pick 46 = .ok (.getfield 84, 3) := by decide +kernel
theorem dX4_pick_49 : decode cX4_pick 49 = .ok (.iload_n 1, 1) := by decide +kernel
theorem dX4_pick_50 : decode cX4_pick 50 = .ok (.iaload, 1) := by decide +kernel
theorem dX4_pick_51 : decode cX4_pick 51 = .ok (.goto 12, 3) := by decide +kernel
theorem dX4_pick_54 : decode cX4_pick 54 = .ok (.aload_n 0, 1) := by decide +kernel
theorem dX4_pick_55 : decode cX4_pick 55 = .ok (.getfield 16, 3) := by decide +kernel
theorem dX4_pick_58 : decode cX4_pick 58 = .ok (.getfield 87, 3) := by decide +kernel
theorem dX4_pick_61 : decode cX4_pick 61 = .ok (.iload_n 1, 1) := by decide +kernel
theorem dX4_pick_62 : decode cX4_pick 62 = .ok (.iaload, 1) := by decide +kernel
theorem dX4_pick_63 : decode cX4_pick 63 = .ok (.ireturn, 1) := by decide +kernel
set_option maxRecDepth 20000 in
theorem ggX4_reverse_X4_rowOf : GoodIn wsX4_reverse wsX4_rowOf := goodIn_r _ [5, 6, 7, 21, 22, 23, 24, 25, 26, 27] (by decide +kernel) (by decide +kernel)
set_option maxRecDepth 20000 in
theorem gX4_reverse_X4_rowOf : GoodIn wsX4_reverse (wsV RX4 72 RX4 yX4_rowOf wsX4_rowOf) := goodIn_app (goodIn_of _ (by decide +kernel)) ggX4_reverse_X4_rowOf
set_option maxRecDepth 20000 in
theorem ggX4_reverse_X3_turn : GoodIn wsX4_reverse wsX3_turn := goodIn_r _ [11, 12, 13, 14, 9, 15, 16, 17, 18, 19, 20] (by decide +kernel) (by decide +kernel)
set_option maxRecDepth 20000 in
theorem gX4_reverse_X3_turn_n94 : GoodIn wsX4_reverse (wsX3_turn) := ggX4_reverse_X3_turn
theorem dX4_reverse_0 : decode cX4_reverse 0 = .ok (.aload_n 0, 1) := by decide +kernel
theorem dX4_reverse_1 : decode cX4_reverse 1 = .ok (.iload_n 1, 1) := by decide +kernel
theorem dX4_reverse_2 : decode cX4_reverse 2 = .ok (.invokevirtual 72, 3) := by decide +kernel
theorem dX4_reverse_5 : decode cX4_reverse 5 = .ok (.astore_n 2, 1) := by decide +kernel
theorem dX4_reverse_6 : decode cX4_reverse 6 = .ok (.aload_n 2, 1) := by decide +kernel
theorem dX4_reverse_7 : decode cX4_reverse 7 = .ok (.iconst 0, 1) := by decide +kernel
theorem dX4_reverse_8 : decode cX4_reverse 8 = .ok (.aload_n 2, 1) := by decide +kernel
theorem dX4_reverse_9 : decode cX4_reverse 9 = .ok (.getfield 76, 3) := by decide +kernel
theorem dX4_reverse_12 : decode cX4_reverse 12 = .ok (.invokevirtual 94, 3) := by decide +kernel
theorem dX4_reverse_15 : decode cX4_reverse 15 = .ok (.aload_n 2, 1) := by decide +kernel
theorem dX4_reverse_16 : decode cX4_reverse 16 = .ok (.getfield 76, 3) := by decide +kernel
theorem dX4_reverse_19 : decode cX4_reverse 19 = .ok (.ireturn, 1) := by decide +kernel
set_option maxRecDepth 20000 in
theorem ggX4_rotate_X4_rowOf : GoodIn wsX4_rotate wsX4_rowOf := goodIn_r _ [7, 8, 9, 28, 29, 30, 31, 32, 33, 34] (by decide +kernel) (by decide +kernel)
set_option maxRecDepth 20000 in
theorem gX4_rotate_X4_rowOf : GoodIn wsX4_rotate (wsV RX4 72 RX4 yX4_rowOf wsX4_rowOf) := goodIn_app (goodIn_of _ (by decide +kernel)) ggX4_rotate_X4_rowOf
set_option maxRecDepth 20000 in
theorem ggX4_rotate_X3_moveOn : GoodIn wsX4_rotate wsX3_moveOn := goodIn_r _ [13, 14, 15, 16, 17, 11, 18, 19, 20, 21, 22, 23, 24, 25, 26, 27] (by decide +kernel) (by decide +kernel)
set_option maxRecDepth 20000 in
theorem gX4_rotate_X3_moveOn_n98 : GoodIn wsX4_rotate (wsX3_moveOn) := ggX4_rotate_X3_moveOn
theorem dX4_rotate_0 : decode cX4_rotate 0 = .ok (.iload_n 2, 1) := by decide +kernel
theorem dX4_rotate_1 : decode cX4_rotate 1 = .ok (.ifCond .lt 9, 3) := by decide +kernel
theorem dX4_rotate_4 : decode cX4_rotate 4 = .ok (.iload_n 2, 1) := by decide +kernel
theorem dX4_rotate_5 : decode cX4_rotate 5 = .ok (.bipush 40, 2) := by decide +kernel
theorem dX4_rotate_7 : decode cX4_rotate 7 = .ok (.if_icmp .le 11, 3) := by decide +kernel
theorem dX4_rotate_10 : decode cX4_rotate 10 = .ok (.new 52, 3) := by decide +kernel
theorem dX4_rotate_13 : decode cX4_rotate 13 = .ok (.dup, 1) := by decide +kernel
theorem dX4_rotate_14 : decode cX4_rotate 14 = .ok (.invokespecial 54, 3) := by decide +kernel
theorem dX4_rotate_17 : decode cX4_rotate 17 = .ok (.athrow, 1) := by decide +kernel
theorem dX4_rotate_18 : decode cX4_rotate 18 = .ok (.aload_n 0, 1) := by decide +kernel
theorem dX4_rotate_19 : decode cX4_rotate 19 = .ok (.iload_n 1, 1) := by decide +kernel
theorem dX4_rotate_20 : decode cX4_rotate 20 = .ok (.invokevirtual 72, 3) := by decide +kernel
theorem dX4_rotate_23 : decode cX4_rotate 23 = .ok (.astore_n 3, 1) := by decide +kernel
theorem dX4_rotate_24 : decode cX4_rotate 24 = .ok (.aload_n 3, 1) := by decide +kernel
theorem dX4_rotate_25 : decode cX4_rotate 25 = .ok (.iload_n 2, 1) := by decide +kernel
theorem dX4_rotate_26 : decode cX4_rotate 26 = .ok (.invokevirtual 98, 3) := by decide +kernel
theorem dX4_rotate_29 : decode cX4_rotate 29 = .ok (.aload_n 3, 1) := by decide +kernel
theorem dX4_rotate_30 : decode cX4_rotate 30 = .ok (.getfield 76, 3) := by decide +kernel
theorem dX4_rotate_33 : decode cX4_rotate 33 = .ok (.ireturn, 1) := by decide +kernel
set_option maxRecDepth 20000 in
theorem ggX4_repeat_X4_rowOf : GoodIn wsX4_repeat wsX4_rowOf := goodIn_r _ [7, 8, 9, 24, 25, 26, 27, 28, 29, 30] (by decide +kernel) (by decide +kernel)
set_option maxRecDepth 20000 in
theorem gX4_repeat_X4_rowOf : GoodIn wsX4_repeat (wsV RX4 72 RX4 yX4_rowOf wsX4_rowOf) := goodIn_app (goodIn_of _ (by decide +kernel)) ggX4_repeat_X4_rowOf
set_option maxRecDepth 20000 in
theorem ggX4_repeat_X3_addCopy : GoodIn wsX4_repeat wsX3_addCopy := goodIn_r _ [13, 14, 15, 16, 17, 18, 19, 11, 20, 21, 22, 23] (by decide +kernel) (by decide +kernel)
set_option maxRecDepth 20000 in
theorem gX4_repeat_X3_addCopy_n102 : GoodIn wsX4_repeat (wsX3_addCopy) := ggX4_repeat_X3_addCopy
theorem dX4_repeat_0 : decode cX4_repeat 0 = .ok (.aload_n 0, 1) := by decide +kernel
theorem dX4_repeat_1 : decode cX4_repeat 1 = .ok (.iload_n 1, 1) := by decide +kernel
theorem dX4_repeat_2 : decode cX4_repeat 2 = .ok (.invokevirtual 72, 3) := by decide +kernel
theorem dX4_repeat_5 : decode cX4_repeat 5 = .ok (.astore_n 2, 1) := by decide +kernel
theorem dX4_repeat_6 : decode cX4_repeat 6 = .ok (.aload_n 2, 1) := by decide +kernel
theorem dX4_repeat_7 : decode cX4_repeat 7 = .ok (.getfield 76, 3) := by decide +kernel
theorem dX4_repeat_10 : decode cX4_repeat 10 = .ok (.iconst 2, 1) := by decide +kernel
theorem dX4_repeat_11 : decode cX4_repeat 11 = .ok (.imul, 1) := by decide +kernel
theorem dX4_repeat_12 : decode cX4_repeat 12 = .ok (.bipush 40, 2) := by decide +kernel
theorem dX4_repeat_14 : decode cX4_repeat 14 = .ok (.if_icmp .le 11, 3) := by decide +kernel
theorem dX4_repeat_17 : decode cX4_repeat 17 = .ok (.new 59, 3) := by decide +kernel
theorem dX4_repeat_20 : decode cX4_repeat 20 = .ok (.dup, 1) := by decide +kernel
theorem dX4_repeat_21 : decode cX4_repeat 21 = .ok (.invokespecial 61, 3) := by decide +kernel
theorem dX4_repeat_24 : decode cX4_repeat 24 = .ok (.athrow, 1) := by decide +kernel
theorem dX4_repeat_25 : decode cX4_repeat 25 = .ok (.aload_n 2, 1) := by decide +kernel
theorem dX4_repeat_26 : decode cX4_repeat 26 = .ok (.invokevirtual 102, 3) := by decide +kernel
theorem dX4_repeat_29 : decode cX4_repeat 29 = .ok (.aload_n 2, 1) := by decide +kernel
theorem dX4_repeat_30 : decode cX4_repeat 30 = .ok (.getfield 76, 3) := by decide +kernel
theorem dX4_repeat_33 : decode cX4_repeat 33 = .ok (.ireturn, 1) := by decide +kernel
set_option maxRecDepth 20000 in
theorem ggX4_cut_X4_rowOf : GoodIn wsX4_cut wsX4_rowOf := goodIn_r _ [7, 8, 9, 13, 14, 15, 16, 17, 18, 19] (by decide +kernel) (by decide +kernel)
set_option maxRecDepth 20000 in
theorem gX4_cut_X4_rowOf : GoodIn wsX4_cut (wsV RX4 72 RX4 yX4_rowOf wsX4_rowOf) := goodIn_app (goodIn_of _ (by decide +kernel)) ggX4_cut_X4_rowOf
theorem dX4_cut_0 : decode cX4_cut 0 = .ok (.aload_n 0, 1) := by decide +kernel
theorem dX4_cut_1 : decode cX4_cut 1 = .ok (.iload_n 1, 1) := by decide +kernel
theorem dX4_cut_2 : decode cX4_cut 2 = .ok (.invokevirtual 72, 3) := by decide +kernel
theorem dX4_cut_5 : decode cX4_cut 5 = .ok (.astore_n 3, 1) := by decide +kernel
theorem dX4_cut_6 : decode cX4_cut 6 = .ok (.iload_n 2, 1) := by decide +kernel
theorem dX4_cut_7 : decode cX4_cut 7 = .ok (.ifCond .lt 11, 3) := by decide +kernel
theorem dX4_cut_10 : decode cX4_cut 10 = .ok (.iload_n 2, 1) := by decide +kernel
theorem dX4_cut_11 : decode cX4_cut 11 = .ok (.aload_n 3, 1) := by decide +kernel
theorem dX4_cut_12 : decode cX4_cut 12 = .ok (.getfield 76, 3) := by decide +kernel
theorem dX4_cut_15 : decode cX4_cut 15 = .ok (.if_icmp .le 11, 3) := by decide +kernel
theorem dX4_cut_18 : decode cX4_cut 18 = .ok (.new 52, 3) := by decide +kernel
theorem dX4_cut_21 : decode cX4_cut 21 = .ok (.dup, 1) := by decide +kernel
theorem dX4_cut_22 : decode cX4_cut 22 = .ok (.invokespecial 54, 3) := by decide +kernel
theorem dX4_cut_25 : decode cX4_cut 25 = .ok (.athrow, 1) := by decide +kernel
theorem dX4_cut_26 : decode cX4_cut 26 = .ok (.aload_n 3, 1) := by decide +kernel
theorem dX4_cut_27 : decode cX4_cut 27 = .ok (.getfield 76, 3) := by decide +kernel
theorem dX4_cut_30 : decode cX4_cut 30 = .ok (.iload_n 2, 1) := by decide +kernel
theorem dX4_cut_31 : decode cX4_cut 31 = .ok (.isub, 1) := by decide +kernel
theorem dX4_cut_32 : decode cX4_cut 32 = .ok (.istore 4, 2) := by decide +kernel
theorem dX4_cut_34 : decode cX4_cut 34 = .ok (.aload_n 3, 1) := by decide +kernel
theorem dX4_cut_35 : decode cX4_cut 35 = .ok (.iload_n 2, 1) := by decide +kernel
theorem dX4_cut_36 : decode cX4_cut 36 = .ok (.putfield 76, 3) := by decide +kernel
theorem dX4_cut_39 : decode cX4_cut 39 = .ok (.iload 4, 2) := by decide +kernel
theorem dX4_cut_41 : decode cX4_cut 41 = .ok (.ireturn, 1) := by decide +kernel
set_option maxRecDepth 20000 in
theorem ggX4_isWarpOnTop_X3_has : GoodIn wsX4_isWarpOnTop wsX3_has := goodIn_r _ [8, 9, 10, 11, 12, 36, 37, 38] (by decide +kernel) (by decide +kernel)
set_option maxRecDepth 20000 in
theorem gX4_isWarpOnTop_X3_has_n80 : GoodIn wsX4_isWarpOnTop (wsX3_has) := ggX4_isWarpOnTop_X3_has
set_option maxRecDepth 20000 in
theorem ggX4_isWarpOnTop_X4_shaftsUpAt : GoodIn wsX4_isWarpOnTop wsX4_shaftsUpAt := goodIn_r _ [16, 17, 18, 19, 20, 11, 21, 3, 22, 23, 24, 25, 26, 27, 28, 29, 30, 31, 32, 33, 34, 35, 36, 37, 38] (by decide +kernel) (by decide +kernel)
set_option maxRecDepth 20000 in
theorem gX4_isWarpOnTop_X4_shaftsUpAt : GoodIn wsX4_isWarpOnTop (wsV RX4 105 RX4 yX4_shaftsUpAt wsX4_shaftsUpAt) := goodIn_app (goodIn_of _ (by decide +kernel)) ggX4_isWarpOnTop_X4_shaftsUpAt
set_option maxRecDepth 20000 in
theorem ggX4_isWarpOnTop_X4_hasBit : GoodIn wsX4_isWarpOnTop wsX4_hasBit := goodIn_r _ [25] (by decide +kernel) (by decide +kernel)
set_option maxRecDepth 20000 in
theorem gX4_isWarpOnTop_X4_hasBit : GoodIn wsX4_isWarpOnTop (va_wsS RX4 109 yX4_hasBit wsX4_hasBit) := goodIn_app (goodIn_of _ (by decide +kernel)) ggX4_isWarpOnTop_X4_hasBit
theorem dX4_isWarpOnTop_0 : decode cX4_isWarpOnTop 0 = .ok (.aload_n 0, 1) := by decide +kernel
theorem dX4_isWarpOnTop_1 : decode cX4_isWarpOnTop 1 = .ok (.getfield 16, 3) := by decide +kernel
theorem dX4_isWarpOnTop_4 : decode cX4_isWarpOnTop 4 = .ok (.iload_n 1, 1) := by decide +kernel
theorem dX4_isWarpOnTop_5 : decode cX4_isWarpOnTop 5 = .ok (.invokevirtual 80, 3) := by decide +kernel
theorem dX4_isWarpOnTop_8 : decode cX4_isWarpOnTop 8 = .ok (.ifCond .eq 14, 3) := by decide +kernel
theorem dX4_isWarpOnTop_11 : decode cX4_isWarpOnTop 11 = .ok (.aload_n 0, 1) := by decide +kernel
theorem dX4_isWarpOnTop_12 : decode cX4_isWarpOnTop 12 = .ok (.getfield 10, 3) := by decide +kernel
theorem dX4_isWarpOnTop_15 : decode cX4_isWarpOnTop 15 = .ok (.iload_n 2, 1) := by decide +kernel
theorem dX4_isWarpOnTop_16 : decode cX4_isWarpOnTop 16 = .ok (.invokevirtual 80, 3) := by decide +kernel
theorem dX4_isWarpOnTop_19 : decode cX4_isWarpOnTop 19 = .ok (.ifCond .ne 11, 3) := by decide +kernel
theorem dX4_isWarpOnTop_22 : decode cX4_isWarpOnTop 22 = .ok (.new 69, 3) := by decide +kernel
theorem dX4_isWarpOnTop_25 : decode cX4_isWarpOnTop 25 = .ok (.dup, 1) := by decide +kernel
theorem dX4_isWarpOnTop_26 : decode cX4_isWarpOnTop 26 = .ok (.invokespecial 71, 3) := by decide +kernel
theorem dX4_isWarpOnTop_29 : decode cX4_isWarpOnTop 29 = .ok (.athrow, 1) := by decide +kernel
theorem dX4_isWarpOnTop_30 : decode cX4_isWarpOnTop 30 = .ok (.aload_n 0, 1) := by decide +kernel
theorem dX4_isWarpOnTop_31 : decode cX4_isWarpOnTop 31 = .ok (.iload_n 1, 1) := by decide +kernel
theorem dX4_isWarpOnTop_32 : decode cX4_isWarpOnTop 32 = .ok (.invokevirtual 105, 3) := by decide +kernel
theorem dX4_isWarpOnTop_35 : decode cX4_isWarpOnTop 35 = .ok (.aload_n 0, 1) := by decide +kernel
theorem dX4_isWarpOnTop_36 : decode cX4_isWarpOnTop 36 = .ok (.getfield 10, 3) := by decide +kernel
theorem dX4_isWarpOnTop_39 : decode cX4_isWarpOnTop 39 = .ok (.getfield 84, 3) := by decide +kernel
theorem dX4_isWarpOnTop_42 : decode cX4_isWarpOnTop 42 = .ok (.iload_n 2, 1) := by decide +kernel
theorem dX4_isWarpOnTop_43 : decode cX4_isWarpOnTop 43 = .ok (.iaload, 1) := by decide +kernel
theorem dX4_isWarpOnTop_44 : decode cX4_isWarpOnTop 44 = .ok (.invokestatic 109, 3) := by decide +kernel
theorem dX4_isWarpOnTop_47 : decode cX4_isWarpOnTop 47 = .ok (.ireturn, 1) := by decide +kernel
set_option maxRecDepth 20000 in
theorem ggX4_colour_X3_has : GoodIn wsX4_colour wsX3_has := goodIn_r _ [8, 9, 10, 11, 12, 36, 37, 38] (by decide +kernel) (by decide +kernel)
set_option maxRecDepth 20000 in
theorem gX4_colour_X3_has_n80 : GoodIn wsX4_colour (wsX3_has) := ggX4_colour_X3_has
set_option maxRecDepth 20000 in
theorem ggX4_colour_X4_shaftsUpAt : GoodIn wsX4_colour wsX4_shaftsUpAt := goodIn_r _ [16, 17, 18, 19, 20, 11, 21, 3, 22, 23, 24, 25, 26, 27, 28, 29, 30, 31, 32, 33, 34, 35, 36, 37, 38] (by decide +kernel) (by decide +kernel)
set_option maxRecDepth 20000 in
theorem gX4_colour_X4_shaftsUpAt : GoodIn wsX4_colour (wsV RX4 105 RX4 yX4_shaftsUpAt wsX4_shaftsUpAt) := goodIn_app (goodIn_of _ (by decide +kernel)) ggX4_colour_X4_shaftsUpAt
set_option maxRecDepth 20000 in
theorem ggX4_colour_X4_hasBit : GoodIn wsX4_colour wsX4_hasBit := goodIn_r _ [25] (by decide +kernel) (by decide +kernel)
set_option maxRecDepth 20000 in
theorem gX4_colour_X4_hasBit : GoodIn wsX4_colour (va_wsS RX4 109 yX4_hasBit wsX4_hasBit) := goodIn_app (goodIn_of _ (by decide +kernel)) ggX4_colour_X4_hasBit
theorem dX4_colour_0 : decode cX4_colour 0 = .ok (.aload_n 0, 1) := by decide +kernel
theorem dX4_colour_1 : decode cX4_colour 1 = .ok (.getfield 16, 3) := by decide +kernel
theorem dX4_colour_4 : decode cX4_colour 4 = .ok (.iload_n 1, 1) := by decide +kernel
theorem dX4_colour_5 : decode cX4_colour 5 = .ok (.invokevirtual 80, 3) := by decide +kernel
theorem dX4_colour_8 : decode cX4_colour 8 = .ok (.ifCond .eq 14, 3) := by decide +kernel
theorem dX4_colour_11 : decode cX4_colour 11 = .ok (.aload_n 0, 1) := by decide +kernel
theorem dX4_colour_12 : decode cX4_colour 12 = .ok (.getfield 10, 3) := by decide +kernel
theorem dX4_colour_15 : decode cX4_colour 15 = .ok (.iload_n 2, 1) := by decide +kernel
theorem dX4_colour_16 : decode cX4_colour 16 = .ok (.invokevirtual 80, 3) := by decide +kernel
theorem dX4_colour_19 : decode cX4_colour 19 = .ok (.ifCond .ne 11, 3) := by decide +kernel
theorem dX4_colour_22 : decode cX4_colour 22 = .ok (.new 69, 3) := by decide +kernel
theorem dX4_colour_25 : decode cX4_colour 25 = .ok (.dup, 1) := by decide +kernel
theorem dX4_colour_26 : decode cX4_colour 26 = .ok (.invokespecial 71, 3) := by decide +kernel
theorem dX4_colour_29 : decode cX4_colour 29 = .ok (.athrow, 1) := by decide +kernel
theorem dX4_colour_30 : decode cX4_colour 30 = .ok (.aload_n 0, 1) := by decide +kernel
theorem dX4_colour_31 : decode cX4_colour 31 = .ok (.iload_n 1, 1) := by decide +kernel
theorem dX4_colour_32 : decode cX4_colour 32 = .ok (.invokevirtual 105, 3) := by decide +kernel
theorem dX4_colour_35 : decode cX4_colour 35 = .ok (.aload_n 0, 1) := by decide +kernel
theorem dX4_colour_36 : decode cX4_colour 36 = .ok (.getfield 10, 3) := by decide +kernel
theorem dX4_colour_39 : decode cX4_colour 39 = .ok (.getfield 84, 3) := by decide +kernel
theorem dX4_colour_42 : decode cX4_colour 42 = .ok (.iload_n 2, 1) := by decide +kernel
theorem dX4_colour_43 : decode cX4_colour 43 = .ok (.iaload, 1) := by decide +kernel
theorem dX4_colour_44 : decode cX4_colour 44 = .ok (.invokestatic 109, 3) := by decide +kernel
theorem dX4_colour_47 : decode cX4_colour 47 = .ok (.istore_n 3, 1) := by decide +kernel
theorem dX4_colour_48 : decode cX4_colour 48 = .ok (.iload_n 3, 1) := by decide +kernel
theorem dX4_colour_49 : decode cX4_colour 49 = .ok (.ifCond .eq 15, 3) := by decide +kernel
theorem dX4_colour_52 : decode cX4_colour 52 = .ok (.aload_n 0, 1) := by decide +kernel
theorem dX4_colour_53 : decode cX4_colour 53 = .ok (.getfield 10, 3) := by decide +kernel
theorem dX4_colour_56 : decode cX4_colour 56 = .ok (.getfield 87, 3) := by decide +kernel
theorem dX4_colour_59 : decode cX4_colour 59 = .ok (.iload_n 2, 1) := by decide +kernel
theorem dX4_colour_60 : decode cX4_colour 60 = .ok (.iaload, 1) := by decide +kernel
theorem dX4_colour_61 : decode cX4_colour 61 = .ok (.goto 12, 3) := by decide +kernel
theorem dX4_colour_64 : decode cX4_colour 64 = .ok (.aload_n 0, 1) := by decide +kernel
theorem dX4_colour_65 : decode cX4_colour 65 = .ok (.getfield 16, 3) := by decide +kernel
theorem dX4_colour_68 : decode cX4_colour 68 = .ok (.getfield 87, 3) := by decide +kernel
theorem dX4_colour_71 : decode cX4_colour 71 = .ok (.iload_n 1, 1) := by decide +kernel
theorem dX4_colour_72 : decode cX4_colour 72 = .ok (.iaload, 1) := by decide +kernel
theorem dX4_colour_73 : decode cX4_colour 73 = .ok (.ireturn, 1) := by decide +kernel
set_option maxRecDepth 20000 in
theorem ggX4_longestFloat_X4_weave : GoodIn wsX4_longestFloat wsX4_weave := goodIn_r _ [6, 1, 7, 8, 9, 10, 11, 5, 12, 13, 14, 15, 16, 17, 18, 19, 20, 21, 22, 23, 24, 41, 42, 43, 44, 45, 46, 47, 52, 53, 54, 48, 49, 50, 51] (by decide +kernel) (by decide +kernel)
set_option maxRecDepth 20000 in
theorem gX4_longestFloat_X4_weave : GoodIn wsX4_longestFloat (wsV RX4 113 RX4 yX4_weave wsX4_weave) := goodIn_app (goodIn_of _ (by decide +kernel)) ggX4_longestFloat_X4_weave
set_option maxRecDepth 20000 in
theorem ggX4_longestFloat_X0_countFloats : GoodIn wsX4_longestFloat wsX0_countFloats := goodIn_r _ [28, 29, 30, 31, 32, 33, 34, 35, 36, 37, 38, 26, 39, 40, 20, 5, 21, 48, 49, 50, 51] (by decide +kernel) (by decide +kernel)
set_option maxRecDepth 20000 in
theorem gX4_longestFloat_X0_countFloats_n116 : GoodIn wsX4_longestFloat (wsX0_countFloats) := ggX4_longestFloat_X0_countFloats
theorem dX4_longestFloat_0 : decode cX4_longestFloat 0 = .ok (.aload_n 0, 1) := by decide +kernel
theorem dX4_longestFloat_1 : decode cX4_longestFloat 1 = .ok (.invokevirtual 113, 3) := by decide +kernel
theorem dX4_longestFloat_4 : decode cX4_longestFloat 4 = .ok (.aload_n 0, 1) := by decide +kernel
theorem dX4_longestFloat_5 : decode cX4_longestFloat 5 = .ok (.getfield 37, 3) := by decide +kernel
theorem dX4_longestFloat_8 : decode cX4_longestFloat 8 = .ok (.iload_n 1, 1) := by decide +kernel
theorem dX4_longestFloat_9 : decode cX4_longestFloat 9 = .ok (.iload_n 2, 1) := by decide +kernel
theorem dX4_longestFloat_10 : decode cX4_longestFloat 10 = .ok (.invokevirtual 116, 3) := by decide +kernel
theorem dX4_longestFloat_13 : decode cX4_longestFloat 13 = .ok (.bipush 40, 2) := by decide +kernel
theorem dX4_longestFloat_15 : decode cX4_longestFloat 15 = .ok (.istore_n 3, 1) := by decide +kernel
theorem dX4_longestFloat_16 : decode cX4_longestFloat 16 = .ok (.iload_n 3, 1) := by decide +kernel
theorem dX4_longestFloat_17 : decode cX4_longestFloat 17 = .ok (.ifCond .le 21, 3) := by decide +kernel
theorem dX4_longestFloat_20 : decode cX4_longestFloat 20 = .ok (.aload_n 0, 1) := by decide +kernel
theorem dX4_longestFloat_21 : decode cX4_longestFloat 21 = .ok (.getfield 37, 3) := by decide +kernel
theorem dX4_longestFloat_24 : decode cX4_longestFloat 24 = .ok (.getfield 120, 3) := by decide +kernel
theorem dX4_longestFloat_27 : decode cX4_longestFloat 27 = .ok (.iload_n 3, 1) := by decide +kernel
theorem dX4_longestFloat_28 : decode cX4_longestFloat 28 = .ok (.iaload, 1) := by decide +kernel
theorem dX4_longestFloat_29 : decode cX4_longestFloat 29 = .ok (.ifCond .ne 9, 3) := by decide +kernel
theorem dX4_longestFloat_32 : decode cX4_longestFloat 32 = .ok (.iinc 3 (-1), 3) := by decide +kernel
theorem dX4_longestFloat_35 : decode cX4_longestFloat 35 = .ok (.goto (-19), 3) := by decide +kernel
theorem dX4_longestFloat_38 : decode cX4_longestFloat 38 = .ok (.iload_n 3, 1) := by decide +kernel
theorem dX4_longestFloat_39 : decode cX4_longestFloat 39 = .ok (.ireturn, 1) := by decide +kernel
set_option maxRecDepth 20000 in
theorem ggX4_floats_X4_weave : GoodIn wsX4_floats wsX4_weave := goodIn_r _ [8, 3, 9, 10, 11, 12, 13, 7, 14, 15, 16, 17, 18, 19, 20, 21, 22, 23, 24, 25, 26, 43, 44, 45, 46, 47, 48, 49, 54, 55, 56, 50, 51, 52, 53] (by decide +kernel) (by decide +kernel)
set_option maxRecDepth 20000 in
theorem gX4_floats_X4_weave : GoodIn wsX4_floats (wsV RX4 113 RX4 yX4_weave wsX4_weave) := goodIn_app (goodIn_of _ (by decide +kernel)) ggX4_floats_X4_weave
set_option maxRecDepth 20000 in
theorem ggX4_floats_X0_countFloats : GoodIn wsX4_floats wsX0_countFloats := goodIn_r _ [30, 31, 32, 33, 34, 35, 36, 37, 38, 39, 40, 28, 41, 42, 22, 7, 23, 50, 51, 52, 53] (by decide +kernel) (by decide +kernel)
set_option maxRecDepth 20000 in
theorem gX4_floats_X0_countFloats_n116 : GoodIn wsX4_floats (wsX0_countFloats) := ggX4_floats_X0_countFloats
theorem dX4_floats_0 : decode cX4_floats 0 = .ok (.iload_n 2, 1) := by decide +kernel
theorem dX4_floats_1 : decode cX4_floats 1 = .ok (.iconst 1, 1) := by decide +kernel
theorem dX4_floats_2 : decode cX4_floats 2 = .ok (.if_icmp .lt 9, 3) := by decide +kernel
theorem dX4_floats_5 : decode cX4_floats 5 = .ok (.iload_n 2, 1) := by decide +kernel
theorem dX4_floats_6 : decode cX4_floats 6 = .ok (.bipush 40, 2) := by decide +kernel
theorem dX4_floats_8 : decode cX4_floats 8 = .ok (.if_icmp .le 11, 3) := by decide +kernel
theorem dX4_floats_11 : decode cX4_floats 11 = .ok (.new 52, 3) := by decide +kernel
theorem dX4_floats_14 : decode cX4_floats 14 = .ok (.dup, 1) := by decide +kernel
theorem dX4_floats_15 : decode cX4_floats 15 = .ok (.invokespecial 54, 3) := by decide +kernel
theorem dX4_floats_18 : decode cX4_floats 18 = .ok (.athrow, 1) := by decide +kernel
theorem dX4_floats_19 : decode cX4_floats 19 = .ok (.aload_n 0, 1) := by decide +kernel
theorem dX4_floats_20 : decode cX4_floats 20 = .ok (.invokevirtual 113, 3) := by decide +kernel
theorem dX4_floats_23 : decode cX4_floats 23 = .ok (.aload_n 0, 1) := by decide +kernel
theorem dX4_floats_24 : decode cX4_floats 24 = .ok (.getfield 37, 3) := by decide +kernel
theorem dX4_floats_27 : decode cX4_floats 27 = .ok (.iload_n 1, 1) := by decide +kernel
theorem dX4_floats_28 : decode cX4_floats 28 = .ok (.iconst 1, 1) := by decide +kernel
theorem dX4_floats_29 : decode cX4_floats 29 = .ok (.invokevirtual 116, 3) := by decide +kernel
theorem dX4_floats_32 : decode cX4_floats 32 = .ok (.aload_n 0, 1) := by decide +kernel
theorem dX4_floats_33 : decode cX4_floats 33 = .ok (.getfield 37, 3) := by decide +kernel
theorem dX4_floats_36 : decode cX4_floats 36 = .ok (.getfield 120, 3) := by decide +kernel
theorem dX4_floats_39 : decode cX4_floats 39 = .ok (.iload_n 2, 1) := by decide +kernel
theorem dX4_floats_40 : decode cX4_floats 40 = .ok (.iaload, 1) := by decide +kernel
theorem dX4_floats_41 : decode cX4_floats 41 = .ok (.ireturn, 1) := by decide +kernel
set_option maxRecDepth 20000 in
theorem ggX4_warpShare_X4_weave : GoodIn wsX4_warpShare wsX4_weave := goodIn_r _ [8, 3, 1, 2, 9, 10, 11, 7, 12, 13, 14, 15, 16, 17, 18, 19, 20, 21, 22, 23, 24, 38, 39, 40, 41, 42, 43, 44, 45, 46, 47, 48, 49, 50, 51] (by decide +kernel) (by decide +kernel)
set_option maxRecDepth 20000 in
theorem gX4_warpShare_X4_weave : GoodIn wsX4_warpShare (wsV RX4 113 RX4 yX4_weave wsX4_weave) := goodIn_app (goodIn_of _ (by decide +kernel)) ggX4_warpShare_X4_weave
set_option maxRecDepth 20000 in
theorem ggX4_warpShare_X0_placesWithEndUp : GoodIn wsX4_warpShare wsX0_placesWithEndUp := goodIn_r _ [28, 29, 30, 31, 32, 33, 34, 35, 36, 37, 48, 49, 50, 51] (by decide +kernel) (by decide +kernel)
set_option maxRecDepth 20000 in
theorem gX4_warpShare_X0_placesWithEndUp_n123 : GoodIn wsX4_warpShare (wsX0_placesWithEndUp) := ggX4_warpShare_X0_placesWithEndUp
theorem dX4_warpShare_0 : decode cX4_warpShare 0 = .ok (.aload_n 0, 1) := by decide +kernel
theorem dX4_warpShare_1 : decode cX4_warpShare 1 = .ok (.getfield 10, 3) := by decide +kernel
theorem dX4_warpShare_4 : decode cX4_warpShare 4 = .ok (.getfield 76, 3) := by decide +kernel
theorem dX4_warpShare_7 : decode cX4_warpShare 7 = .ok (.aload_n 0, 1) := by decide +kernel
theorem dX4_warpShare_8 : decode cX4_warpShare 8 = .ok (.getfield 16, 3) := by decide +kernel
theorem dX4_warpShare_11 : decode cX4_warpShare 11 = .ok (.getfield 76, 3) := by decide +kernel
theorem dX4_warpShare_14 : decode cX4_warpShare 14 = .ok (.imul, 1) := by decide +kernel
theorem dX4_warpShare_15 : decode cX4_warpShare 15 = .ok (.istore_n 1, 1) := by decide +kernel
theorem dX4_warpShare_16 : decode cX4_warpShare 16 = .ok (.iload_n 1, 1) := by decide +kernel
theorem dX4_warpShare_17 : decode cX4_warpShare 17 = .ok (.ifCond .ne 5, 3) := by decide +kernel
theorem dX4_warpShare_20 : decode cX4_warpShare 20 = .ok (.dconst 0, 1) := by decide +kernel
theorem dX4_warpShare_21 : decode cX4_warpShare 21 = .ok (.dreturn, 1) := by decide +kernel
theorem dX4_warpShare_22 : decode cX4_warpShare 22 = .ok (.aload_n 0, 1) := by decide +kernel
theorem dX4_warpShare_23 : decode cX4_warpShare 23 = .ok (.invokevirtual 113, 3) := by decide +kernel
theorem dX4_warpShare_26 : decode cX4_warpShare 26 = .ok (.aload_n 0, 1) := by decide +kernel
theorem dX4_warpShare_27 : decode cX4_warpShare 27 = .ok (.getfield 37, 3) := by decide +kernel
theorem dX4_warpShare_30 : decode cX4_warpShare 30 = .ok (.invokevirtual 123, 3) := by decide +kernel
theorem dX4_warpShare_33 : decode cX4_warpShare 33 = .ok (.i2d, 1) := by decide +kernel
theorem dX4_warpShare_34 : decode cX4_warpShare 34 = .ok (.iload_n 1, 1) := by decide +kernel
theorem dX4_warpShare_35 : decode cX4_warpShare 35 = .ok (.i2d, 1) := by decide +kernel
theorem dX4_warpShare_36 : decode cX4_warpShare 36 = .ok (.ddiv, 1) := by decide +kernel
theorem dX4_warpShare_37 : decode cX4_warpShare 37 = .ok (.dreturn, 1) := by decide +kernel
set_option maxRecDepth 20000 in
theorem ggX4_period_X4_rowOf : GoodIn wsX4_period wsX4_rowOf := goodIn_r _ [5, 6, 7, 19, 20, 21, 22, 23, 24, 25] (by decide +kernel) (by decide +kernel)
set_option maxRecDepth 20000 in
theorem gX4_period_X4_rowOf : GoodIn wsX4_period (wsV RX4 72 RX4 yX4_rowOf wsX4_rowOf) := goodIn_app (goodIn_of _ (by decide +kernel)) ggX4_period_X4_rowOf
set_option maxRecDepth 20000 in
theorem ggX4_period_X3_leastPeriod : GoodIn wsX4_period wsX3_leastPeriod := goodIn_r _ [11, 12, 13, 14, 15, 9, 16, 17, 18, 26, 27, 28] (by decide +kernel) (by decide +kernel)
set_option maxRecDepth 20000 in
theorem gX4_period_X3_leastPeriod_n127 : GoodIn wsX4_period (wsX3_leastPeriod) := ggX4_period_X3_leastPeriod
theorem dX4_period_0 : decode cX4_period 0 = .ok (.aload_n 0, 1) := by decide +kernel
theorem dX4_period_1 : decode cX4_period 1 = .ok (.iload_n 1, 1) := by decide +kernel
theorem dX4_period_2 : decode cX4_period 2 = .ok (.invokevirtual 72, 3) := by decide +kernel
theorem dX4_period_5 : decode cX4_period 5 = .ok (.invokevirtual 127, 3) := by decide +kernel
theorem dX4_period_8 : decode cX4_period 8 = .ok (.ireturn, 1) := by decide +kernel
set_option maxRecDepth 20000 in
theorem ggX4_layers_X4_weave : GoodIn wsX4_layers wsX4_weave := goodIn_r _ [7, 2, 8, 9, 10, 11, 12, 6, 13, 14, 15, 16, 17, 18, 19, 20, 21, 22, 23, 24, 25, 64, 65, 66, 67, 68, 69, 70, 71, 72, 73, 74, 75, 76, 77] (by decide +kernel) (by decide +kernel)
set_option maxRecDepth 20000 in
theorem gX4_layers_X4_weave : GoodIn wsX4_layers (wsV RX4 113 RX4 yX4_weave wsX4_weave) := goodIn_app (goodIn_of _ (by decide +kernel)) ggX4_layers_X4_weave
set_option maxRecDepth 20000 in
theorem ggX4_layers_X2_follow : GoodIn wsX4_layers wsX2_follow := goodIn_r _ [29, 30, 31, 32, 33, 34, 35, 27, 36, 37, 38, 39, 40, 41, 42, 43, 44, 45, 46, 47, 21, 6, 22, 48, 49, 50, 51, 52, 24, 25, 53, 54, 55, 56, 78, 79, 80, 81, 74, 75, 76, 77] (by decide +kernel) (by decide +kernel)
set_option maxRecDepth 20000 in
theorem gX4_layers_X2_follow_n130 : GoodIn wsX4_layers (wsX2_follow) := ggX4_layers_X2_follow
set_option maxRecDepth 20000 in
theorem ggX4_layers_X2_groups : GoodIn wsX4_layers wsX2_groups := goodIn_r _ [59, 30, 60, 61, 62, 27, 63, 53, 54, 55, 56, 37, 31, 32, 21, 6, 22, 78, 79, 80, 81] (by decide +kernel) (by decide +kernel)
set_option maxRecDepth 20000 in
theorem gX4_layers_X2_groups_n134 : GoodIn wsX4_layers (wsX2_groups) := ggX4_layers_X2_groups
theorem dX4_layers_0 : decode cX4_layers 0 = .ok (.aload_n 0, 1) := by decide +kernel
theorem dX4_layers_1 : decode cX4_layers 1 = .ok (.invokevirtual 113, 3) := by decide +kernel
theorem dX4_layers_4 : decode cX4_layers 4 = .ok (.aload_n 0, 1) := by decide +kernel
theorem dX4_layers_5 : decode cX4_layers 5 = .ok (.getfield 44, 3) := by decide +kernel
theorem dX4_layers_8 : decode cX4_layers 8 = .ok (.aload_n 0, 1) := by decide +kernel
theorem dX4_layers_9 : decode cX4_layers 9 = .ok (.getfield 37, 3) := by decide +kernel
theorem dX4_layers_12 : decode cX4_layers 12 = .ok (.invokevirtual 130, 3) := by decide +kernel
theorem dX4_layers_15 : decode cX4_layers 15 = .ok (.aload_n 0, 1) := by decide +kernel
theorem dX4_layers_16 : decode cX4_layers 16 = .ok (.getfield 44, 3) := by decide +kernel
theorem dX4_layers_19 : decode cX4_layers 19 = .ok (.invokevirtual 134, 3) := by decide +kernel
theorem dX4_layers_22 : decode cX4_layers 22 = .ok (.ireturn, 1) := by decide +kernel
set_option maxRecDepth 20000 in
theorem ggX4_hangsTogether_X4_layers : GoodIn wsX4_hangsTogether wsX4_layers := goodIn_r _ [7, 8, 9, 10, 11, 12, 6, 13, 1, 2, 14, 15, 16, 17, 18, 19, 20, 21, 22, 23, 24, 25, 26, 27, 28, 29, 30, 31, 32, 33, 34, 35, 36, 37, 38, 39, 40, 41, 42, 43, 44, 45, 46, 47, 48, 49, 50, 51, 52, 53, 54, 55, 56, 57, 58, 59, 60, 61, 62, 63, 64, 65, 66, 67, 68, 69, 70, 71, 72, 73, 74, 75, 76, 77, 78, 79, 80, 81, 82, 83, 84, 85] (by decide +kernel) (by decide +kernel)
set_option maxRecDepth 20000 in
theorem gX4_hangsTogether_X4_layers : GoodIn wsX4_hangsTogether (wsV RX4 137 RX4 yX4_layers wsX4_layers) := goodIn_app (goodIn_of _ (by decide +kernel)) ggX4_hangsTogether_X4_layers
theorem dX4_hangsTogether_0 : decode cX4_hangsTogether 0 = .ok (.aload_n 0, 1) := by decide +kernel
theorem dX4_hangsTogether_1 : decode cX4_hangsTogether 1 = .ok (.getfield 10, 3) := by decide +kernel
theorem dX4_hangsTogether_4 : decode cX4_hangsTogether 4 = .ok (.getfield 76, 3) := by decide +kernel
theorem dX4_hangsTogether_7 : decode cX4_hangsTogether 7 = .ok (.ifCond .le 25, 3) := by decide +kernel
theorem dX4_hangsTogether_10 : decode cX4_hangsTogether 10 = .ok (.aload_n 0, 1) := by decide +kernel
theorem dX4_hangsTogether_11 : decode cX4_hangsTogether 11 = .ok (.getfield 16, 3) := by decide +kernel
theorem dX4_hangsTogether_14 : decode cX4_hangsTogether 14 = .ok (.getfield 76, 3) := by decide +kernel
theorem dX4_hangsTogether_17 : decode cX4_hangsTogether 17 = .ok (.ifCond .le 15, 3) := by decide +kernel
theorem dX4_hangsTogether_20 : decode cX4_hangsTogether 20 = .ok (.aload_n 0, 1) := by decide +kernel
theorem dX4_hangsTogether_21 : decode cX4_hangsTogether 21 = .ok (.invokevirtual 137, 3) := by decide +kernel
theorem dX4_hangsTogether_24 : decode cX4_hangsTogether 24 = .ok (.iconst 1, 1) := by decide +kernel
theorem dX4_hangsTogether_25 : decode cX4_hangsTogether 25 = .ok (.if_icmp .ne 7, 3) := by decide +kernel
theorem dX4_hangsTogether_28 : decode cX4_hangsTogether 28 = .ok (.iconst 1, 1) := by decide +kernel
theorem dX4_hangsTogether_29 : decode cX4_hangsTogether 29 = .ok (.goto 4, 3) := by decide +kernel
theorem dX4_hangsTogether_32 : decode cX4_hangsTogether 32 = .ok (.iconst 0, 1) := by decide +kernel
theorem dX4_hangsTogether_33 : decode cX4_hangsTogether 33 = .ok (.ireturn, 1) := by decide +kernel
set_option maxRecDepth 20000 in
theorem ggX4_colourAt_X4_colourAppearingAs : GoodIn wsX4_colourAt wsX4_colourAppearingAs := goodIn_r _ [7, 8, 9, 10, 11, 6, 12, 13, 14, 15, 16, 17, 18, 19, 20, 21, 22, 23, 24, 25, 26, 27, 28, 29] (by decide +kernel) (by decide +kernel)
set_option maxRecDepth 20000 in
theorem gX4_colourAt_X4_colourAppearingAs : GoodIn wsX4_colourAt (wsV RX4 140 RX4 yX4_colourAppearingAs wsX4_colourAppearingAs) := goodIn_app (goodIn_of _ (by decide +kernel)) ggX4_colourAt_X4_colourAppearingAs
theorem dX4_colourAt_0 : decode cX4_colourAt 0 = .ok (.aload_n 0, 1) := by decide +kernel
theorem dX4_colourAt_1 : decode cX4_colourAt 1 = .ok (.iload_n 1, 1) := by decide +kernel
theorem dX4_colourAt_2 : decode cX4_colourAt 2 = .ok (.invokevirtual 140, 3) := by decide +kernel
theorem dX4_colourAt_5 : decode cX4_colourAt 5 = .ok (.istore_n 2, 1) := by decide +kernel
theorem dX4_colourAt_6 : decode cX4_colourAt 6 = .ok (.iload_n 2, 1) := by decide +kernel
theorem dX4_colourAt_7 : decode cX4_colourAt 7 = .ok (.ifCond .ge 11, 3) := by decide +kernel
theorem dX4_colourAt_10 : decode cX4_colourAt 10 = .ok (.new 69, 3) := by decide +kernel
theorem dX4_colourAt_13 : decode cX4_colourAt 13 = .ok (.dup, 1) := by decide +kernel
theorem dX4_colourAt_14 : decode cX4_colourAt 14 = .ok (.invokespecial 71, 3) := by decide +kernel
theorem dX4_colourAt_17 : decode cX4_colourAt 17 = .ok (.athrow, 1) := by decide +kernel
theorem dX4_colourAt_18 : decode cX4_colourAt 18 = .ok (.iload_n 2, 1) := by decide +kernel
theorem dX4_colourAt_19 : decode cX4_colourAt 19 = .ok (.ireturn, 1) := by decide +kernel
set_option maxRecDepth 20000 in
theorem ggX4_threadsOf_X4_isBelow : GoodIn wsX4_threadsOf wsX4_isBelow := goodIn_r _ [8] (by decide +kernel) (by decide +kernel)
set_option maxRecDepth 20000 in
theorem gX4_threadsOf_X4_isBelow : GoodIn wsX4_threadsOf (va_wsS RX4 48 yX4_isBelow wsX4_isBelow) := goodIn_app (goodIn_of _ (by decide +kernel)) ggX4_threadsOf_X4_isBelow
set_option maxRecDepth 20000 in
theorem ggX4_threadsOf_X3_threadsColoured : GoodIn wsX4_threadsOf wsX3_threadsColoured := goodIn_r _ [12, 13, 14, 22, 23, 24] (by decide +kernel) (by decide +kernel)
set_option maxRecDepth 20000 in
theorem gX4_threadsOf_X3_threadsColoured_n143 : GoodIn wsX4_threadsOf (wsX3_threadsColoured) := ggX4_threadsOf_X3_threadsColoured
theorem dX4_threadsOf_0 : decode cX4_threadsOf 0 = .ok (.iload_n 1, 1) := by decide +kernel
theorem dX4_threadsOf_1 : decode cX4_threadsOf 1 = .ok (.bipush 8, 2) := by decide +kernel
theorem dX4_threadsOf_3 : decode cX4_threadsOf 3 = .ok (.invokestatic 48, 3) := by decide +kernel
theorem dX4_threadsOf_6 : decode cX4_threadsOf 6 = .ok (.ifCond .ne 11, 3) := by decide +kernel
theorem dX4_threadsOf_9 : decode cX4_threadsOf 9 = .ok (.new 69, 3) := by decide +kernel
theorem dX4_threadsOf_12 : decode cX4_threadsOf 12 = .ok (.dup, 1) := by decide +kernel
theorem dX4_threadsOf_13 : decode cX4_threadsOf 13 = .ok (.invokespecial 71, 3) := by decide +kernel
theorem dX4_threadsOf_16 : decode cX4_threadsOf 16 = .ok (.athrow, 1) := by decide +kernel
theorem dX4_threadsOf_17 : decode cX4_threadsOf 17 = .ok (.aload_n 0, 1) := by decide +kernel
theorem dX4_threadsOf_18 : decode cX4_threadsOf 18 = .ok (.getfield 10, 3) := by decide +kernel
theorem dX4_threadsOf_21 : decode cX4_threadsOf 21 = .ok (.iload_n 1, 1) := by decide +kernel
theorem dX4_threadsOf_22 : decode cX4_threadsOf 22 = .ok (.invokevirtual 143, 3) := by decide +kernel
theorem dX4_threadsOf_25 : decode cX4_threadsOf 25 = .ok (.aload_n 0, 1) := by decide +kernel
theorem dX4_threadsOf_26 : decode cX4_threadsOf 26 = .ok (.getfield 16, 3) := by decide +kernel
theorem dX4_threadsOf_29 : decode cX4_threadsOf 29 = .ok (.iload_n 1, 1) := by decide +kernel
theorem dX4_threadsOf_30 : decode cX4_threadsOf 30 = .ok (.invokevirtual 143, 3) := by decide +kernel
theorem dX4_threadsOf_33 : decode cX4_threadsOf 33 = .ok (.iadd, 1) := by decide +kernel
theorem dX4_threadsOf_34 : decode cX4_threadsOf 34 = .ok (.ireturn, 1) := by decide +kernel
theorem dX4_draw_0 : decode cX4_draw 0 = .ok (.iload_n 1, 1) := by decide +kernel
theorem dX4_draw_1 : decode cX4_draw 1 = .ok (.iconst 1, 1) := by decide +kernel
theorem dX4_draw_2 : decode cX4_draw 2 = .ok (.if_icmp .lt 9, 3) := by decide +kernel
theorem dX4_draw_5 : decode cX4_draw 5 = .ok (.iload_n 1, 1) := by decide +kernel
theorem dX4_draw_6 : decode cX4_draw 6 = .ok (.bipush 40, 2) := by decide +kernel
theorem dX4_draw_8 : decode cX4_draw 8 = .ok (.if_icmp .le 11, 3) := by decide +kernel
theorem dX4_draw_11 : decode cX4_draw 11 = .ok (.new 52, 3) := by decide +kernel
theorem dX4_draw_14 : decode cX4_draw 14 = .ok (.dup, 1) := by decide +kernel
theorem dX4_draw_15 : decode cX4_draw 15 = .ok (.invokespecial 54, 3) := by decide +kernel
theorem dX4_draw_18 : decode cX4_draw 18 = .ok (.athrow, 1) := by decide +kernel
theorem dX4_draw_19 : decode cX4_draw 19 = .ok (.aload_n 0, 1) := by decide +kernel
theorem dX4_draw_20 : decode cX4_draw 20 = .ok (.getfield 30, 3) := by decide +kernel
theorem dX4_draw_23 : decode cX4_draw 23 = .ok (.getfield 146, 3) := by decide +kernel
theorem dX4_draw_26 : decode cX4_draw 26 = .ok (.istore_n 2, 1) := by decide +kernel
theorem dX4_draw_27 : decode cX4_draw 27 = .ok (.aload_n 0, 1) := by decide +kernel
theorem dX4_draw_28 : decode cX4_draw 28 = .ok (.getfield 30, 3) := by decide +kernel
theorem dX4_draw_31 : decode cX4_draw 31 = .ok (.iload_n 1, 1) := by decide +kernel
theorem dX4_draw_32 : decode cX4_draw 32 = .ok (.putfield 147, 3) := by decide +kernel
theorem dX4_draw_35 : decode cX4_draw 35 = .ok (.aload_n 0, 1) := by decide +kernel
theorem dX4_draw_36 : decode cX4_draw 36 = .ok (.getfield 30, 3) := by decide +kernel
theorem dX4_draw_39 : decode cX4_draw 39 = .ok (.iconst 0, 1) := by decide +kernel
theorem dX4_draw_40 : decode cX4_draw 40 = .ok (.putfield 146, 3) := by decide +kernel
theorem dX4_draw_43 : decode cX4_draw 43 = .ok (.iload_n 2, 1) := by decide +kernel
theorem dX4_draw_44 : decode cX4_draw 44 = .ok (.ireturn, 1) := by decide +kernel
set_option maxRecDepth 20000 in
theorem ggX4_row_X4_allOf : GoodIn wsX4_row wsX4_allOf := goodIn_r _ [10] (by decide +kernel) (by decide +kernel)
set_option maxRecDepth 20000 in
theorem gX4_row_X4_allOf : GoodIn wsX4_row (va_wsS RX4 150 yX4_allOf wsX4_allOf) := goodIn_app (goodIn_of _ (by decide +kernel)) ggX4_row_X4_allOf
theorem dX4_row_0 : decode cX4_row 0 = .ok (.aload_n 0, 1) := by decide +kernel
theorem dX4_row_1 : decode cX4_row 1 = .ok (.getfield 30, 3) := by decide +kernel
theorem dX4_row_4 : decode cX4_row 4 = .ok (.getfield 147, 3) := by decide +kernel
theorem dX4_row_7 : decode cX4_row 7 = .ok (.ifCond .eq 15, 3) := by decide +kernel
theorem dX4_row_10 : decode cX4_row 10 = .ok (.aload_n 0, 1) := by decide +kernel
theorem dX4_row_11 : decode cX4_row 11 = .ok (.getfield 30, 3) := by decide +kernel
theorem dX4_row_14 : decode cX4_row 14 = .ok (.getfield 146, 3) := by decide +kernel
theorem dX4_row_17 : decode cX4_row 17 = .ok (.bipush 40, 2) := by decide +kernel
theorem dX4_row_19 : decode cX4_row 19 = .ok (.if_icmp .ne 11, 3) := by decide +kernel
theorem dX4_row_22 : decode cX4_row 22 = .ok (.new 59, 3) := by decide +kernel
theorem dX4_row_25 : decode cX4_row 25 = .ok (.dup, 1) := by decide +kernel
theorem dX4_row_26 : decode cX4_row 26 = .ok (.invokespecial 61, 3) := by decide +kernel
theorem dX4_row_29 : decode cX4_row 29 = .ok (.athrow, 1) := by decide +kernel
theorem dX4_row_30 : decode cX4_row 30 = .ok (.lload_n 1, 1) := by decide +kernel
theorem dX4_row_31 : decode cX4_row 31 = .ok (.aload_n 0, 1) := by decide +kernel
theorem dX4_row_32 : decode cX4_row 32 = .ok (.getfield 30, 3) := by decide +kernel
theorem dX4_row_35 : decode cX4_row 35 = .ok (.getfield 147, 3) := by decide +kernel
theorem dX4_row_38 : decode cX4_row 38 = .ok (.invokestatic 150, 3) := by decide +kernel
theorem dX4_row_41 : decode cX4_row 41 = .ok (.ldc2_w 153, 3) := by decide +kernel
theorem dX4_row_44 : decode cX4_row 44 = .ok (.lxor, 1) := by decide +kernel
theorem dX4_row_45 : decode cX4_row 45 = .ok (.land, 1) := by decide +kernel
theorem dX4_row_46 : decode cX4_row 46 = .ok (.lconst 0, 1) := by decide +kernel
theorem dX4_row_47 : decode cX4_row 47 = .ok (.lcmp, 1) := by decide +kernel
theorem dX4_row_48 : decode cX4_row 48 = .ok (.ifCond .eq 11, 3) := by decide +kernel
theorem dX4_row_51 : decode cX4_row 51 = .ok (.new 52, 3) := by decide +kernel
theorem dX4_row_54 : decode cX4_row 54 = .ok (.dup, 1) := by decide +kernel
theorem dX4_row_55 : decode cX4_row 55 = .ok (.invokespecial 54, 3) := by decide +kernel
theorem dX4_row_58 : decode cX4_row 58 = .ok (.athrow, 1) := by decide +kernel
theorem dX4_row_59 : decode cX4_row 59 = .ok (.aload_n 0, 1) := by decide +kernel
theorem dX4_row_60 : decode cX4_row 60 = .ok (.getfield 30, 3) := by decide +kernel
theorem dX4_row_63 : decode cX4_row 63 = .ok (.getfield 155, 3) := by decide +kernel
theorem dX4_row_66 : decode cX4_row 66 = .ok (.aload_n 0, 1) := by decide +kernel
theorem dX4_row_67 : decode cX4_row 67 = .ok (.getfield 30, 3) := by decide +kernel
theorem dX4_row_70 : decode cX4_row 70 = .ok (.getfield 146, 3) := by decide +kernel
theorem dX4_row_73 : decode cX4_row 73 = .ok (.lload_n 1, 1) := by decide +kernel
theorem dX4_row_74 : decode cX4_row 74 = .ok (.lastore, 1) := by decide +kernel
theorem dX4_row_75 : decode cX4_row 75 = .ok (.aload_n 0, 1) := by decide +kernel
theorem dX4_row_76 : decode cX4_row 76 = .ok (.getfield 30, 3) := by decide +kernel
theorem dX4_row_79 : decode cX4_row 79 = .ok (.dup, 1) := by decide +kernel
theorem dX4_row_80 : decode cX4_row 80 = .ok (.getfield 146, 3) := by decide +kernel
theorem dX4_row_83 : decode cX4_row 83 = .ok (.iconst 1, 1) := by decide +kernel
theorem dX4_row_84 : decode cX4_row 84 = .ok (.iadd, 1) := by decide +kernel
theorem dX4_row_85 : decode cX4_row 85 = .ok (.putfield 146, 3) := by decide +kernel
theorem dX4_row_88 : decode cX4_row 88 = .ok (.aload_n 0, 1) := by decide +kernel
theorem dX4_row_89 : decode cX4_row 89 = .ok (.getfield 30, 3) := by decide +kernel
theorem dX4_row_92 : decode cX4_row 92 = .ok (.getfield 146, 3) := by decide +kernel
theorem dX4_row_95 : decode cX4_row 95 = .ok (.ireturn, 1) := by decide +kernel
set_option maxRecDepth 20000 in
theorem ggX4_fit_X1_numberColumns : GoodIn wsX4_fit wsX1_numberColumns := goodIn_r _ [7, 8, 9, 10, 11, 12, 13, 5, 14, 15, 16, 17, 18, 19, 20, 21, 22, 23, 24, 25, 61, 62, 63, 64, 65, 66] (by decide +kernel) (by decide +kernel)
set_option maxRecDepth 20000 in
theorem gX4_fit_X1_numberColumns_n159 : GoodIn wsX4_fit (wsX1_numberColumns) := ggX4_fit_X1_numberColumns
set_option maxRecDepth 20000 in
theorem ggX4_fit_X1_numberRows : GoodIn wsX4_fit wsX1_numberRows := goodIn_r _ [28, 16, 15, 29, 20, 21, 5, 22, 23, 24, 25, 61, 62, 63, 64, 65, 66] (by decide +kernel) (by decide +kernel)
set_option maxRecDepth 20000 in
theorem gX4_fit_X1_numberRows_n162 : GoodIn wsX4_fit (wsX1_numberRows) := ggX4_fit_X1_numberRows
set_option maxRecDepth 20000 in
theorem ggX4_fit_X4_tieAsNumbered : GoodIn wsX4_fit wsX4_tieAsNumbered := goodIn_r _ [33, 34, 3, 35, 36, 37, 38, 39, 40, 17, 18, 19, 54, 55, 56, 57, 58, 59, 60, 61, 62, 63, 64, 65, 66] (by decide +kernel) (by decide +kernel)
set_option maxRecDepth 20000 in
theorem gX4_fit_X4_tieAsNumbered : GoodIn wsX4_fit (wsV RX4 165 RX4 yX4_tieAsNumbered wsX4_tieAsNumbered) := goodIn_app (goodIn_of _ (by decide +kernel)) ggX4_fit_X4_tieAsNumbered
set_option maxRecDepth 20000 in
theorem ggX4_fit_X4_threadAsNumbered : GoodIn wsX4_fit wsX4_threadAsNumbered := goodIn_r _ [44, 45, 3, 46, 47, 48, 49, 50, 51, 52, 53, 54, 55, 56, 57, 58, 59, 60, 67, 68, 69, 61, 62, 63, 64, 65, 66] (by decide +kernel) (by decide +kernel)
set_option maxRecDepth 20000 in
theorem gX4_fit_X4_threadAsNumbered : GoodIn wsX4_fit (wsV RX4 168 RX4 yX4_threadAsNumbered wsX4_threadAsNumbered) := goodIn_app (goodIn_of _ (by decide +kernel)) ggX4_fit_X4_threadAsNumbered
theorem dX4_fit_0 : decode cX4_fit 0 = .ok (.aload_n 0, 1) := by decide +kernel
theorem dX4_fit_1 : decode cX4_fit 1 = .ok (.getfield 30, 3) := by decide +kernel
theorem dX4_fit_4 : decode cX4_fit 4 = .ok (.getfield 146, 3) := by decide +kernel
theorem dX4_fit_7 : decode cX4_fit 7 = .ok (.ifCond .ne 11, 3) := by decide +kernel
theorem dX4_fit_10 : decode cX4_fit 10 = .ok (.new 59, 3) := by decide +kernel
theorem dX4_fit_13 : decode cX4_fit 13 = .ok (.dup, 1) := by decide +kernel
theorem dX4_fit_14 : decode cX4_fit 14 = .ok (.invokespecial 61, 3) := by decide +kernel
theorem dX4_fit_17 : decode cX4_fit 17 = .ok (.athrow, 1) := by decide +kernel
theorem dX4_fit_18 : decode cX4_fit 18 = .ok (.aload_n 0, 1) := by decide +kernel
theorem dX4_fit_19 : decode cX4_fit 19 = .ok (.getfield 30, 3) := by decide +kernel
theorem dX4_fit_22 : decode cX4_fit 22 = .ok (.invokevirtual 159, 3) := by decide +kernel
theorem dX4_fit_25 : decode cX4_fit 25 = .ok (.istore_n 1, 1) := by decide +kernel
theorem dX4_fit_26 : decode cX4_fit 26 = .ok (.aload_n 0, 1) := by decide +kernel
theorem dX4_fit_27 : decode cX4_fit 27 = .ok (.getfield 30, 3) := by decide +kernel
theorem dX4_fit_30 : decode cX4_fit 30 = .ok (.invokevirtual 162, 3) := by decide +kernel
theorem dX4_fit_33 : decode cX4_fit 33 = .ok (.istore_n 2, 1) := by decide +kernel
theorem dX4_fit_34 : decode cX4_fit 34 = .ok (.iload_n 1, 1) := by decide +kernel
theorem dX4_fit_35 : decode cX4_fit 35 = .ok (.bipush 8, 2) := by decide +kernel
theorem dX4_fit_37 : decode cX4_fit 37 = .ok (.if_icmp .gt 9, 3) := by decide +kernel
theorem dX4_fit_40 : decode cX4_fit 40 = .ok (.iload_n 2, 1) := by decide +kernel
theorem dX4_fit_41 : decode cX4_fit 41 = .ok (.bipush 10, 2) := by decide +kernel
theorem dX4_fit_43 : decode cX4_fit 43 = .ok (.if_icmp .le 11, 3) := by decide +kernel
theorem dX4_fit_46 : decode cX4_fit 46 = .ok (.new 59, 3) := by decide +kernel
theorem dX4_fit_49 : decode cX4_fit 49 = .ok (.dup, 1) := by decide +kernel
theorem dX4_fit_50 : decode cX4_fit 50 = .ok (.invokespecial 61, 3) := by decide +kernel
theorem dX4_fit_53 : decode cX4_fit 53 = .ok (.athrow, 1) := by decide +kernel
theorem dX4_fit_54 : decode cX4_fit 54 = .ok (.aload_n 0, 1) := by decide +kernel
theorem dX4_fit_55 : decode cX4_fit 55 = .ok (.invokevirtual 165, 3) := by decide +kernel
theorem dX4_fit_58 : decode cX4_fit 58 = .ok (.aload_n 0, 1) := by decide +kernel
theorem dX4_fit_59 : decode cX4_fit 59 = .ok (.invokevirtual 168, 3) := by decide +kernel
theorem dX4_fit_62 : decode cX4_fit 62 = .ok (.iload_n 1, 1) := by decide +kernel
theorem dX4_fit_63 : decode cX4_fit 63 = .ok (.ireturn, 1) := by decide +kernel
set_option maxRecDepth 20000 in
theorem ggX4_differences_X4_weave : GoodIn wsX4_differences wsX4_weave := goodIn_r _ [9, 4, 1, 3, 10, 11, 12, 8, 13, 14, 15, 16, 17, 18, 19, 20, 21, 22, 23, 24, 25, 33, 34, 35, 36, 37, 38, 39, 40, 41, 42, 49, 50, 51, 52] (by decide +kernel) (by decide +kernel)
set_option maxRecDepth 20000 in
theorem gX4_differences_X4_weave : GoodIn wsX4_differences (wsV RX4 113 RX4 yX4_weave wsX4_weave) := goodIn_app (goodIn_of _ (by decide +kernel)) ggX4_differences_X4_weave
set_option maxRecDepth 20000 in
theorem ggX4_differences_J13_bitCount_95d88 : GoodIn wsX4_differences wsJ13_bitCount_95d88 := goodIn_r _ [29, 30, 31, 32] (by decide +kernel) (by decide +kernel)
set_option maxRecDepth 20000 in
theorem gX4_differences_J13_bitCount_95d88 : GoodIn wsX4_differences (va_wsS RX4 174 yJ13_bitCount_95d88 wsJ13_bitCount_95d88) := goodIn_app (goodIn_of _ (by decide +kernel)) ggX4_differences_J13_bitCount_95d88
theorem dX4_differences_0 : decode cX4_differences 0 = .ok (.aload_n 0, 1) := by decide +kernel
theorem dX4_differences_1 : decode cX4_differences 1 = .ok (.getfield 10, 3) := by decide +kernel
theorem dX4_differences_4 : decode cX4_differences 4 = .ok (.getfield 76, 3) := by decide +kernel
theorem dX4_differences_7 : decode cX4_differences 7 = .ok (.aload_n 0, 1) := by decide +kernel
theorem dX4_differences_8 : decode cX4_differences 8 = .ok (.getfield 30, 3) := by decide +kernel
theorem dX4_differences_11 : decode cX4_differences 11 = .ok (.getfield 147, 3) := by decide +kernel
theorem dX4_differences_14 : decode cX4_differences 14 = .ok (.if_icmp .ne 20, 3) := by decide +kernel
theorem dX4_differences_17 : decode cX4_differences 17 = .ok (.aload_n 0, 1) := by decide +kernel
theorem dX4_differences_18 : decode cX4_differences 18 = .ok (.getfield 16, 3) := by decide +kernel
theorem dX4_differences_21 : decode cX4_differences 21 = .ok (.getfield 76, 3) := by decide +kernel
theorem dX4_differences_24 : decode cX4_differences 24 = .ok (.aload_n 0, 1) := by decide +kernel
theorem dX4_differences_25 : decode cX4_differences 25 = .ok (.getfield 30, 3) := by decide +kernel
theorem dX4_differences_28 : decode cX4_differences 28 = .ok (.getfield 146, 3) := by decide +kernel
theorem dX4_differences_31 : decode cX4_differences 31 = .ok (.if_icmp .eq 5, 3) := by decide +kernel
theorem dX4_differences_34 : decode cX4_differences 34 = .ok (.iconst (-1), 1) := by decide +kernel
theorem dX4_differences_35 : decode cX4_differences 35 = .ok (.ireturn, 1) := by decide +kernel
theorem dX4_differences_36 : decode cX4_differences 36 = .ok (.aload_n 0, 1) := by decide +kernel
theorem dX4_differences_37 : decode cX4_differences 37 = .ok (.invokevirtual 113, 3) := by decide +kernel
theorem dX4_differences_40 : decode cX4_differences 40 = .ok (.iconst 0, 1) := by decide +kernel
theorem dX4_differences_41 : decode cX4_differences 41 = .ok (.istore_n 1, 1) := by decide +kernel
theorem dX4_differences_42 : decode cX4_differences 42 = .ok (.iconst 0, 1) := by decide +kernel
theorem dX4_differences_43 : decode cX4_differences 43 = .ok (.istore_n 2, 1) := by decide +kernel
theorem dX4_differences_44 : decode cX4_differences 44 = .ok (.iload_n 2, 1) := by decide +kernel
theorem dX4_differences_45 : decode cX4_differences 45 = .ok (.aload_n 0, 1) := by decide +kernel
theorem dX4_differences_46 : decode cX4_differences 46 = .ok (.getfield 30, 3) := by decide +kernel
theorem dX4_differences_49 : decode cX4_differences 49 = .ok (.getfield 146, 3) := by decide +kernel
theorem dX4_differences_52 : decode cX4_differences 52 = .ok (.if_icmp .ge 34, 3) := by decide +kernel
theorem dX4_differences_55 : decode cX4_differences 55 = .ok (.iload_n 1, 1) := by decide +kernel
theorem dX4_differences_56 : decode cX4_differences 56 = .ok (.aload_n 0, 1) := by decide +kernel
theorem dX4_differences_57 : decode cX4_differences 57 = .ok (.getfield 37, 3) := by decide +kernel
theorem dX4_differences_60 : decode cX4_differences 60 = .ok (.getfield 171, 3) := by decide +kernel
theorem dX4_differences_63 : decode cX4_differences 63 = .ok (.iload_n 2, 1) := by decide +kernel
theorem dX4_differences_64 : decode cX4_differences 64 = .ok (.laload, 1) := by decide +kernel
theorem dX4_differences_65 : decode cX4_differences 65 = .ok (.aload_n 0, 1) := by decide +kernel
theorem dX4_differences_66 : decode cX4_differences 66 = .ok (.getfield 30, 3) := by decide +kernel
theorem dX4_differences_69 : decode cX4_differences 69 = .ok (.getfield 155, 3) := by decide +kernel
theorem dX4_differences_72 : decode cX4_differences 72 = .ok (.iload_n 2, 1) := by decide +kernel
theorem dX4_differences_73 : decode cX4_differences 73 = .ok (.laload, 1) := by decide +kernel
theorem dX4_differences_74 : decode cX4_differences 74 = .ok (.lxor, 1) := by decide +kernel
theorem dX4_differences_75 : decode cX4_differences 75 = .ok (.invokestatic 174, 3) := by decide +kernel
theorem dX4_differences_78 : decode cX4_differences 78 = .ok (.iadd, 1) := by decide +kernel
theorem dX4_differences_79 : decode cX4_differences 79 = .ok (.istore_n 1, 1) := by decide +kernel
theorem dX4_differences_80 : decode cX4_differences 80 = .ok (.iinc 2 1, 3) := by decide +kernel
theorem dX4_differences_83 : decode cX4_differences 83 = .ok (.goto (-39), 3) := by decide +kernel
theorem dX4_differences_86 : decode cX4_differences 86 = .ok (.iload_n 1, 1) := by decide +kernel
theorem dX4_differences_87 : decode cX4_differences 87 = .ok (.ireturn, 1) := by decide +kernel
set_option maxRecDepth 20000 in
theorem ggX4_digest_X4_digestWith : GoodIn wsX4_digest wsX4_digestWith := goodIn_r _ [10, 11] (by decide +kernel) (by decide +kernel)
set_option maxRecDepth 20000 in
theorem gX4_digest_X4_digestWith : GoodIn wsX4_digest (va_wsS RX4 182 yX4_digestWith wsX4_digestWith) := goodIn_app (goodIn_of _ (by decide +kernel)) ggX4_digest_X4_digestWith
set_option maxRecDepth 20000 in
theorem ggX4_digest_X3_digestFrom : GoodIn wsX4_digest wsX3_digestFrom := goodIn_r _ [15, 16, 17, 18, 8, 9, 10, 11, 33, 34, 35] (by decide +kernel) (by decide +kernel)
set_option maxRecDepth 20000 in
theorem gX4_digest_X3_digestFrom_n186 : GoodIn wsX4_digest (wsX3_digestFrom) := ggX4_digest_X3_digestFrom
set_option maxRecDepth 20000 in
theorem ggX4_digest_X1_digestFrom : GoodIn wsX4_digest wsX1_digestFrom := goodIn_r _ [22, 23, 24, 25, 8, 9, 10, 11, 36, 37, 38, 39, 40, 41] (by decide +kernel) (by decide +kernel)
set_option maxRecDepth 20000 in
theorem gX4_digest_X1_digestFrom_n190 : GoodIn wsX4_digest (wsX1_digestFrom) := ggX4_digest_X1_digestFrom
theorem dX4_digest_0 : decode cX4_digest 0 = .ok (.ldc2_w 180, 3) := by decide +kernel
theorem dX4_digest_3 : decode cX4_digest 3 = .ok (.aload_n 0, 1) := by decide +kernel
theorem dX4_digest_4 : decode cX4_digest 4 = .ok (.getfield 23, 3) := by decide +kernel
theorem dX4_digest_7 : decode cX4_digest 7 = .ok (.ifCond .eq 7, 3) := by decide +kernel
theorem dX4_digest_10 : decode cX4_digest 10 = .ok (.lconst 1, 1) := by decide +kernel
theorem dX4_digest_11 : decode cX4_digest 11 = .ok (.goto 4, 3) := by decide +kernel
theorem dX4_digest_14 : decode cX4_digest 14 = .ok (.lconst 0, 1) := by decide +kernel
theorem dX4_digest_15 : decode cX4_digest 15 = .ok (.invokestatic 182, 3) := by decide +kernel
theorem dX4_digest_18 : decode cX4_digest 18 = .ok (.lstore_n 1, 1) := by decide +kernel
theorem dX4_digest_19 : decode cX4_digest 19 = .ok (.iconst 0, 1) := by decide +kernel
theorem dX4_digest_20 : decode cX4_digest 20 = .ok (.istore_n 3, 1) := by decide +kernel
theorem dX4_digest_21 : decode cX4_digest 21 = .ok (.iload_n 3, 1) := by decide +kernel
theorem dX4_digest_22 : decode cX4_digest 22 = .ok (.bipush 10, 2) := by decide +kernel
theorem dX4_digest_24 : decode cX4_digest 24 = .ok (.if_icmp .ge 21, 3) := by decide +kernel
theorem dX4_digest_27 : decode cX4_digest 27 = .ok (.lload_n 1, 1) := by decide +kernel
theorem dX4_digest_28 : decode cX4_digest 28 = .ok (.aload_n 0, 1) := by decide +kernel
theorem dX4_digest_29 : decode cX4_digest 29 = .ok (.getfield 19, 3) := by decide +kernel
theorem dX4_digest_32 : decode cX4_digest 32 = .ok (.iload_n 3, 1) := by decide +kernel
theorem dX4_digest_33 : decode cX4_digest 33 = .ok (.iaload, 1) := by decide +kernel
theorem dX4_digest_34 : decode cX4_digest 34 = .ok (.i2l, 1) := by decide +kernel
theorem dX4_digest_35 : decode cX4_digest 35 = .ok (.invokestatic 182, 3) := by decide +kernel
theorem dX4_digest_38 : decode cX4_digest 38 = .ok (.lstore_n 1, 1) := by decide +kernel
theorem dX4_digest_39 : decode cX4_digest 39 = .ok (.iinc 3 1, 3) := by decide +kernel
theorem dX4_digest_42 : decode cX4_digest 42 = .ok (.goto (-21), 3) := by decide +kernel
theorem dX4_digest_45 : decode cX4_digest 45 = .ok (.aload_n 0, 1) := by decide +kernel
theorem dX4_digest_46 : decode cX4_digest 46 = .ok (.getfield 10, 3) := by decide +kernel
theorem dX4_digest_49 : decode cX4_digest 49 = .ok (.lload_n 1, 1) := by decide +kernel
theorem dX4_digest_50 : decode cX4_digest 50 = .ok (.invokevirtual 186, 3) := by decide +kernel
theorem dX4_digest_53 : decode cX4_digest 53 = .ok (.lstore_n 1, 1) := by decide +kernel
theorem dX4_digest_54 : decode cX4_digest 54 = .ok (.aload_n 0, 1) := by decide +kernel
theorem dX4_digest_55 : decode cX4_digest 55 = .ok (.getfield 16, 3) := by decide +kernel
theorem dX4_digest_58 : decode cX4_digest 58 = .ok (.lload_n 1, 1) := by decide +kernel
theorem dX4_digest_59 : decode cX4_digest 59 = .ok (.invokevirtual 186, 3) := by decide +kernel
theorem dX4_digest_62 : decode cX4_digest 62 = .ok (.lstore_n 1, 1) := by decide +kernel
theorem dX4_digest_63 : decode cX4_digest 63 = .ok (.aload_n 0, 1) := by decide +kernel
theorem dX4_digest_64 : decode cX4_digest 64 = .ok (.getfield 30, 3) := by decide +kernel
theorem dX4_digest_67 : decode cX4_digest 67 = .ok (.lload_n 1, 1) := by decide +kernel
theorem dX4_digest_68 : decode cX4_digest 68 = .ok (.invokevirtual 190, 3) := by decide +kernel
theorem dX4_digest_71 : decode cX4_digest 71 = .ok (.lreturn, 1) := by decide +kernel
theorem dX4_isBelow_0 : decode cX4_isBelow 0 = .ok (.iload_n 0, 1) := by decide +kernel
theorem dX4_isBelow_1 : decode cX4_isBelow 1 = .ok (.ifCond .lt 12, 3) := by decide +kernel
theorem dX4_isBelow_4 : decode cX4_isBelow 4 = .ok (.iload_n 0, 1) := by decide +kernel
theorem dX4_isBelow_5 : decode cX4_isBelow 5 = .ok (.iload_n 1, 1) := by decide +kernel
theorem dX4_isBelow_6 : decode cX4_isBelow 6 = .ok (.if_icmp .ge 7, 3) := by decide +kernel
theorem dX4_isBelow_9 : decode cX4_isBelow 9 = .ok (.iconst 1, 1) := by decide +kernel
theorem dX4_isBelow_10 : decode cX4_isBelow 10 = .ok (.goto 4, 3) := by decide +kernel
theorem dX4_isBelow_13 : decode cX4_isBelow 13 = .ok (.iconst 0, 1) := by decide +kernel
theorem dX4_isBelow_14 : decode cX4_isBelow 14 = .ok (.ireturn, 1) := by decide +kernel
set_option maxRecDepth 20000 in
theorem ggX4_isSetOf_X4_isBelow : GoodIn wsX4_isSetOf wsX4_isBelow := goodIn_r _ [4] (by decide +kernel) (by decide +kernel)
set_option maxRecDepth 20000 in
theorem gX4_isSetOf_X4_isBelow : GoodIn wsX4_isSetOf (va_wsS RX4 48 yX4_isBelow wsX4_isBelow) := goodIn_app (goodIn_of _ (by decide +kernel)) ggX4_isSetOf_X4_isBelow
theorem dX4_isSetOf_0 : decode cX4_isSetOf 0 = .ok (.iload_n 0, 1) := by decide +kernel
theorem dX4_isSetOf_1 : decode cX4_isSetOf 1 = .ok (.iconst 1, 1) := by decide +kernel
theorem dX4_isSetOf_2 : decode cX4_isSetOf 2 = .ok (.iload_n 1, 1) := by decide +kernel
theorem dX4_isSetOf_3 : decode cX4_isSetOf 3 = .ok (.ishl, 1) := by decide +kernel
theorem dX4_isSetOf_4 : decode cX4_isSetOf 4 = .ok (.invokestatic 48, 3) := by decide +kernel
theorem dX4_isSetOf_7 : decode cX4_isSetOf 7 = .ok (.ireturn, 1) := by decide +kernel
theorem dX4_hasBit_0 : decode cX4_hasBit 0 = .ok (.lload_n 0, 1) := by decide +kernel
theorem dX4_hasBit_1 : decode cX4_hasBit 1 = .ok (.iload_n 2, 1) := by decide +kernel
theorem dX4_hasBit_2 : decode cX4_hasBit 2 = .ok (.lshr, 1) := by decide +kernel
theorem dX4_hasBit_3 : decode cX4_hasBit 3 = .ok (.lconst 1, 1) := by decide +kernel
theorem dX4_hasBit_4 : decode cX4_hasBit 4 = .ok (.land, 1) := by decide +kernel
theorem dX4_hasBit_5 : decode cX4_hasBit 5 = .ok (.lconst 1, 1) := by decide +kernel
theorem dX4_hasBit_6 : decode cX4_hasBit 6 = .ok (.lcmp, 1) := by decide +kernel
theorem dX4_hasBit_7 : decode cX4_hasBit 7 = .ok (.ifCond .ne 7, 3) := by decide +kernel
theorem dX4_hasBit_10 : decode cX4_hasBit 10 = .ok (.iconst 1, 1) := by decide +kernel
theorem dX4_hasBit_11 : decode cX4_hasBit 11 = .ok (.goto 4, 3) := by decide +kernel
theorem dX4_hasBit_14 : decode cX4_hasBit 14 = .ok (.iconst 0, 1) := by decide +kernel
theorem dX4_hasBit_15 : decode cX4_hasBit 15 = .ok (.ireturn, 1) := by decide +kernel
theorem dX4_allOf_0 : decode cX4_allOf 0 = .ok (.lconst 1, 1) := by decide +kernel
theorem dX4_allOf_1 : decode cX4_allOf 1 = .ok (.iload_n 0, 1) := by decide +kernel
theorem dX4_allOf_2 : decode cX4_allOf 2 = .ok (.lshl, 1) := by decide +kernel
theorem dX4_allOf_3 : decode cX4_allOf 3 = .ok (.lconst 1, 1) := by decide +kernel
theorem dX4_allOf_4 : decode cX4_allOf 4 = .ok (.lsub, 1) := by decide +kernel
theorem dX4_allOf_5 : decode cX4_allOf 5 = .ok (.lreturn, 1) := by decide +kernel
theorem dX4_digestWith_0 : decode cX4_digestWith 0 = .ok (.lload_n 0, 1) := by decide +kernel
theorem dX4_digestWith_1 : decode cX4_digestWith 1 = .ok (.ldc2_w 191, 3) := by decide +kernel
theorem dX4_digestWith_4 : decode cX4_digestWith 4 = .ok (.lmul, 1) := by decide +kernel
theorem dX4_digestWith_5 : decode cX4_digestWith 5 = .ok (.lload_n 2, 1) := by decide +kernel
theorem dX4_digestWith_6 : decode cX4_digestWith 6 = .ok (.ladd, 1) := by decide +kernel
theorem dX4_digestWith_7 : decode cX4_digestWith 7 = .ok (.lreturn, 1) := by decide +kernel
theorem dX4_rowOf_0 : decode cX4_rowOf 0 = .ok (.iload_n 1, 1) := by decide +kernel
theorem dX4_rowOf_1 : decode cX4_rowOf 1 = .ok (.ifCond .eq 10, 3) := by decide +kernel
theorem dX4_rowOf_4 : decode cX4_rowOf 4 = .ok (.aload_n 0, 1) := by decide +kernel
theorem dX4_rowOf_5 : decode cX4_rowOf 5 = .ok (.getfield 10, 3) := by decide +kernel
theorem dX4_rowOf_8 : decode cX4_rowOf 8 = .ok (.goto 7, 3) := by decide +kernel
theorem dX4_rowOf_11 : decode cX4_rowOf 11 = .ok (.aload_n 0, 1) := by decide +kernel
theorem dX4_rowOf_12 : decode cX4_rowOf 12 = .ok (.getfield 16, 3) := by decide +kernel
theorem dX4_rowOf_15 : decode cX4_rowOf 15 = .ok (.areturn, 1) := by decide +kernel
set_option maxRecDepth 20000 in
theorem ggX4_shaftsMovedFor_X4_hasBit : GoodIn wsX4_shaftsMovedFor wsX4_hasBit := goodIn_r _ [6] (by decide +kernel) (by decide +kernel)
set_option maxRecDepth 20000 in
theorem gX4_shaftsMovedFor_X4_hasBit : GoodIn wsX4_shaftsMovedFor (va_wsS RX4 109 yX4_hasBit wsX4_hasBit) := goodIn_app (goodIn_of _ (by decide +kernel)) ggX4_shaftsMovedFor_X4_hasBit
theorem dX4_shaftsMovedFor_0 : decode cX4_shaftsMovedFor 0 = .ok (.iconst 0, 1) := by decide +kernel
theorem dX4_shaftsMovedFor_1 : decode cX4_shaftsMovedFor 1 = .ok (.istore_n 2, 1) := by decide +kernel
theorem dX4_shaftsMovedFor_2 : decode cX4_shaftsMovedFor 2 = .ok (.iconst 0, 1) := by decide +kernel
theorem dX4_shaftsMovedFor_3 : decode cX4_shaftsMovedFor 3 = .ok (.istore_n 3, 1) := by decide +kernel
theorem dX4_shaftsMovedFor_4 : decode cX4_shaftsMovedFor 4 = .ok (.iload_n 3, 1) := by decide +kernel
theorem dX4_shaftsMovedFor_5 : decode cX4_shaftsMovedFor 5 = .ok (.bipush 10, 2) := by decide +kernel
theorem dX4_shaftsMovedFor_7 : decode cX4_shaftsMovedFor 7 = .ok (.if_icmp .ge 35, 3) := by decide +kernel
theorem dX4_shaftsMovedFor_10 : decode cX4_shaftsMovedFor 10 = .ok (.aload_n 0, 1) := by decide +kernel
theorem dX4_shaftsMovedFor_11 : decode cX4_shaftsMovedFor 11 = .ok (.getfield 16, 3) := by decide +kernel
theorem dX4_shaftsMovedFor_14 : decode cX4_shaftsMovedFor 14 = .ok (.getfield 84, 3) := by decide +kernel
theorem dX4_shaftsMovedFor_17 : decode cX4_shaftsMovedFor 17 = .ok (.iload_n 1, 1) := by decide +kernel
theorem dX4_shaftsMovedFor_18 : decode cX4_shaftsMovedFor 18 = .ok (.iaload, 1) := by decide +kernel
theorem dX4_shaftsMovedFor_19 : decode cX4_shaftsMovedFor 19 = .ok (.i2l, 1) := by decide +kernel
theorem dX4_shaftsMovedFor_20 : decode cX4_shaftsMovedFor 20 = .ok (.iload_n 3, 1) := by decide +kernel
theorem dX4_shaftsMovedFor_21 : decode cX4_shaftsMovedFor 21 = .ok (.invokestatic 109, 3) := by decide +kernel
theorem dX4_shaftsMovedFor_24 : decode cX4_shaftsMovedFor 24 = .ok (.ifCond .eq 12, 3) := by decide +kernel
theorem dX4_shaftsMovedFor_27 : decode cX4_shaftsMovedFor 27 = .ok (.iload_n 2, 1) := by decide +kernel
theorem dX4_shaftsMovedFor_28 : decode cX4_shaftsMovedFor 28 = .ok (.aload_n 0, 1) := by decide +kernel
theorem dX4_shaftsMovedFor_29 : decode cX4_shaftsMovedFor 29 = .ok (.getfield 19, 3) := by decide +kernel
theorem dX4_shaftsMovedFor_32 : decode cX4_shaftsMovedFor 32 = .ok (.iload_n 3, 1) := by decide +kernel
theorem dX4_shaftsMovedFor_33 : decode cX4_shaftsMovedFor 33 = .ok (.iaload, 1) := by decide +kernel
theorem dX4_shaftsMovedFor_34 : decode cX4_shaftsMovedFor 34 = .ok (.ior, 1) := by decide +kernel
theorem dX4_shaftsMovedFor_35 : decode cX4_shaftsMovedFor 35 = .ok (.istore_n 2, 1) := by decide +kernel
theorem dX4_shaftsMovedFor_36 : decode cX4_shaftsMovedFor 36 = .ok (.iinc 3 1, 3) := by decide +kernel
theorem dX4_shaftsMovedFor_39 : decode cX4_shaftsMovedFor 39 = .ok (.goto (-35), 3) := by decide +kernel
theorem dX4_shaftsMovedFor_42 : decode cX4_shaftsMovedFor 42 = .ok (.iload_n 2, 1) := by decide +kernel
theorem dX4_shaftsMovedFor_43 : decode cX4_shaftsMovedFor 43 = .ok (.ireturn, 1) := by decide +kernel
set_option maxRecDepth 20000 in
theorem ggX4_shaftsUpAt_X4_shaftsMovedFor : GoodIn wsX4_shaftsUpAt wsX4_shaftsMovedFor := goodIn_r _ [6, 7, 8, 9, 10, 5, 11, 15, 16, 17, 18, 19, 20, 21, 22, 23, 24] (by decide +kernel) (by decide +kernel)
set_option maxRecDepth 20000 in
theorem gX4_shaftsUpAt_X4_shaftsMovedFor : GoodIn wsX4_shaftsUpAt (wsV RX4 90 RX4 yX4_shaftsMovedFor wsX4_shaftsMovedFor) := goodIn_app (goodIn_of _ (by decide +kernel)) ggX4_shaftsUpAt_X4_shaftsMovedFor
set_option maxRecDepth 20000 in
theorem ggX4_shaftsUpAt_X4_allOf : GoodIn wsX4_shaftsUpAt wsX4_allOf := goodIn_r _ [14] (by decide +kernel) (by decide +kernel)
set_option maxRecDepth 20000 in
theorem gX4_shaftsUpAt_X4_allOf : GoodIn wsX4_shaftsUpAt (va_wsS RX4 150 yX4_allOf wsX4_allOf) := goodIn_app (goodIn_of _ (by decide +kernel)) ggX4_shaftsUpAt_X4_allOf
theorem dX4_shaftsUpAt_0 : decode cX4_shaftsUpAt 0 = .ok (.aload_n 0, 1) := by decide +kernel
theorem dX4_shaftsUpAt_1 : decode cX4_shaftsUpAt 1 = .ok (.iload_n 1, 1) := by decide +kernel
theorem dX4_shaftsUpAt_2 : decode cX4_shaftsUpAt 2 = .ok (.invokevirtual 90, 3) := by decide +kernel
theorem dX4_shaftsUpAt_5 : decode cX4_shaftsUpAt 5 = .ok (.istore_n 2, 1) := by decide +kernel
theorem dX4_shaftsUpAt_6 : decode cX4_shaftsUpAt 6 = .ok (.aload_n 0, 1) := by decide +kernel
theorem dX4_shaftsUpAt_7 : decode cX4_shaftsUpAt 7 = .ok (.getfield 23, 3) := by decide +kernel
theorem dX4_shaftsUpAt_10 : decode cX4_shaftsUpAt 10 = .ok (.ifCond .eq 8, 3) := by decide +kernel
theorem dX4_shaftsUpAt_13 : decode cX4_shaftsUpAt 13 = .ok (.iload_n 2, 1) := by decide +kernel
theorem dX4_shaftsUpAt_14 : decode cX4_shaftsUpAt 14 = .ok (.i2l, 1) := by decide +kernel
theorem dX4_shaftsUpAt_15 : decode cX4_shaftsUpAt 15 = .ok (.goto 13, 3) := by decide +kernel
theorem dX4_shaftsUpAt_18 : decode cX4_shaftsUpAt 18 = .ok (.bipush 8, 2) := by decide +kernel
theorem dX4_shaftsUpAt_20 : decode cX4_shaftsUpAt 20 = .ok (.invokestatic 150, 3) := by decide +kernel
theorem dX4_shaftsUpAt_23 : decode cX4_shaftsUpAt 23 = .ok (.iload_n 2, 1) := by decide +kernel
theorem dX4_shaftsUpAt_24 : decode cX4_shaftsUpAt 24 = .ok (.iconst (-1), 1) := by decide +kernel
theorem dX4_shaftsUpAt_25 : decode cX4_shaftsUpAt 25 = .ok (.ixor, 1) := by decide +kernel
theorem dX4_shaftsUpAt_26 : decode cX4_shaftsUpAt 26 = .ok (.i2l, 1) := by decide +kernel
theorem dX4_shaftsUpAt_27 : decode cX4_shaftsUpAt 27 = .ok (.land, 1) := by decide +kernel
theorem dX4_shaftsUpAt_28 : decode cX4_shaftsUpAt 28 = .ok (.lreturn, 1) := by decide +kernel
set_option maxRecDepth 20000 in
theorem ggX4_weave_X4_shaftsUpAt : GoodIn wsX4_weave wsX4_shaftsUpAt := goodIn_r _ [8, 9, 10, 11, 12, 7, 13, 3, 14, 15, 16, 17, 18, 19, 20, 21, 22, 23, 24, 25, 26, 27, 28, 29, 30] (by decide +kernel) (by decide +kernel)
set_option maxRecDepth 20000 in
theorem gX4_weave_X4_shaftsUpAt : GoodIn wsX4_weave (wsV RX4 105 RX4 yX4_shaftsUpAt wsX4_shaftsUpAt) := goodIn_app (goodIn_of _ (by decide +kernel)) ggX4_weave_X4_shaftsUpAt
set_option maxRecDepth 20000 in
theorem ggX4_weave_X4_hasBit : GoodIn wsX4_weave wsX4_hasBit := goodIn_r _ [17] (by decide +kernel) (by decide +kernel)
set_option maxRecDepth 20000 in
theorem gX4_weave_X4_hasBit : GoodIn wsX4_weave (va_wsS RX4 109 yX4_hasBit wsX4_hasBit) := goodIn_app (goodIn_of _ (by decide +kernel)) ggX4_weave_X4_hasBit
theorem dX4_weave_0 : decode cX4_weave 0 = .ok (.aload_n 0, 1) := by decide +kernel
theorem dX4_weave_1 : decode cX4_weave 1 = .ok (.getfield 37, 3) := by decide +kernel
theorem dX4_weave_4 : decode cX4_weave 4 = .ok (.aload_n 0, 1) := by decide +kernel
theorem dX4_weave_5 : decode cX4_weave 5 = .ok (.getfield 10, 3) := by decide +kernel
theorem dX4_weave_8 : decode cX4_weave 8 = .ok (.getfield 76, 3) := by decide +kernel
theorem dX4_weave_11 : decode cX4_weave 11 = .ok (.putfield 193, 3) := by decide +kernel
theorem dX4_weave_14 : decode cX4_weave 14 = .ok (.aload_n 0, 1) := by decide +kernel
theorem dX4_weave_15 : decode cX4_weave 15 = .ok (.getfield 37, 3) := by decide +kernel
theorem dX4_weave_18 : decode cX4_weave 18 = .ok (.aload_n 0, 1) := by decide +kernel
theorem dX4_weave_19 : decode cX4_weave 19 = .ok (.getfield 16, 3) := by decide +kernel
theorem dX4_weave_22 : decode cX4_weave 22 = .ok (.getfield 76, 3) := by decide +kernel
theorem dX4_weave_25 : decode cX4_weave 25 = .ok (.putfield 196, 3) := by decide +kernel
theorem dX4_weave_28 : decode cX4_weave 28 = .ok (.iconst 0, 1) := by decide +kernel
theorem dX4_weave_29 : decode cX4_weave 29 = .ok (.istore_n 1, 1) := by decide +kernel
theorem dX4_weave_30 : decode cX4_weave 30 = .ok (.iload_n 1, 1) := by decide +kernel
theorem dX4_weave_31 : decode cX4_weave 31 = .ok (.aload_n 0, 1) := by decide +kernel
theorem dX4_weave_32 : decode cX4_weave 32 = .ok (.getfield 16, 3) := by decide +kernel
theorem dX4_weave_35 : decode cX4_weave 35 = .ok (.getfield 76, 3) := by decide +kernel
theorem dX4_weave_38 : decode cX4_weave 38 = .ok (.if_icmp .ge 76, 3) := by decide +kernel
theorem dX4_weave_41 : decode cX4_weave 41 = .ok (.aload_n 0, 1) := by decide +kernel
theorem dX4_weave_42 : decode cX4_weave 42 = .ok (.iload_n 1, 1) := by decide +kernel
theorem dX4_weave_43 : decode cX4_weave 43 = .ok (.invokevirtual 105, 3) := by decide +kernel
theorem dX4_weave_46 : decode cX4_weave 46 = .ok (.lstore_n 2, 1) := by decide +kernel
theorem dX4_weave_47 : decode cX4_weave 47 = .ok (.lconst 0, 1) := by decide +kernel
theorem dX4_weave_48 : decode cX4_weave 48 = .ok (.lstore 4, 2) := by decide +kernel
theorem dX4_weave_50 : decode cX4_weave 50 = .ok (.iconst 0, 1) := by decide +kernel
theorem dX4_weave_51 : decode cX4_weave 51 = .ok (.istore 6, 2) := by decide +kernel
theorem dX4_weave_53 : decode cX4_weave 53 = .ok (.iload 6, 2) := by decide +kernel
theorem dX4_weave_55 : decode cX4_weave 55 = .ok (.aload_n 0, 1) := by decide +kernel
theorem dX4_weave_56 : decode cX4_weave 56 = .ok (.getfield 10, 3) := by decide +kernel
theorem dX4_weave_59 : decode cX4_weave 59 = .ok (.getfield 76, 3) := by decide +kernel
theorem dX4_weave_62 : decode cX4_weave 62 = .ok (.if_icmp .ge 35, 3) := by decide +kernel
theorem dX4_weave_65 : decode cX4_weave 65 = .ok (.lload_n 2, 1) := by decide +kernel
theorem dX4_weave_66 : decode cX4_weave 66 = .ok (.aload_n 0, 1) := by decide +kernel
theorem dX4_weave_67 : decode cX4_weave 67 = .ok (.getfield 10, 3) := by decide +kernel
theorem dX4_weave_70 : decode cX4_weave 70 = .ok (.getfield 84, 3) := by decide +kernel
theorem dX4_weave_73 : decode cX4_weave 73 = .ok (.iload 6, 2) := by decide +kernel
theorem dX4_weave_75 : decode cX4_weave 75 = .ok (.iaload, 1) := by decide +kernel
theorem dX4_weave_76 : decode cX4_weave 76 = .ok (.invokestatic 109, 3) := by decide +kernel
theorem dX4_weave_79 : decode cX4_weave 79 = .ok (.ifCond .eq 12, 3) := by decide +kernel
theorem dX4_weave_82 : decode cX4_weave 82 = .ok (.lload 4, 2) := by decide +kernel
theorem dX4_weave_84 : decode cX4_weave 84 = .ok (.lconst 1, 1) := by decide +kernel
theorem dX4_weave_85 : decode cX4_weave 85 = .ok (.iload 6, 2) := by decide +kernel
theorem dX4_weave_87 : decode cX4_weave 87 = .ok (.lshl, 1) := by decide +kernel
theorem dX4_weave_88 : decode cX4_weave 88 = .ok (.lor, 1) := by decide +kernel
theorem dX4_weave_89 : decode cX4_weave 89 = .ok (.lstore 4, 2) := by decide +kernel
theorem dX4_weave_91 : decode cX4_weave 91 = .ok (.iinc 6 1, 3) := by decide +kernel
theorem dX4_weave_94 : decode cX4_weave 94 = .ok (.goto (-41), 3) := by decide +kernel
theorem dX4_weave_97 : decode cX4_weave 97 = .ok (.aload_n 0, 1) := by decide +kernel
theorem dX4_weave_98 : decode cX4_weave 98 = .ok (.getfield 37, 3) := by decide +kernel
theorem dX4_weave_101 : decode cX4_weave 101 = .ok (.getfield 171, 3) := by decide +kernel
theorem dX4_weave_104 : decode cX4_weave 104 = .ok (.iload_n 1, 1) := by decide +kernel
theorem dX4_weave_105 : decode cX4_weave 105 = .ok (.lload 4, 2) := by decide +kernel
theorem dX4_weave_107 : decode cX4_weave 107 = .ok (.lastore, 1) := by decide +kernel
theorem dX4_weave_108 : decode cX4_weave 108 = .ok (.iinc 1 1, 3) := by decide +kernel
theorem dX4_weave_111 : decode cX4_weave 111 = .ok (.goto (-81), 3) := by decide +kernel
theorem dX4_weave_114 : decode cX4_weave 114 = .ok (.return_, 1) := by decide +kernel
set_option maxRecDepth 20000 in
theorem ggX4_colourAppearingAs_X4_hasBit : GoodIn wsX4_colourAppearingAs wsX4_hasBit := goodIn_r _ [6] (by decide +kernel) (by decide +kernel)
set_option maxRecDepth 20000 in
theorem gX4_colourAppearingAs_X4_hasBit : GoodIn wsX4_colourAppearingAs (va_wsS RX4 109 yX4_hasBit wsX4_hasBit) := goodIn_app (goodIn_of _ (by decide +kernel)) ggX4_colourAppearingAs_X4_hasBit
set_option maxRecDepth 20000 in
theorem ggX4_colourAppearingAs_J6_bitCount_0f7a4 : GoodIn wsX4_colourAppearingAs wsJ6_bitCount_0f7a4 := goodIn_r _ [10, 11, 12, 13] (by decide +kernel) (by decide +kernel)
set_option maxRecDepth 20000 in
theorem gX4_colourAppearingAs_J6_bitCount_0f7a4 : GoodIn wsX4_colourAppearingAs (va_wsS RX4 199 yJ6_bitCount_0f7a4 wsJ6_bitCount_0f7a4) := goodIn_app (goodIn_of _ (by decide +kernel)) ggX4_colourAppearingAs_J6_bitCount_0f7a4
theorem dX4_colourAppearingAs_0 : decode cX4_colourAppearingAs 0 = .ok (.iconst 0, 1) := by decide +kernel
theorem dX4_colourAppearingAs_1 : decode cX4_colourAppearingAs 1 = .ok (.istore_n 2, 1) := by decide +kernel
theorem dX4_colourAppearingAs_2 : decode cX4_colourAppearingAs 2 = .ok (.aload_n 0, 1) := by decide +kernel
theorem dX4_colourAppearingAs_3 : decode cX4_colourAppearingAs 3 = .ok (.getfield 10, 3) := by decide +kernel
theorem dX4_colourAppearingAs_6 : decode cX4_colourAppearingAs 6 = .ok (.getfield 76, 3) := by decide +kernel
theorem dX4_colourAppearingAs_9 : decode cX4_colourAppearingAs 9 = .ok (.aload_n 0, 1) := by decide +kernel
theorem dX4_colourAppearingAs_10 : decode cX4_colourAppearingAs 10 = .ok (.getfield 16, 3) := by decide +kernel
theorem dX4_colourAppearingAs_13 : decode cX4_colourAppearingAs 13 = .ok (.getfield 76, 3) := by decide +kernel
theorem dX4_colourAppearingAs_16 : decode cX4_colourAppearingAs 16 = .ok (.iadd, 1) := by decide +kernel
theorem dX4_colourAppearingAs_17 : decode cX4_colourAppearingAs 17 = .ok (.istore_n 3, 1) := by decide +kernel
theorem dX4_colourAppearingAs_18 : decode cX4_colourAppearingAs 18 = .ok (.iconst 0, 1) := by decide +kernel
theorem dX4_colourAppearingAs_19 : decode cX4_colourAppearingAs 19 = .ok (.istore 4, 2) := by decide +kernel
theorem dX4_colourAppearingAs_21 : decode cX4_colourAppearingAs 21 = .ok (.iload 4, 2) := by decide +kernel
theorem dX4_colourAppearingAs_23 : decode cX4_colourAppearingAs 23 = .ok (.iload_n 3, 1) := by decide +kernel
theorem dX4_colourAppearingAs_24 : decode cX4_colourAppearingAs 24 = .ok (.if_icmp .ge 82, 3) := by decide +kernel
theorem dX4_colourAppearingAs_27 : decode cX4_colourAppearingAs 27 = .ok (.iload 4, 2) := by decide +kernel
theorem dX4_colourAppearingAs_29 : decode cX4_colourAppearingAs 29 = .ok (.aload_n 0, 1) := by decide +kernel
theorem dX4_colourAppearingAs_30 : decode cX4_colourAppearingAs 30 = .ok (.getfield 10, 3) := by decide +kernel
theorem dX4_colourAppearingAs_33 : decode cX4_colourAppearingAs 33 = .ok (.getfield 76, 3) := by decide +kernel
theorem dX4_colourAppearingAs_36 : decode cX4_colourAppearingAs 36 = .ok (.if_icmp .ge 16, 3) := by decide +kernel
theorem dX4_colourAppearingAs_39 : decode cX4_colourAppearingAs 39 = .ok (.aload_n 0, 1) := by decide +kernel
theorem dX4_colourAppearingAs_40 : decode cX4_colourAppearingAs 40 = .ok (.getfield 10, 3) := by decide +kernel
theorem dX4_colourAppearingAs_43 : decode cX4_colourAppearingAs 43 = .ok (.getfield 87, 3) := by decide +kernel
theorem dX4_colourAppearingAs_46 : decode cX4_colourAppearingAs 46 = .ok (.iload 4, 2) := by decide +kernel
theorem dX4_colourAppearingAs_48 : decode cX4_colourAppearingAs 48 = .ok (.iaload, 1) := by decide +kernel
theorem dX4_colourAppearingAs_49 : decode cX4_colourAppearingAs 49 = .ok (.goto 21, 3) := by decide +kernel
theorem dX4_colourAppearingAs_52 : decode cX4_colourAppearingAs 52 = .ok (.aload_n 0, 1) := by decide +kernel
theorem dX4_colourAppearingAs_53 : decode cX4_colourAppearingAs 53 = .ok (.getfield 16, 3) := by decide +kernel
theorem dX4_colourAppearingAs_56 : decode cX4_colourAppearingAs 56 = .ok (.getfield 87, 3) := by decide +kernel
theorem dX4_colourAppearingAs_59 : decode cX4_colourAppearingAs 59 = .ok (.iload 4, 2) := by decide +kernel
theorem dX4_colourAppearingAs_61 : decode cX4_colourAppearingAs 61 = .ok (.aload_n 0, 1) := by decide +kernel
theorem dX4_colourAppearingAs_62 : decode cX4_colourAppearingAs 62 = .ok (.getfield 10, 3) := by decide +kernel
theorem dX4_colourAppearingAs_65 : decode cX4_colourAppearingAs 65 = .ok (.getfield 76, 3) := by decide +kernel
theorem dX4_colourAppearingAs_68 : decode cX4_colourAppearingAs 68 = .ok (.isub, 1) := by decide +kernel
theorem dX4_colourAppearingAs_69 : decode cX4_colourAppearingAs 69 = .ok (.iaload, 1) := by decide +kernel
theorem dX4_colourAppearingAs_70 : decode cX4_colourAppearingAs 70 = .ok (.istore 5, 2) := by decide +kernel
theorem dX4_colourAppearingAs_72 : decode cX4_colourAppearingAs 72 = .ok (.iload_n 2, 1) := by decide +kernel
theorem dX4_colourAppearingAs_73 : decode cX4_colourAppearingAs 73 = .ok (.i2l, 1) := by decide +kernel
theorem dX4_colourAppearingAs_74 : decode cX4_colourAppearingAs 74 = .ok (.iload 5, 2) := by decide +kernel
theorem dX4_colourAppearingAs_76 : decode cX4_colourAppearingAs 76 = .ok (.invokestatic 109, 3) := by decide +kernel
theorem dX4_colourAppearingAs_79 : decode cX4_colourAppearingAs 79 = .ok (.ifCond .ne 21, 3) := by decide +kernel
theorem dX4_colourAppearingAs_82 : decode cX4_colourAppearingAs 82 = .ok (.iload_n 2, 1) := by decide +kernel
theorem dX4_colourAppearingAs_83 : decode cX4_colourAppearingAs 83 = .ok (.invokestatic 199, 3) := by decide +kernel
theorem dX4_colourAppearingAs_86 : decode cX4_colourAppearingAs 86 = .ok (.iload_n 1, 1) := by decide +kernel
theorem dX4_colourAppearingAs_87 : decode cX4_colourAppearingAs 87 = .ok (.if_icmp .ne 6, 3) := by decide +kernel
theorem dX4_colourAppearingAs_90 : decode cX4_colourAppearingAs 90 = .ok (.iload 5, 2) := by decide +kernel
theorem dX4_colourAppearingAs_92 : decode cX4_colourAppearingAs 92 = .ok (.ireturn, 1) := by decide +kernel
theorem dX4_colourAppearingAs_93 : decode cX4_colourAppearingAs 93 = .ok (.iload_n 2, 1) := by decide +kernel
theorem dX4_colourAppearingAs_94 : decode cX4_colourAppearingAs 94 = .ok (.iconst 1, 1) := by decide +kernel
theorem dX4_colourAppearingAs_95 : decode cX4_colourAppearingAs 95 = .ok (.iload 5, 2) := by decide +kernel
theorem dX4_colourAppearingAs_97 : decode cX4_colourAppearingAs 97 = .ok (.ishl, 1) := by decide +kernel
theorem dX4_colourAppearingAs_98 : decode cX4_colourAppearingAs 98 = .ok (.ior, 1) := by decide +kernel
theorem dX4_colourAppearingAs_99 : decode cX4_colourAppearingAs 99 = .ok (.istore_n 2, 1) := by decide +kernel
theorem dX4_colourAppearingAs_100 : decode cX4_colourAppearingAs 100 = .ok (.iinc 4 1, 3) := by decide +kernel
theorem dX4_colourAppearingAs_103 : decode cX4_colourAppearingAs 103 = .ok (.goto (-82), 3) := by decide +kernel
theorem dX4_colourAppearingAs_106 : decode cX4_colourAppearingAs 106 = .ok (.iconst (-1), 1) := by decide +kernel
theorem dX4_colourAppearingAs_107 : decode cX4_colourAppearingAs 107 = .ok (.ireturn, 1) := by decide +kernel
set_option maxRecDepth 20000 in
theorem ggX4_tieAsNumbered_J7_fill_53178 : GoodIn wsX4_tieAsNumbered wsJ7_fill_53178 := goodIn_r _ [7] (by decide +kernel) (by decide +kernel)
set_option maxRecDepth 20000 in
theorem gX4_tieAsNumbered_J7_fill_53178 : GoodIn wsX4_tieAsNumbered (va_wsS RX4 203 yJ7_fill_53178 wsJ7_fill_53178) := goodIn_app (goodIn_of _ (by decide +kernel)) ggX4_tieAsNumbered_J7_fill_53178
set_option maxRecDepth 20000 in
theorem ggX4_tieAsNumbered_X4_hasBit : GoodIn wsX4_tieAsNumbered wsX4_hasBit := goodIn_r _ [11] (by decide +kernel) (by decide +kernel)
set_option maxRecDepth 20000 in
theorem gX4_tieAsNumbered_X4_hasBit : GoodIn wsX4_tieAsNumbered (va_wsS RX4 109 yX4_hasBit wsX4_hasBit) := goodIn_app (goodIn_of _ (by decide +kernel)) ggX4_tieAsNumbered_X4_hasBit
theorem dX4_tieAsNumbered_0 : decode cX4_tieAsNumbered 0 = .ok (.aload_n 0, 1) := by decide +kernel
theorem dX4_tieAsNumbered_1 : decode cX4_tieAsNumbered 1 = .ok (.getfield 19, 3) := by decide +kernel
theorem dX4_tieAsNumbered_4 : decode cX4_tieAsNumbered 4 = .ok (.iconst 0, 1) := by decide +kernel
theorem dX4_tieAsNumbered_5 : decode cX4_tieAsNumbered 5 = .ok (.invokestatic 203, 3) := by decide +kernel
theorem dX4_tieAsNumbered_8 : decode cX4_tieAsNumbered 8 = .ok (.iconst 0, 1) := by decide +kernel
theorem dX4_tieAsNumbered_9 : decode cX4_tieAsNumbered 9 = .ok (.istore_n 1, 1) := by decide +kernel
theorem dX4_tieAsNumbered_10 : decode cX4_tieAsNumbered 10 = .ok (.iload_n 1, 1) := by decide +kernel
theorem dX4_tieAsNumbered_11 : decode cX4_tieAsNumbered 11 = .ok (.aload_n 0, 1) := by decide +kernel
theorem dX4_tieAsNumbered_12 : decode cX4_tieAsNumbered 12 = .ok (.getfield 30, 3) := by decide +kernel
theorem dX4_tieAsNumbered_15 : decode cX4_tieAsNumbered 15 = .ok (.getfield 146, 3) := by decide +kernel
theorem dX4_tieAsNumbered_18 : decode cX4_tieAsNumbered 18 = .ok (.if_icmp .ge 79, 3) := by decide +kernel
theorem dX4_tieAsNumbered_21 : decode cX4_tieAsNumbered 21 = .ok (.iconst 0, 1) := by decide +kernel
theorem dX4_tieAsNumbered_22 : decode cX4_tieAsNumbered 22 = .ok (.istore_n 2, 1) := by decide +kernel
theorem dX4_tieAsNumbered_23 : decode cX4_tieAsNumbered 23 = .ok (.iconst 0, 1) := by decide +kernel
theorem dX4_tieAsNumbered_24 : decode cX4_tieAsNumbered 24 = .ok (.istore_n 3, 1) := by decide +kernel
theorem dX4_tieAsNumbered_25 : decode cX4_tieAsNumbered 25 = .ok (.iload_n 3, 1) := by decide +kernel
theorem dX4_tieAsNumbered_26 : decode cX4_tieAsNumbered 26 = .ok (.aload_n 0, 1) := by decide +kernel
theorem dX4_tieAsNumbered_27 : decode cX4_tieAsNumbered 27 = .ok (.getfield 30, 3) := by decide +kernel
theorem dX4_tieAsNumbered_30 : decode cX4_tieAsNumbered 30 = .ok (.getfield 147, 3) := by decide +kernel
theorem dX4_tieAsNumbered_33 : decode cX4_tieAsNumbered 33 = .ok (.if_icmp .ge 43, 3) := by decide +kernel
theorem dX4_tieAsNumbered_36 : decode cX4_tieAsNumbered 36 = .ok (.aload_n 0, 1) := by decide +kernel
theorem dX4_tieAsNumbered_37 : decode cX4_tieAsNumbered 37 = .ok (.getfield 30, 3) := by decide +kernel
theorem dX4_tieAsNumbered_40 : decode cX4_tieAsNumbered 40 = .ok (.getfield 155, 3) := by decide +kernel
theorem dX4_tieAsNumbered_43 : decode cX4_tieAsNumbered 43 = .ok (.iload_n 1, 1) := by decide +kernel
theorem dX4_tieAsNumbered_44 : decode cX4_tieAsNumbered 44 = .ok (.laload, 1) := by decide +kernel
theorem dX4_tieAsNumbered_45 : decode cX4_tieAsNumbered 45 = .ok (.iload_n 3, 1) := by decide +kernel
theorem dX4_tieAsNumbered_46 : decode cX4_tieAsNumbered 46 = .ok (.invokestatic 109, 3) := by decide +kernel
theorem dX4_tieAsNumbered_49 : decode cX4_tieAsNumbered 49 = .ok (.aload_n 0, 1) := by decide +kernel
theorem dX4_tieAsNumbered_50 : decode cX4_tieAsNumbered 50 = .ok (.getfield 23, 3) := by decide +kernel
theorem dX4_tieAsNumbered_53 : decode cX4_tieAsNumbered 53 = .ok (.if_icmp .ne 17, 3) := by decide +kernel
theorem dX4_tieAsNumbered_56 : decode cX4_tieAsNumbered 56 = .ok (.iload_n 2, 1) := by decide +kernel
theorem dX4_tieAsNumbered_57 : decode cX4_tieAsNumbered 57 = .ok (.iconst 1, 1) := by decide +kernel
theorem dX4_tieAsNumbered_58 : decode cX4_tieAsNumbered 58 = .ok (.aload_n 0, 1) := by decide +kernel
theorem dX4_tieAsNumbered_59 : decode cX4_tieAsNumbered 59 = .ok (.getfield 30, 3) := by decide +kernel
theorem dX4_tieAsNumbered_62 : decode cX4_tieAsNumbered 62 = .ok (.getfield 209, 3) := by decide +kernel
theorem dX4_tieAsNumbered_65 : decode cX4_tieAsNumbered 65 = .ok (.iload_n 3, 1) := by decide +kernel
theorem dX4_tieAsNumbered_66 : decode cX4_tieAsNumbered 66 = .ok (.iaload, 1) := by decide +kernel
theorem dX4_tieAsNumbered_67 : decode cX4_tieAsNumbered 67 = .ok (.ishl, 1) := by decide +kernel
theorem dX4_tieAsNumbered_68 : decode cX4_tieAsNumbered 68 = .ok (.ior, 1) := by decide +kernel
theorem dX4_tieAsNumbered_69 : decode cX4_tieAsNumbered 69 = .ok (.istore_n 2, 1) := by decide +kernel
theorem dX4_tieAsNumbered_70 : decode cX4_tieAsNumbered 70 = .ok (.iinc 3 1, 3) := by decide +kernel
theorem dX4_tieAsNumbered_73 : decode cX4_tieAsNumbered 73 = .ok (.goto (-48), 3) := by decide +kernel
theorem dX4_tieAsNumbered_76 : decode cX4_tieAsNumbered 76 = .ok (.aload_n 0, 1) := by decide +kernel
theorem dX4_tieAsNumbered_77 : decode cX4_tieAsNumbered 77 = .ok (.getfield 19, 3) := by decide +kernel
theorem dX4_tieAsNumbered_80 : decode cX4_tieAsNumbered 80 = .ok (.aload_n 0, 1) := by decide +kernel
theorem dX4_tieAsNumbered_81 : decode cX4_tieAsNumbered 81 = .ok (.getfield 30, 3) := by decide +kernel
theorem dX4_tieAsNumbered_84 : decode cX4_tieAsNumbered 84 = .ok (.getfield 212, 3) := by decide +kernel
theorem dX4_tieAsNumbered_87 : decode cX4_tieAsNumbered 87 = .ok (.iload_n 1, 1) := by decide +kernel
theorem dX4_tieAsNumbered_88 : decode cX4_tieAsNumbered 88 = .ok (.iaload, 1) := by decide +kernel
theorem dX4_tieAsNumbered_89 : decode cX4_tieAsNumbered 89 = .ok (.iload_n 2, 1) := by decide +kernel
theorem dX4_tieAsNumbered_90 : decode cX4_tieAsNumbered 90 = .ok (.iastore, 1) := by decide +kernel
theorem dX4_tieAsNumbered_91 : decode cX4_tieAsNumbered 91 = .ok (.iinc 1 1, 3) := by decide +kernel
theorem dX4_tieAsNumbered_94 : decode cX4_tieAsNumbered 94 = .ok (.goto (-84), 3) := by decide +kernel
theorem dX4_tieAsNumbered_97 : decode cX4_tieAsNumbered 97 = .ok (.return_, 1) := by decide +kernel
set_option maxRecDepth 20000 in
theorem ggX4_threadAsNumbered_X3_add : GoodIn wsX4_threadAsNumbered wsX3_add := goodIn_r _ [7, 8, 9, 10, 18, 19, 20] (by decide +kernel) (by decide +kernel)
set_option maxRecDepth 20000 in
theorem gX4_threadAsNumbered_X3_add_n62 : GoodIn wsX4_threadAsNumbered (wsX3_add) := ggX4_threadAsNumbered_X3_add
theorem dX4_threadAsNumbered_0 : decode cX4_threadAsNumbered 0 = .ok (.aload_n 0, 1) := by decide +kernel
theorem dX4_threadAsNumbered_1 : decode cX4_threadAsNumbered 1 = .ok (.getfield 10, 3) := by decide +kernel
theorem dX4_threadAsNumbered_4 : decode cX4_threadAsNumbered 4 = .ok (.iconst 0, 1) := by decide +kernel
theorem dX4_threadAsNumbered_5 : decode cX4_threadAsNumbered 5 = .ok (.putfield 76, 3) := by decide +kernel
theorem dX4_threadAsNumbered_8 : decode cX4_threadAsNumbered 8 = .ok (.iconst 0, 1) := by decide +kernel
theorem dX4_threadAsNumbered_9 : decode cX4_threadAsNumbered 9 = .ok (.istore_n 1, 1) := by decide +kernel
theorem dX4_threadAsNumbered_10 : decode cX4_threadAsNumbered 10 = .ok (.iload_n 1, 1) := by decide +kernel
theorem dX4_threadAsNumbered_11 : decode cX4_threadAsNumbered 11 = .ok (.aload_n 0, 1) := by decide +kernel
theorem dX4_threadAsNumbered_12 : decode cX4_threadAsNumbered 12 = .ok (.getfield 30, 3) := by decide +kernel
theorem dX4_threadAsNumbered_15 : decode cX4_threadAsNumbered 15 = .ok (.getfield 147, 3) := by decide +kernel
theorem dX4_threadAsNumbered_18 : decode cX4_threadAsNumbered 18 = .ok (.if_icmp .ge 27, 3) := by decide +kernel
theorem dX4_threadAsNumbered_21 : decode cX4_threadAsNumbered 21 = .ok (.aload_n 0, 1) := by decide +kernel
theorem dX4_threadAsNumbered_22 : decode cX4_threadAsNumbered 22 = .ok (.getfield 10, 3) := by decide +kernel
theorem dX4_threadAsNumbered_25 : decode cX4_threadAsNumbered 25 = .ok (.aload_n 0, 1) := by decide +kernel
theorem dX4_threadAsNumbered_26 : decode cX4_threadAsNumbered 26 = .ok (.getfield 30, 3) := by decide +kernel
theorem dX4_threadAsNumbered_29 : decode cX4_threadAsNumbered 29 = .ok (.getfield 209, 3) := by decide +kernel
theorem dX4_threadAsNumbered_32 : decode cX4_threadAsNumbered 32 = .ok (.iload_n 1, 1) := by decide +kernel
theorem dX4_threadAsNumbered_33 : decode cX4_threadAsNumbered 33 = .ok (.iaload, 1) := by decide +kernel
theorem dX4_threadAsNumbered_34 : decode cX4_threadAsNumbered 34 = .ok (.iconst 0, 1) := by decide +kernel
theorem dX4_threadAsNumbered_35 : decode cX4_threadAsNumbered 35 = .ok (.invokevirtual 62, 3) := by decide +kernel
theorem dX4_threadAsNumbered_38 : decode cX4_threadAsNumbered 38 = .ok (.pop, 1) := by decide +kernel
theorem dX4_threadAsNumbered_39 : decode cX4_threadAsNumbered 39 = .ok (.iinc 1 1, 3) := by decide +kernel
theorem dX4_threadAsNumbered_42 : decode cX4_threadAsNumbered 42 = .ok (.goto (-32), 3) := by decide +kernel
theorem dX4_threadAsNumbered_45 : decode cX4_threadAsNumbered 45 = .ok (.aload_n 0, 1) := by decide +kernel
theorem dX4_threadAsNumbered_46 : decode cX4_threadAsNumbered 46 = .ok (.getfield 16, 3) := by decide +kernel
theorem dX4_threadAsNumbered_49 : decode cX4_threadAsNumbered 49 = .ok (.iconst 0, 1) := by decide +kernel
theorem dX4_threadAsNumbered_50 : decode cX4_threadAsNumbered 50 = .ok (.putfield 76, 3) := by decide +kernel
theorem dX4_threadAsNumbered_53 : decode cX4_threadAsNumbered 53 = .ok (.iconst 0, 1) := by decide +kernel
theorem dX4_threadAsNumbered_54 : decode cX4_threadAsNumbered 54 = .ok (.istore_n 1, 1) := by decide +kernel
theorem dX4_threadAsNumbered_55 : decode cX4_threadAsNumbered 55 = .ok (.iload_n 1, 1) := by decide +kernel
theorem dX4_threadAsNumbered_56 : decode cX4_threadAsNumbered 56 = .ok (.aload_n 0, 1) := by decide +kernel
theorem dX4_threadAsNumbered_57 : decode cX4_threadAsNumbered 57 = .ok (.getfield 30, 3) := by decide +kernel
theorem dX4_threadAsNumbered_60 : decode cX4_threadAsNumbered 60 = .ok (.getfield 146, 3) := by decide +kernel
theorem dX4_threadAsNumbered_63 : decode cX4_threadAsNumbered 63 = .ok (.if_icmp .ge 29, 3) := by decide +kernel
theorem dX4_threadAsNumbered_66 : decode cX4_threadAsNumbered 66 = .ok (.aload_n 0, 1) := by decide +kernel
theorem dX4_threadAsNumbered_67 : decode cX4_threadAsNumbered 67 = .ok (.getfield 16, 3) := by decide +kernel
theorem dX4_threadAsNumbered_70 : decode cX4_threadAsNumbered 70 = .ok (.iconst 1, 1) := by decide +kernel
theorem dX4_threadAsNumbered_71 : decode cX4_threadAsNumbered 71 = .ok (.aload_n 0, 1) := by decide +kernel
theorem dX4_threadAsNumbered_72 : decode cX4_threadAsNumbered 72 = .ok (.getfield 30, 3) := by decide +kernel
theorem dX4_threadAsNumbered_75 : decode cX4_threadAsNumbered 75 = .ok (.getfield 212, 3) := by decide +kernel
theorem dX4_threadAsNumbered_78 : decode cX4_threadAsNumbered 78 = .ok (.iload_n 1, 1) := by decide +kernel
theorem dX4_threadAsNumbered_79 : decode cX4_threadAsNumbered 79 = .ok (.iaload, 1) := by decide +kernel
theorem dX4_threadAsNumbered_80 : decode cX4_threadAsNumbered 80 = .ok (.ishl, 1) := by decide +kernel
theorem dX4_threadAsNumbered_81 : decode cX4_threadAsNumbered 81 = .ok (.iconst 1, 1) := by decide +kernel
theorem dX4_threadAsNumbered_82 : decode cX4_threadAsNumbered 82 = .ok (.invokevirtual 62, 3) := by decide +kernel
theorem dX4_threadAsNumbered_85 : decode cX4_threadAsNumbered 85 = .ok (.pop, 1) := by decide +kernel
theorem dX4_threadAsNumbered_86 : decode cX4_threadAsNumbered 86 = .ok (.iinc 1 1, 3) := by decide +kernel
theorem dX4_threadAsNumbered_89 : decode cX4_threadAsNumbered 89 = .ok (.goto (-34), 3) := by decide +kernel
theorem dX4_threadAsNumbered_92 : decode cX4_threadAsNumbered 92 = .ok (.return_, 1) := by decide +kernel
