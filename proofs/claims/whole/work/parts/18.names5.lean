theorem dX5_init_0 : decode cX5_init 0 = .ok (.aload_n 0, 1) := by decide +kernel
theorem dX5_init_1 : decode cX5_init 1 = .ok (.invokespecial 1, 3) := by decide +kernel
theorem dX5_init_4 : decode cX5_init 4 = .ok (.aload_n 0, 1) := by decide +kernel
theorem dX5_init_5 : decode cX5_init 5 = .ok (.iconst 1, 1) := by decide +kernel
theorem dX5_init_6 : decode cX5_init 6 = .ok (.putfield 7, 3) := by decide +kernel
theorem dX5_init_9 : decode cX5_init 9 = .ok (.aload_n 0, 1) := by decide +kernel
theorem dX5_init_10 : decode cX5_init 10 = .ok (.bipush 10, 2) := by decide +kernel
theorem dX5_init_12 : decode cX5_init 12 = .ok (.newarray .int, 2) := by decide +kernel
theorem dX5_init_14 : decode cX5_init 14 = .ok (.putfield 13, 3) := by decide +kernel
theorem dX5_init_17 : decode cX5_init 17 = .ok (.aload_n 0, 1) := by decide +kernel
theorem dX5_init_18 : decode cX5_init 18 = .ok (.iconst 2, 1) := by decide +kernel
theorem dX5_init_19 : decode cX5_init 19 = .ok (.newarray .int, 2) := by decide +kernel
theorem dX5_init_21 : decode cX5_init 21 = .ok (.putfield 17, 3) := by decide +kernel
theorem dX5_init_24 : decode cX5_init 24 = .ok (.aload_n 0, 1) := by decide +kernel
theorem dX5_init_25 : decode cX5_init 25 = .ok (.iconst 2, 1) := by decide +kernel
theorem dX5_init_26 : decode cX5_init 26 = .ok (.bipush 40, 2) := by decide +kernel
theorem dX5_init_28 : decode cX5_init 28 = .ok (.multianewarray 20 2, 4) := by decide +kernel
theorem dX5_init_32 : decode cX5_init 32 = .ok (.putfield 22, 3) := by decide +kernel
theorem dX5_init_35 : decode cX5_init 35 = .ok (.aload_n 0, 1) := by decide +kernel
theorem dX5_init_36 : decode cX5_init 36 = .ok (.iconst 2, 1) := by decide +kernel
theorem dX5_init_37 : decode cX5_init 37 = .ok (.bipush 40, 2) := by decide +kernel
theorem dX5_init_39 : decode cX5_init 39 = .ok (.multianewarray 20 2, 4) := by decide +kernel
theorem dX5_init_43 : decode cX5_init 43 = .ok (.putfield 25, 3) := by decide +kernel
theorem dX5_init_46 : decode cX5_init 46 = .ok (.aload_n 0, 1) := by decide +kernel
theorem dX5_init_47 : decode cX5_init 47 = .ok (.bipush 40, 2) := by decide +kernel
theorem dX5_init_49 : decode cX5_init 49 = .ok (.newarray .long, 2) := by decide +kernel
theorem dX5_init_51 : decode cX5_init 51 = .ok (.putfield 28, 3) := by decide +kernel
theorem dX5_init_54 : decode cX5_init 54 = .ok (.return_, 1) := by decide +kernel
theorem dX5_thrown_0 : decode cX5_thrown 0 = .ok (.aload_n 0, 1) := by decide +kernel
theorem dX5_thrown_1 : decode cX5_thrown 1 = .ok (.getfield 32, 3) := by decide +kernel
theorem dX5_thrown_4 : decode cX5_thrown 4 = .ok (.ireturn, 1) := by decide +kernel
theorem dX5_fail_0 : decode cX5_fail 0 = .ok (.aload_n 0, 1) := by decide +kernel
theorem dX5_fail_1 : decode cX5_fail 1 = .ok (.iload_n 1, 1) := by decide +kernel
theorem dX5_fail_2 : decode cX5_fail 2 = .ok (.putfield 32, 3) := by decide +kernel
theorem dX5_fail_5 : decode cX5_fail 5 = .ok (.iconst 0, 1) := by decide +kernel
theorem dX5_fail_6 : decode cX5_fail 6 = .ok (.ireturn, 1) := by decide +kernel
theorem dX5_isIn_0 : decode cX5_isIn 0 = .ok (.iload_n 0, 1) := by decide +kernel
theorem dX5_isIn_1 : decode cX5_isIn 1 = .ok (.iload_n 1, 1) := by decide +kernel
theorem dX5_isIn_2 : decode cX5_isIn 2 = .ok (.if_icmp .lt 12, 3) := by decide +kernel
theorem dX5_isIn_5 : decode cX5_isIn 5 = .ok (.iload_n 0, 1) := by decide +kernel
theorem dX5_isIn_6 : decode cX5_isIn 6 = .ok (.iload_n 2, 1) := by decide +kernel
theorem dX5_isIn_7 : decode cX5_isIn 7 = .ok (.if_icmp .gt 7, 3) := by decide +kernel
theorem dX5_isIn_10 : decode cX5_isIn 10 = .ok (.iconst 1, 1) := by decide +kernel
theorem dX5_isIn_11 : decode cX5_isIn 11 = .ok (.goto 4, 3) := by decide +kernel
theorem dX5_isIn_14 : decode cX5_isIn 14 = .ok (.iconst 0, 1) := by decide +kernel
theorem dX5_isIn_15 : decode cX5_isIn 15 = .ok (.ireturn, 1) := by decide +kernel
theorem dX5_of_0 : decode cX5_of 0 = .ok (.iload_n 0, 1) := by decide +kernel
theorem dX5_of_1 : decode cX5_of 1 = .ok (.ifCond .eq 7, 3) := by decide +kernel
theorem dX5_of_4 : decode cX5_of 4 = .ok (.iconst 0, 1) := by decide +kernel
theorem dX5_of_5 : decode cX5_of 5 = .ok (.goto 4, 3) := by decide +kernel
theorem dX5_of_8 : decode cX5_of 8 = .ok (.iconst 1, 1) := by decide +kernel
theorem dX5_of_9 : decode cX5_of 9 = .ok (.ireturn, 1) := by decide +kernel
theorem dX5_add_0 : decode cX5_add 0 = .ok (.aload_n 0, 1) := by decide +kernel
theorem dX5_add_1 : decode cX5_add 1 = .ok (.getfield 22, 3) := by decide +kernel
theorem dX5_add_4 : decode cX5_add 4 = .ok (.iload_n 1, 1) := by decide +kernel
theorem dX5_add_5 : decode cX5_add 5 = .ok (.aaload, 1) := by decide +kernel
theorem dX5_add_6 : decode cX5_add 6 = .ok (.aload_n 0, 1) := by decide +kernel
theorem dX5_add_7 : decode cX5_add 7 = .ok (.getfield 17, 3) := by decide +kernel
theorem dX5_add_10 : decode cX5_add 10 = .ok (.iload_n 1, 1) := by decide +kernel
theorem dX5_add_11 : decode cX5_add 11 = .ok (.iaload, 1) := by decide +kernel
theorem dX5_add_12 : decode cX5_add 12 = .ok (.iload_n 2, 1) := by decide +kernel
theorem dX5_add_13 : decode cX5_add 13 = .ok (.iastore, 1) := by decide +kernel
theorem dX5_add_14 : decode cX5_add 14 = .ok (.aload_n 0, 1) := by decide +kernel
theorem dX5_add_15 : decode cX5_add 15 = .ok (.getfield 25, 3) := by decide +kernel
theorem dX5_add_18 : decode cX5_add 18 = .ok (.iload_n 1, 1) := by decide +kernel
theorem dX5_add_19 : decode cX5_add 19 = .ok (.aaload, 1) := by decide +kernel
theorem dX5_add_20 : decode cX5_add 20 = .ok (.aload_n 0, 1) := by decide +kernel
theorem dX5_add_21 : decode cX5_add 21 = .ok (.getfield 17, 3) := by decide +kernel
theorem dX5_add_24 : decode cX5_add 24 = .ok (.iload_n 1, 1) := by decide +kernel
theorem dX5_add_25 : decode cX5_add 25 = .ok (.iaload, 1) := by decide +kernel
theorem dX5_add_26 : decode cX5_add 26 = .ok (.iload_n 3, 1) := by decide +kernel
theorem dX5_add_27 : decode cX5_add 27 = .ok (.iastore, 1) := by decide +kernel
theorem dX5_add_28 : decode cX5_add 28 = .ok (.aload_n 0, 1) := by decide +kernel
theorem dX5_add_29 : decode cX5_add 29 = .ok (.getfield 17, 3) := by decide +kernel
theorem dX5_add_32 : decode cX5_add 32 = .ok (.iload_n 1, 1) := by decide +kernel
theorem dX5_add_33 : decode cX5_add 33 = .ok (.dup2, 1) := by decide +kernel
theorem dX5_add_34 : decode cX5_add 34 = .ok (.iaload, 1) := by decide +kernel
theorem dX5_add_35 : decode cX5_add 35 = .ok (.iconst 1, 1) := by decide +kernel
theorem dX5_add_36 : decode cX5_add 36 = .ok (.iadd, 1) := by decide +kernel
theorem dX5_add_37 : decode cX5_add 37 = .ok (.iastore, 1) := by decide +kernel
theorem dX5_add_38 : decode cX5_add 38 = .ok (.aload_n 0, 1) := by decide +kernel
theorem dX5_add_39 : decode cX5_add 39 = .ok (.getfield 17, 3) := by decide +kernel
theorem dX5_add_42 : decode cX5_add 42 = .ok (.iload_n 1, 1) := by decide +kernel
theorem dX5_add_43 : decode cX5_add 43 = .ok (.iaload, 1) := by decide +kernel
theorem dX5_add_44 : decode cX5_add 44 = .ok (.iconst 1, 1) := by decide +kernel
theorem dX5_add_45 : decode cX5_add 45 = .ok (.isub, 1) := by decide +kernel
theorem dX5_add_46 : decode cX5_add 46 = .ok (.ireturn, 1) := by decide +kernel
set_option maxRecDepth 20000 in
theorem ggX5_thread_X5_isIn : GoodIn wsX5_thread wsX5_isIn := goodIn_r _ [6] (by decide +kernel) (by decide +kernel)
set_option maxRecDepth 20000 in
theorem gX5_thread_X5_isIn : GoodIn wsX5_thread (va_wsS RX5 36 yX5_isIn wsX5_isIn) := goodIn_app (goodIn_of _ (by decide +kernel)) ggX5_thread_X5_isIn
set_option maxRecDepth 20000 in
theorem ggX5_thread_X5_fail : GoodIn wsX5_thread wsX5_fail := goodIn_r _ [10, 1, 17, 18, 19, 20, 21, 22, 23, 24, 25] (by decide +kernel) (by decide +kernel)
set_option maxRecDepth 20000 in
theorem gX5_thread_X5_fail : GoodIn wsX5_thread (wsV RX5 40 RX5 yX5_fail wsX5_fail) := goodIn_app (goodIn_of _ (by decide +kernel)) ggX5_thread_X5_fail
set_option maxRecDepth 20000 in
theorem ggX5_thread_X5_add : GoodIn wsX5_thread wsX5_add := goodIn_r _ [14, 15, 2, 16, 17, 18, 19, 20, 21, 22, 23, 24, 25] (by decide +kernel) (by decide +kernel)
set_option maxRecDepth 20000 in
theorem gX5_thread_X5_add : GoodIn wsX5_thread (wsV RX5 44 RX5 yX5_add wsX5_add) := goodIn_app (goodIn_of _ (by decide +kernel)) ggX5_thread_X5_add
theorem dX5_thread_0 : decode cX5_thread 0 = .ok (.aload_n 0, 1) := by decide +kernel
theorem dX5_thread_1 : decode cX5_thread 1 = .ok (.iconst 0, 1) := by decide +kernel
theorem dX5_thread_2 : decode cX5_thread 2 = .ok (.putfield 32, 3) := by decide +kernel
theorem dX5_thread_5 : decode cX5_thread 5 = .ok (.iload_n 1, 1) := by decide +kernel
theorem dX5_thread_6 : decode cX5_thread 6 = .ok (.iconst 0, 1) := by decide +kernel
theorem dX5_thread_7 : decode cX5_thread 7 = .ok (.bipush 7, 2) := by decide +kernel
theorem dX5_thread_9 : decode cX5_thread 9 = .ok (.invokestatic 36, 3) := by decide +kernel
theorem dX5_thread_12 : decode cX5_thread 12 = .ok (.ifCond .eq 13, 3) := by decide +kernel
theorem dX5_thread_15 : decode cX5_thread 15 = .ok (.iload_n 2, 1) := by decide +kernel
theorem dX5_thread_16 : decode cX5_thread 16 = .ok (.iconst 0, 1) := by decide +kernel
theorem dX5_thread_17 : decode cX5_thread 17 = .ok (.bipush 7, 2) := by decide +kernel
theorem dX5_thread_19 : decode cX5_thread 19 = .ok (.invokestatic 36, 3) := by decide +kernel
theorem dX5_thread_22 : decode cX5_thread 22 = .ok (.ifCond .ne 9, 3) := by decide +kernel
theorem dX5_thread_25 : decode cX5_thread 25 = .ok (.aload_n 0, 1) := by decide +kernel
theorem dX5_thread_26 : decode cX5_thread 26 = .ok (.iconst 1, 1) := by decide +kernel
theorem dX5_thread_27 : decode cX5_thread 27 = .ok (.invokevirtual 40, 3) := by decide +kernel
theorem dX5_thread_30 : decode cX5_thread 30 = .ok (.ireturn, 1) := by decide +kernel
theorem dX5_thread_31 : decode cX5_thread 31 = .ok (.aload_n 0, 1) := by decide +kernel
theorem dX5_thread_32 : decode cX5_thread 32 = .ok (.getfield 17, 3) := by decide +kernel
theorem dX5_thread_35 : decode cX5_thread 35 = .ok (.iconst 0, 1) := by decide +kernel
theorem dX5_thread_36 : decode cX5_thread 36 = .ok (.iaload, 1) := by decide +kernel
theorem dX5_thread_37 : decode cX5_thread 37 = .ok (.bipush 40, 2) := by decide +kernel
theorem dX5_thread_39 : decode cX5_thread 39 = .ok (.if_icmp .ne 11, 3) := by decide +kernel
theorem dX5_thread_42 : decode cX5_thread 42 = .ok (.aload_n 0, 1) := by decide +kernel
theorem dX5_thread_43 : decode cX5_thread 43 = .ok (.iconst 2, 1) := by decide +kernel
theorem dX5_thread_44 : decode cX5_thread 44 = .ok (.invokevirtual 40, 3) := by decide +kernel
theorem dX5_thread_47 : decode cX5_thread 47 = .ok (.goto 10, 3) := by decide +kernel
theorem dX5_thread_50 : decode cX5_thread 50 = .ok (.aload_n 0, 1) := by decide +kernel
theorem dX5_thread_51 : decode cX5_thread 51 = .ok (.iconst 0, 1) := by decide +kernel
theorem dX5_thread_52 : decode cX5_thread 52 = .ok (.iload_n 1, 1) := by decide +kernel
theorem dX5_thread_53 : decode cX5_thread 53 = .ok (.iload_n 2, 1) := by decide +kernel
theorem dX5_thread_54 : decode cX5_thread 54 = .ok (.invokevirtual 44, 3) := by decide +kernel
theorem dX5_thread_57 : decode cX5_thread 57 = .ok (.ireturn, 1) := by decide +kernel
set_option maxRecDepth 20000 in
theorem ggX5_tread_X5_isIn : GoodIn wsX5_tread wsX5_isIn := goodIn_r _ [6] (by decide +kernel) (by decide +kernel)
set_option maxRecDepth 20000 in
theorem gX5_tread_X5_isIn : GoodIn wsX5_tread (va_wsS RX5 36 yX5_isIn wsX5_isIn) := goodIn_app (goodIn_of _ (by decide +kernel)) ggX5_tread_X5_isIn
set_option maxRecDepth 20000 in
theorem ggX5_tread_X5_fail : GoodIn wsX5_tread wsX5_fail := goodIn_r _ [10, 1, 17, 18, 19, 20, 21, 22, 23, 24, 25] (by decide +kernel) (by decide +kernel)
set_option maxRecDepth 20000 in
theorem gX5_tread_X5_fail : GoodIn wsX5_tread (wsV RX5 40 RX5 yX5_fail wsX5_fail) := goodIn_app (goodIn_of _ (by decide +kernel)) ggX5_tread_X5_fail
set_option maxRecDepth 20000 in
theorem ggX5_tread_X5_add : GoodIn wsX5_tread wsX5_add := goodIn_r _ [14, 15, 2, 16, 17, 18, 19, 20, 21, 22, 23, 24, 25] (by decide +kernel) (by decide +kernel)
set_option maxRecDepth 20000 in
theorem gX5_tread_X5_add : GoodIn wsX5_tread (wsV RX5 44 RX5 yX5_add wsX5_add) := goodIn_app (goodIn_of _ (by decide +kernel)) ggX5_tread_X5_add
theorem dX5_tread_0 : decode cX5_tread 0 = .ok (.aload_n 0, 1) := by decide +kernel
theorem dX5_tread_1 : decode cX5_tread 1 = .ok (.iconst 0, 1) := by decide +kernel
theorem dX5_tread_2 : decode cX5_tread 2 = .ok (.putfield 32, 3) := by decide +kernel
theorem dX5_tread_5 : decode cX5_tread 5 = .ok (.iload_n 1, 1) := by decide +kernel
theorem dX5_tread_6 : decode cX5_tread 6 = .ok (.iconst 0, 1) := by decide +kernel
theorem dX5_tread_7 : decode cX5_tread 7 = .ok (.sipush 1023, 3) := by decide +kernel
theorem dX5_tread_10 : decode cX5_tread 10 = .ok (.invokestatic 36, 3) := by decide +kernel
theorem dX5_tread_13 : decode cX5_tread 13 = .ok (.ifCond .eq 13, 3) := by decide +kernel
theorem dX5_tread_16 : decode cX5_tread 16 = .ok (.iload_n 2, 1) := by decide +kernel
theorem dX5_tread_17 : decode cX5_tread 17 = .ok (.iconst 0, 1) := by decide +kernel
theorem dX5_tread_18 : decode cX5_tread 18 = .ok (.bipush 7, 2) := by decide +kernel
theorem dX5_tread_20 : decode cX5_tread 20 = .ok (.invokestatic 36, 3) := by decide +kernel
theorem dX5_tread_23 : decode cX5_tread 23 = .ok (.ifCond .ne 9, 3) := by decide +kernel
theorem dX5_tread_26 : decode cX5_tread 26 = .ok (.aload_n 0, 1) := by decide +kernel
theorem dX5_tread_27 : decode cX5_tread 27 = .ok (.iconst 1, 1) := by decide +kernel
theorem dX5_tread_28 : decode cX5_tread 28 = .ok (.invokevirtual 40, 3) := by decide +kernel
theorem dX5_tread_31 : decode cX5_tread 31 = .ok (.ireturn, 1) := by decide +kernel
theorem dX5_tread_32 : decode cX5_tread 32 = .ok (.aload_n 0, 1) := by decide +kernel
theorem dX5_tread_33 : decode cX5_tread 33 = .ok (.getfield 17, 3) := by decide +kernel
theorem dX5_tread_36 : decode cX5_tread 36 = .ok (.iconst 1, 1) := by decide +kernel
theorem dX5_tread_37 : decode cX5_tread 37 = .ok (.iaload, 1) := by decide +kernel
theorem dX5_tread_38 : decode cX5_tread 38 = .ok (.bipush 40, 2) := by decide +kernel
theorem dX5_tread_40 : decode cX5_tread 40 = .ok (.if_icmp .ne 11, 3) := by decide +kernel
theorem dX5_tread_43 : decode cX5_tread 43 = .ok (.aload_n 0, 1) := by decide +kernel
theorem dX5_tread_44 : decode cX5_tread 44 = .ok (.iconst 2, 1) := by decide +kernel
theorem dX5_tread_45 : decode cX5_tread 45 = .ok (.invokevirtual 40, 3) := by decide +kernel
theorem dX5_tread_48 : decode cX5_tread 48 = .ok (.goto 10, 3) := by decide +kernel
theorem dX5_tread_51 : decode cX5_tread 51 = .ok (.aload_n 0, 1) := by decide +kernel
theorem dX5_tread_52 : decode cX5_tread 52 = .ok (.iconst 1, 1) := by decide +kernel
theorem dX5_tread_53 : decode cX5_tread 53 = .ok (.iload_n 1, 1) := by decide +kernel
theorem dX5_tread_54 : decode cX5_tread 54 = .ok (.iload_n 2, 1) := by decide +kernel
theorem dX5_tread_55 : decode cX5_tread 55 = .ok (.invokevirtual 44, 3) := by decide +kernel
theorem dX5_tread_58 : decode cX5_tread 58 = .ok (.ireturn, 1) := by decide +kernel
set_option maxRecDepth 20000 in
theorem ggX5_tie_X5_isIn : GoodIn wsX5_tie wsX5_isIn := goodIn_r _ [6] (by decide +kernel) (by decide +kernel)
set_option maxRecDepth 20000 in
theorem gX5_tie_X5_isIn : GoodIn wsX5_tie (va_wsS RX5 36 yX5_isIn wsX5_isIn) := goodIn_app (goodIn_of _ (by decide +kernel)) ggX5_tie_X5_isIn
set_option maxRecDepth 20000 in
theorem ggX5_tie_X5_fail : GoodIn wsX5_tie wsX5_fail := goodIn_r _ [10, 1, 11, 12, 13, 14, 15, 16, 17, 18, 19] (by decide +kernel) (by decide +kernel)
set_option maxRecDepth 20000 in
theorem gX5_tie_X5_fail : GoodIn wsX5_tie (wsV RX5 40 RX5 yX5_fail wsX5_fail) := goodIn_app (goodIn_of _ (by decide +kernel)) ggX5_tie_X5_fail
theorem dX5_tie_0 : decode cX5_tie 0 = .ok (.aload_n 0, 1) := by decide +kernel
theorem dX5_tie_1 : decode cX5_tie 1 = .ok (.iconst 0, 1) := by decide +kernel
theorem dX5_tie_2 : decode cX5_tie 2 = .ok (.putfield 32, 3) := by decide +kernel
theorem dX5_tie_5 : decode cX5_tie 5 = .ok (.iload_n 1, 1) := by decide +kernel
theorem dX5_tie_6 : decode cX5_tie 6 = .ok (.iconst 0, 1) := by decide +kernel
theorem dX5_tie_7 : decode cX5_tie 7 = .ok (.bipush 9, 2) := by decide +kernel
theorem dX5_tie_9 : decode cX5_tie 9 = .ok (.invokestatic 36, 3) := by decide +kernel
theorem dX5_tie_12 : decode cX5_tie 12 = .ok (.ifCond .ne 9, 3) := by decide +kernel
theorem dX5_tie_15 : decode cX5_tie 15 = .ok (.aload_n 0, 1) := by decide +kernel
theorem dX5_tie_16 : decode cX5_tie 16 = .ok (.iconst 1, 1) := by decide +kernel
theorem dX5_tie_17 : decode cX5_tie 17 = .ok (.invokevirtual 40, 3) := by decide +kernel
theorem dX5_tie_20 : decode cX5_tie 20 = .ok (.ireturn, 1) := by decide +kernel
theorem dX5_tie_21 : decode cX5_tie 21 = .ok (.iload_n 2, 1) := by decide +kernel
theorem dX5_tie_22 : decode cX5_tie 22 = .ok (.iconst 0, 1) := by decide +kernel
theorem dX5_tie_23 : decode cX5_tie 23 = .ok (.sipush 255, 3) := by decide +kernel
theorem dX5_tie_26 : decode cX5_tie 26 = .ok (.invokestatic 36, 3) := by decide +kernel
theorem dX5_tie_29 : decode cX5_tie 29 = .ok (.ifCond .ne 9, 3) := by decide +kernel
theorem dX5_tie_32 : decode cX5_tie 32 = .ok (.aload_n 0, 1) := by decide +kernel
theorem dX5_tie_33 : decode cX5_tie 33 = .ok (.iconst 2, 1) := by decide +kernel
theorem dX5_tie_34 : decode cX5_tie 34 = .ok (.invokevirtual 40, 3) := by decide +kernel
theorem dX5_tie_37 : decode cX5_tie 37 = .ok (.ireturn, 1) := by decide +kernel
theorem dX5_tie_38 : decode cX5_tie 38 = .ok (.aload_n 0, 1) := by decide +kernel
theorem dX5_tie_39 : decode cX5_tie 39 = .ok (.getfield 13, 3) := by decide +kernel
theorem dX5_tie_42 : decode cX5_tie 42 = .ok (.iload_n 1, 1) := by decide +kernel
theorem dX5_tie_43 : decode cX5_tie 43 = .ok (.iaload, 1) := by decide +kernel
theorem dX5_tie_44 : decode cX5_tie 44 = .ok (.istore_n 3, 1) := by decide +kernel
theorem dX5_tie_45 : decode cX5_tie 45 = .ok (.aload_n 0, 1) := by decide +kernel
theorem dX5_tie_46 : decode cX5_tie 46 = .ok (.getfield 13, 3) := by decide +kernel
theorem dX5_tie_49 : decode cX5_tie 49 = .ok (.iload_n 1, 1) := by decide +kernel
theorem dX5_tie_50 : decode cX5_tie 50 = .ok (.iload_n 2, 1) := by decide +kernel
theorem dX5_tie_51 : decode cX5_tie 51 = .ok (.iastore, 1) := by decide +kernel
theorem dX5_tie_52 : decode cX5_tie 52 = .ok (.iload_n 3, 1) := by decide +kernel
theorem dX5_tie_53 : decode cX5_tie 53 = .ok (.ireturn, 1) := by decide +kernel
theorem dX5_setRising_0 : decode cX5_setRising 0 = .ok (.aload_n 0, 1) := by decide +kernel
theorem dX5_setRising_1 : decode cX5_setRising 1 = .ok (.iconst 0, 1) := by decide +kernel
theorem dX5_setRising_2 : decode cX5_setRising 2 = .ok (.putfield 32, 3) := by decide +kernel
theorem dX5_setRising_5 : decode cX5_setRising 5 = .ok (.aload_n 0, 1) := by decide +kernel
theorem dX5_setRising_6 : decode cX5_setRising 6 = .ok (.getfield 7, 3) := by decide +kernel
theorem dX5_setRising_9 : decode cX5_setRising 9 = .ok (.istore_n 2, 1) := by decide +kernel
theorem dX5_setRising_10 : decode cX5_setRising 10 = .ok (.aload_n 0, 1) := by decide +kernel
theorem dX5_setRising_11 : decode cX5_setRising 11 = .ok (.iload_n 1, 1) := by decide +kernel
theorem dX5_setRising_12 : decode cX5_setRising 12 = .ok (.putfield 7, 3) := by decide +kernel
theorem dX5_setRising_15 : decode cX5_setRising 15 = .ok (.iload_n 2, 1) := by decide +kernel
theorem dX5_setRising_16 : decode cX5_setRising 16 = .ok (.ireturn, 1) := by decide +kernel
set_option maxRecDepth 20000 in
theorem ggX5_count_X5_of : GoodIn wsX5_count wsX5_of := goodIn_r _ [6] (by decide +kernel) (by decide +kernel)
set_option maxRecDepth 20000 in
theorem gX5_count_X5_of : GoodIn wsX5_count (va_wsS RX5 48 yX5_of wsX5_of) := goodIn_app (goodIn_of _ (by decide +kernel)) ggX5_count_X5_of
theorem dX5_count_0 : decode cX5_count 0 = .ok (.aload_n 0, 1) := by decide +kernel
theorem dX5_count_1 : decode cX5_count 1 = .ok (.iconst 0, 1) := by decide +kernel
theorem dX5_count_2 : decode cX5_count 2 = .ok (.putfield 32, 3) := by decide +kernel
theorem dX5_count_5 : decode cX5_count 5 = .ok (.aload_n 0, 1) := by decide +kernel
theorem dX5_count_6 : decode cX5_count 6 = .ok (.getfield 17, 3) := by decide +kernel
theorem dX5_count_9 : decode cX5_count 9 = .ok (.iload_n 1, 1) := by decide +kernel
theorem dX5_count_10 : decode cX5_count 10 = .ok (.invokestatic 48, 3) := by decide +kernel
theorem dX5_count_13 : decode cX5_count 13 = .ok (.iaload, 1) := by decide +kernel
theorem dX5_count_14 : decode cX5_count 14 = .ok (.ireturn, 1) := by decide +kernel
set_option maxRecDepth 20000 in
theorem ggX5_end_X5_isIn : GoodIn wsX5_end wsX5_isIn := goodIn_r _ [8] (by decide +kernel) (by decide +kernel)
set_option maxRecDepth 20000 in
theorem gX5_end_X5_isIn : GoodIn wsX5_end (va_wsS RX5 36 yX5_isIn wsX5_isIn) := goodIn_app (goodIn_of _ (by decide +kernel)) ggX5_end_X5_isIn
set_option maxRecDepth 20000 in
theorem ggX5_end_X5_fail : GoodIn wsX5_end wsX5_fail := goodIn_r _ [12, 1, 13, 14, 15, 16, 17, 18, 19, 20, 21] (by decide +kernel) (by decide +kernel)
set_option maxRecDepth 20000 in
theorem gX5_end_X5_fail : GoodIn wsX5_end (wsV RX5 40 RX5 yX5_fail wsX5_fail) := goodIn_app (goodIn_of _ (by decide +kernel)) ggX5_end_X5_fail
theorem dX5_end_0 : decode cX5_end 0 = .ok (.aload_n 0, 1) := by decide +kernel
theorem dX5_end_1 : decode cX5_end 1 = .ok (.iconst 0, 1) := by decide +kernel
theorem dX5_end_2 : decode cX5_end 2 = .ok (.putfield 32, 3) := by decide +kernel
theorem dX5_end_5 : decode cX5_end 5 = .ok (.iload_n 1, 1) := by decide +kernel
theorem dX5_end_6 : decode cX5_end 6 = .ok (.iconst 0, 1) := by decide +kernel
theorem dX5_end_7 : decode cX5_end 7 = .ok (.aload_n 0, 1) := by decide +kernel
theorem dX5_end_8 : decode cX5_end 8 = .ok (.getfield 17, 3) := by decide +kernel
theorem dX5_end_11 : decode cX5_end 11 = .ok (.iconst 0, 1) := by decide +kernel
theorem dX5_end_12 : decode cX5_end 12 = .ok (.iaload, 1) := by decide +kernel
theorem dX5_end_13 : decode cX5_end 13 = .ok (.iconst 1, 1) := by decide +kernel
theorem dX5_end_14 : decode cX5_end 14 = .ok (.isub, 1) := by decide +kernel
theorem dX5_end_15 : decode cX5_end 15 = .ok (.invokestatic 36, 3) := by decide +kernel
theorem dX5_end_18 : decode cX5_end 18 = .ok (.ifCond .eq 12, 3) := by decide +kernel
theorem dX5_end_21 : decode cX5_end 21 = .ok (.iload_n 2, 1) := by decide +kernel
theorem dX5_end_22 : decode cX5_end 22 = .ok (.iconst 0, 1) := by decide +kernel
theorem dX5_end_23 : decode cX5_end 23 = .ok (.iconst 1, 1) := by decide +kernel
theorem dX5_end_24 : decode cX5_end 24 = .ok (.invokestatic 36, 3) := by decide +kernel
theorem dX5_end_27 : decode cX5_end 27 = .ok (.ifCond .ne 9, 3) := by decide +kernel
theorem dX5_end_30 : decode cX5_end 30 = .ok (.aload_n 0, 1) := by decide +kernel
theorem dX5_end_31 : decode cX5_end 31 = .ok (.iconst 1, 1) := by decide +kernel
theorem dX5_end_32 : decode cX5_end 32 = .ok (.invokevirtual 40, 3) := by decide +kernel
theorem dX5_end_35 : decode cX5_end 35 = .ok (.ireturn, 1) := by decide +kernel
theorem dX5_end_36 : decode cX5_end 36 = .ok (.iload_n 2, 1) := by decide +kernel
theorem dX5_end_37 : decode cX5_end 37 = .ok (.ifCond .ne 14, 3) := by decide +kernel
theorem dX5_end_40 : decode cX5_end 40 = .ok (.aload_n 0, 1) := by decide +kernel
theorem dX5_end_41 : decode cX5_end 41 = .ok (.getfield 22, 3) := by decide +kernel
theorem dX5_end_44 : decode cX5_end 44 = .ok (.iconst 0, 1) := by decide +kernel
theorem dX5_end_45 : decode cX5_end 45 = .ok (.aaload, 1) := by decide +kernel
theorem dX5_end_46 : decode cX5_end 46 = .ok (.iload_n 1, 1) := by decide +kernel
theorem dX5_end_47 : decode cX5_end 47 = .ok (.iaload, 1) := by decide +kernel
theorem dX5_end_48 : decode cX5_end 48 = .ok (.goto 11, 3) := by decide +kernel
theorem dX5_end_51 : decode cX5_end 51 = .ok (.aload_n 0, 1) := by decide +kernel
theorem dX5_end_52 : decode cX5_end 52 = .ok (.getfield 25, 3) := by decide +kernel
theorem dX5_end_55 : decode cX5_end 55 = .ok (.iconst 0, 1) := by decide +kernel
theorem dX5_end_56 : decode cX5_end 56 = .ok (.aaload, 1) := by decide +kernel
theorem dX5_end_57 : decode cX5_end 57 = .ok (.iload_n 1, 1) := by decide +kernel
theorem dX5_end_58 : decode cX5_end 58 = .ok (.iaload, 1) := by decide +kernel
theorem dX5_end_59 : decode cX5_end 59 = .ok (.ireturn, 1) := by decide +kernel
theorem dX5_moved_0 : decode cX5_moved 0 = .ok (.iconst 0, 1) := by decide +kernel
theorem dX5_moved_1 : decode cX5_moved 1 = .ok (.istore_n 2, 1) := by decide +kernel
theorem dX5_moved_2 : decode cX5_moved 2 = .ok (.iconst 0, 1) := by decide +kernel
theorem dX5_moved_3 : decode cX5_moved 3 = .ok (.istore_n 3, 1) := by decide +kernel
theorem dX5_moved_4 : decode cX5_moved 4 = .ok (.iload_n 3, 1) := by decide +kernel
theorem dX5_moved_5 : decode cX5_moved 5 = .ok (.bipush 10, 2) := by decide +kernel
theorem dX5_moved_7 : decode cX5_moved 7 = .ok (.if_icmp .ge 34, 3) := by decide +kernel
theorem dX5_moved_10 : decode cX5_moved 10 = .ok (.aload_n 0, 1) := by decide +kernel
theorem dX5_moved_11 : decode cX5_moved 11 = .ok (.getfield 22, 3) := by decide +kernel
theorem dX5_moved_14 : decode cX5_moved 14 = .ok (.iconst 1, 1) := by decide +kernel
theorem dX5_moved_15 : decode cX5_moved 15 = .ok (.aaload, 1) := by decide +kernel
theorem dX5_moved_16 : decode cX5_moved 16 = .ok (.iload_n 1, 1) := by decide +kernel
theorem dX5_moved_17 : decode cX5_moved 17 = .ok (.iaload, 1) := by decide +kernel
theorem dX5_moved_18 : decode cX5_moved 18 = .ok (.iload_n 3, 1) := by decide +kernel
theorem dX5_moved_19 : decode cX5_moved 19 = .ok (.ishr, 1) := by decide +kernel
theorem dX5_moved_20 : decode cX5_moved 20 = .ok (.iconst 1, 1) := by decide +kernel
theorem dX5_moved_21 : decode cX5_moved 21 = .ok (.iand, 1) := by decide +kernel
theorem dX5_moved_22 : decode cX5_moved 22 = .ok (.iconst 1, 1) := by decide +kernel
theorem dX5_moved_23 : decode cX5_moved 23 = .ok (.if_icmp .ne 12, 3) := by decide +kernel
theorem dX5_moved_26 : decode cX5_moved 26 = .ok (.iload_n 2, 1) := by decide +kernel
theorem dX5_moved_27 : decode cX5_moved 27 = .ok (.aload_n 0, 1) := by decide +kernel
theorem dX5_moved_28 : decode cX5_moved 28 = .ok (.getfield 13, 3) := by decide +kernel
theorem dX5_moved_31 : decode cX5_moved 31 = .ok (.iload_n 3, 1) := by decide +kernel
theorem dX5_moved_32 : decode cX5_moved 32 = .ok (.iaload, 1) := by decide +kernel
theorem dX5_moved_33 : decode cX5_moved 33 = .ok (.ior, 1) := by decide +kernel
theorem dX5_moved_34 : decode cX5_moved 34 = .ok (.istore_n 2, 1) := by decide +kernel
theorem dX5_moved_35 : decode cX5_moved 35 = .ok (.iinc 3 1, 3) := by decide +kernel
theorem dX5_moved_38 : decode cX5_moved 38 = .ok (.goto (-34), 3) := by decide +kernel
theorem dX5_moved_41 : decode cX5_moved 41 = .ok (.iload_n 2, 1) := by decide +kernel
theorem dX5_moved_42 : decode cX5_moved 42 = .ok (.ireturn, 1) := by decide +kernel
set_option maxRecDepth 20000 in
theorem ggX5_pick_X5_isIn : GoodIn wsX5_pick wsX5_isIn := goodIn_r _ [8] (by decide +kernel) (by decide +kernel)
set_option maxRecDepth 20000 in
theorem gX5_pick_X5_isIn : GoodIn wsX5_pick (va_wsS RX5 36 yX5_isIn wsX5_isIn) := goodIn_app (goodIn_of _ (by decide +kernel)) ggX5_pick_X5_isIn
set_option maxRecDepth 20000 in
theorem ggX5_pick_X5_fail : GoodIn wsX5_pick wsX5_fail := goodIn_r _ [12, 1, 18, 19, 20, 21, 22, 23, 24, 25, 26] (by decide +kernel) (by decide +kernel)
set_option maxRecDepth 20000 in
theorem gX5_pick_X5_fail : GoodIn wsX5_pick (wsV RX5 40 RX5 yX5_fail wsX5_fail) := goodIn_app (goodIn_of _ (by decide +kernel)) ggX5_pick_X5_fail
set_option maxRecDepth 20000 in
theorem ggX5_pick_X5_moved : GoodIn wsX5_pick wsX5_moved := goodIn_r _ [16, 3, 17, 18, 19, 20, 21, 22, 23, 24, 25, 26] (by decide +kernel) (by decide +kernel)
set_option maxRecDepth 20000 in
theorem gX5_pick_X5_moved : GoodIn wsX5_pick (wsV RX5 52 RX5 yX5_moved wsX5_moved) := goodIn_app (goodIn_of _ (by decide +kernel)) ggX5_pick_X5_moved
theorem dX5_pick_0 : decode cX5_pick 0 = .ok (.aload_n 0, 1) := by decide +kernel
theorem dX5_pick_1 : decode cX5_pick 1 = .ok (.iconst 0, 1) := by decide +kernel
theorem dX5_pick_2 : decode cX5_pick 2 = .ok (.putfield 32, 3) := by decide +kernel
theorem dX5_pick_5 : decode cX5_pick 5 = .ok (.iload_n 1, 1) := by decide +kernel
theorem dX5_pick_6 : decode cX5_pick 6 = .ok (.iconst 0, 1) := by decide +kernel
theorem dX5_pick_7 : decode cX5_pick 7 = .ok (.aload_n 0, 1) := by decide +kernel
theorem dX5_pick_8 : decode cX5_pick 8 = .ok (.getfield 17, 3) := by decide +kernel
theorem dX5_pick_11 : decode cX5_pick 11 = .ok (.iconst 1, 1) := by decide +kernel
theorem dX5_pick_12 : decode cX5_pick 12 = .ok (.iaload, 1) := by decide +kernel
theorem dX5_pick_13 : decode cX5_pick 13 = .ok (.iconst 1, 1) := by decide +kernel
theorem dX5_pick_14 : decode cX5_pick 14 = .ok (.isub, 1) := by decide +kernel
theorem dX5_pick_15 : decode cX5_pick 15 = .ok (.invokestatic 36, 3) := by decide +kernel
theorem dX5_pick_18 : decode cX5_pick 18 = .ok (.ifCond .eq 12, 3) := by decide +kernel
theorem dX5_pick_21 : decode cX5_pick 21 = .ok (.iload_n 2, 1) := by decide +kernel
theorem dX5_pick_22 : decode cX5_pick 22 = .ok (.iconst 0, 1) := by decide +kernel
theorem dX5_pick_23 : decode cX5_pick 23 = .ok (.iconst 2, 1) := by decide +kernel
theorem dX5_pick_24 : decode cX5_pick 24 = .ok (.invokestatic 36, 3) := by decide +kernel
theorem dX5_pick_27 : decode cX5_pick 27 = .ok (.ifCond .ne 9, 3) := by decide +kernel
theorem dX5_pick_30 : decode cX5_pick 30 = .ok (.aload_n 0, 1) := by decide +kernel
theorem dX5_pick_31 : decode cX5_pick 31 = .ok (.iconst 1, 1) := by decide +kernel
theorem dX5_pick_32 : decode cX5_pick 32 = .ok (.invokevirtual 40, 3) := by decide +kernel
theorem dX5_pick_35 : decode cX5_pick 35 = .ok (.ireturn, 1) := by decide +kernel
theorem dX5_pick_36 : decode cX5_pick 36 = .ok (.iload_n 2, 1) := by decide +kernel
theorem dX5_pick_37 : decode cX5_pick 37 = .ok (.ifCond .ne 14, 3) := by decide +kernel
theorem dX5_pick_40 : decode cX5_pick 40 = .ok (.aload_n 0, 1) := by decide +kernel
theorem dX5_pick_41 : decode cX5_pick 41 = .ok (.getfield 22, 3) := by decide +kernel
theorem dX5_pick_44 : decode cX5_pick 44 = .ok (.iconst 1, 1) := by decide +kernel
theorem dX5_pick_45 : decode cX5_pick 45 = .ok (.aaload, 1) := by decide +kernel
theorem dX5_pick_46 : decode cX5_pick 46 = .ok (.iload_n 1, 1) := by decide +kernel
theorem dX5_pick_47 : decode cX5_pick 47 = .ok (.iaload, 1) := by decide +kernel
theorem dX5_pick_48 : decode cX5_pick 48 = .ok (.goto 24, 3) := by decide +kernel
theorem dX5_pick_51 : decode cX5_pick 51 = .ok (.iload_n 2, 1) := by decide +kernel
theorem dX5_pick_52 : decode cX5_pick 52 = .ok (.iconst 1, 1) := by decide +kernel
theorem dX5_pick_53 : decode cX5_pick 53 = .ok (.if_icmp .ne 14, 3) := by decide +kernel
theorem dX5_pick_56 : decode cX5_pick 56 = .ok (.aload_n 0, 1) := by decide +kernel
theorem dX5_pick_57 : decode cX5_pick 57 = .ok (.getfield 25, 3) := by decide +kernel
theorem dX5_pick_60 : decode cX5_pick 60 = .ok (.iconst 1, 1) := by decide +kernel
theorem dX5_pick_61 : decode cX5_pick 61 = .ok (.aaload, 1) := by decide +kernel
theorem dX5_pick_62 : decode cX5_pick 62 = .ok (.iload_n 1, 1) := by decide +kernel
theorem dX5_pick_63 : decode cX5_pick 63 = .ok (.iaload, 1) := by decide +kernel
theorem dX5_pick_64 : decode cX5_pick 64 = .ok (.goto 8, 3) := by decide +kernel
theorem dX5_pick_67 : decode cX5_pick 67 = .ok (.aload_n 0, 1) := by decide +kernel
theorem dX5_pick_68 : decode cX5_pick 68 = .ok (.iload_n 1, 1) := by decide +kernel
theorem dX5_pick_69 : decode cX5_pick 69 = .ok (.invokevirtual 52, 3) := by decide +kernel
theorem dX5_pick_72 : decode cX5_pick 72 = .ok (.ireturn, 1) := by decide +kernel
theorem dX5_lay_0 : decode cX5_lay 0 = .ok (.aload_n 0, 1) := by decide +kernel
theorem dX5_lay_1 : decode cX5_lay 1 = .ok (.getfield 22, 3) := by decide +kernel
theorem dX5_lay_4 : decode cX5_lay 4 = .ok (.iload_n 1, 1) := by decide +kernel
theorem dX5_lay_5 : decode cX5_lay 5 = .ok (.aaload, 1) := by decide +kernel
theorem dX5_lay_6 : decode cX5_lay 6 = .ok (.invokevirtual 55, 3) := by decide +kernel
theorem dX5_lay_9 : decode cX5_lay 9 = .ok (.checkcast 56, 3) := by decide +kernel
theorem dX5_lay_12 : decode cX5_lay 12 = .ok (.astore_n 3, 1) := by decide +kernel
theorem dX5_lay_13 : decode cX5_lay 13 = .ok (.aload_n 0, 1) := by decide +kernel
theorem dX5_lay_14 : decode cX5_lay 14 = .ok (.getfield 25, 3) := by decide +kernel
theorem dX5_lay_17 : decode cX5_lay 17 = .ok (.iload_n 1, 1) := by decide +kernel
theorem dX5_lay_18 : decode cX5_lay 18 = .ok (.aaload, 1) := by decide +kernel
theorem dX5_lay_19 : decode cX5_lay 19 = .ok (.invokevirtual 55, 3) := by decide +kernel
theorem dX5_lay_22 : decode cX5_lay 22 = .ok (.checkcast 56, 3) := by decide +kernel
theorem dX5_lay_25 : decode cX5_lay 25 = .ok (.astore 4, 2) := by decide +kernel
theorem dX5_lay_27 : decode cX5_lay 27 = .ok (.aload_n 0, 1) := by decide +kernel
theorem dX5_lay_28 : decode cX5_lay 28 = .ok (.getfield 17, 3) := by decide +kernel
theorem dX5_lay_31 : decode cX5_lay 31 = .ok (.iload_n 1, 1) := by decide +kernel
theorem dX5_lay_32 : decode cX5_lay 32 = .ok (.aload_n 2, 1) := by decide +kernel
theorem dX5_lay_33 : decode cX5_lay 33 = .ok (.arraylength, 1) := by decide +kernel
theorem dX5_lay_34 : decode cX5_lay 34 = .ok (.iastore, 1) := by decide +kernel
theorem dX5_lay_35 : decode cX5_lay 35 = .ok (.iconst 0, 1) := by decide +kernel
theorem dX5_lay_36 : decode cX5_lay 36 = .ok (.istore 5, 2) := by decide +kernel
theorem dX5_lay_38 : decode cX5_lay 38 = .ok (.iload 5, 2) := by decide +kernel
theorem dX5_lay_40 : decode cX5_lay 40 = .ok (.aload_n 2, 1) := by decide +kernel
theorem dX5_lay_41 : decode cX5_lay 41 = .ok (.arraylength, 1) := by decide +kernel
theorem dX5_lay_42 : decode cX5_lay 42 = .ok (.if_icmp .ge 40, 3) := by decide +kernel
theorem dX5_lay_45 : decode cX5_lay 45 = .ok (.aload_n 0, 1) := by decide +kernel
theorem dX5_lay_46 : decode cX5_lay 46 = .ok (.getfield 22, 3) := by decide +kernel
theorem dX5_lay_49 : decode cX5_lay 49 = .ok (.iload_n 1, 1) := by decide +kernel
theorem dX5_lay_50 : decode cX5_lay 50 = .ok (.aaload, 1) := by decide +kernel
theorem dX5_lay_51 : decode cX5_lay 51 = .ok (.iload 5, 2) := by decide +kernel
theorem dX5_lay_53 : decode cX5_lay 53 = .ok (.aload_n 3, 1) := by decide +kernel
theorem dX5_lay_54 : decode cX5_lay 54 = .ok (.aload_n 2, 1) := by decide +kernel
theorem dX5_lay_55 : decode cX5_lay 55 = .ok (.iload 5, 2) := by decide +kernel
theorem dX5_lay_57 : decode cX5_lay 57 = .ok (.iaload, 1) := by decide +kernel
theorem dX5_lay_58 : decode cX5_lay 58 = .ok (.iaload, 1) := by decide +kernel
theorem dX5_lay_59 : decode cX5_lay 59 = .ok (.iastore, 1) := by decide +kernel
theorem dX5_lay_60 : decode cX5_lay 60 = .ok (.aload_n 0, 1) := by decide +kernel
theorem dX5_lay_61 : decode cX5_lay 61 = .ok (.getfield 25, 3) := by decide +kernel
theorem dX5_lay_64 : decode cX5_lay 64 = .ok (.iload_n 1, 1) := by decide +kernel
theorem dX5_lay_65 : decode cX5_lay 65 = .ok (.aaload, 1) := by decide +kernel
theorem dX5_lay_66 : decode cX5_lay 66 = .ok (.iload 5, 2) := by decide +kernel
theorem dX5_lay_68 : decode cX5_lay 68 = .ok (.aload 4, 2) := by decide +kernel
theorem dX5_lay_70 : decode cX5_lay 70 = .ok (.aload_n 2, 1) := by decide +kernel
theorem dX5_lay_71 : decode cX5_lay 71 = .ok (.iload 5, 2) := by decide +kernel
theorem dX5_lay_73 : decode cX5_lay 73 = .ok (.iaload, 1) := by decide +kernel
theorem dX5_lay_74 : decode cX5_lay 74 = .ok (.iaload, 1) := by decide +kernel
theorem dX5_lay_75 : decode cX5_lay 75 = .ok (.iastore, 1) := by decide +kernel
theorem dX5_lay_76 : decode cX5_lay 76 = .ok (.iinc 5 1, 3) := by decide +kernel
theorem dX5_lay_79 : decode cX5_lay 79 = .ok (.goto (-41), 3) := by decide +kernel
theorem dX5_lay_82 : decode cX5_lay 82 = .ok (.aload_n 2, 1) := by decide +kernel
theorem dX5_lay_83 : decode cX5_lay 83 = .ok (.arraylength, 1) := by decide +kernel
theorem dX5_lay_84 : decode cX5_lay 84 = .ok (.ireturn, 1) := by decide +kernel
set_option maxRecDepth 20000 in
theorem ggX5_reverse_X5_of : GoodIn wsX5_reverse wsX5_of := goodIn_r _ [7] (by decide +kernel) (by decide +kernel)
set_option maxRecDepth 20000 in
theorem gX5_reverse_X5_of : GoodIn wsX5_reverse (va_wsS RX5 48 yX5_of wsX5_of) := goodIn_app (goodIn_of _ (by decide +kernel)) ggX5_reverse_X5_of
set_option maxRecDepth 20000 in
theorem ggX5_reverse_X5_lay : GoodIn wsX5_reverse wsX5_lay := goodIn_r _ [11, 12, 13, 14, 15, 16, 17, 18, 19, 2, 20, 21, 22, 23, 24, 25, 26, 27, 28] (by decide +kernel) (by decide +kernel)
set_option maxRecDepth 20000 in
theorem gX5_reverse_X5_lay : GoodIn wsX5_reverse (wsV RX5 60 RX5 yX5_lay wsX5_lay) := goodIn_app (goodIn_of _ (by decide +kernel)) ggX5_reverse_X5_lay
theorem dX5_reverse_0 : decode cX5_reverse 0 = .ok (.aload_n 0, 1) := by decide +kernel
theorem dX5_reverse_1 : decode cX5_reverse 1 = .ok (.iconst 0, 1) := by decide +kernel
theorem dX5_reverse_2 : decode cX5_reverse 2 = .ok (.putfield 32, 3) := by decide +kernel
theorem dX5_reverse_5 : decode cX5_reverse 5 = .ok (.aload_n 0, 1) := by decide +kernel
theorem dX5_reverse_6 : decode cX5_reverse 6 = .ok (.getfield 17, 3) := by decide +kernel
theorem dX5_reverse_9 : decode cX5_reverse 9 = .ok (.iload_n 1, 1) := by decide +kernel
theorem dX5_reverse_10 : decode cX5_reverse 10 = .ok (.invokestatic 48, 3) := by decide +kernel
theorem dX5_reverse_13 : decode cX5_reverse 13 = .ok (.iaload, 1) := by decide +kernel
theorem dX5_reverse_14 : decode cX5_reverse 14 = .ok (.istore_n 2, 1) := by decide +kernel
theorem dX5_reverse_15 : decode cX5_reverse 15 = .ok (.iload_n 2, 1) := by decide +kernel
theorem dX5_reverse_16 : decode cX5_reverse 16 = .ok (.newarray .int, 2) := by decide +kernel
theorem dX5_reverse_18 : decode cX5_reverse 18 = .ok (.astore_n 3, 1) := by decide +kernel
theorem dX5_reverse_19 : decode cX5_reverse 19 = .ok (.iconst 0, 1) := by decide +kernel
theorem dX5_reverse_20 : decode cX5_reverse 20 = .ok (.istore 4, 2) := by decide +kernel
theorem dX5_reverse_22 : decode cX5_reverse 22 = .ok (.iload 4, 2) := by decide +kernel
theorem dX5_reverse_24 : decode cX5_reverse 24 = .ok (.iload_n 2, 1) := by decide +kernel
theorem dX5_reverse_25 : decode cX5_reverse 25 = .ok (.if_icmp .ge 19, 3) := by decide +kernel
theorem dX5_reverse_28 : decode cX5_reverse 28 = .ok (.aload_n 3, 1) := by decide +kernel
theorem dX5_reverse_29 : decode cX5_reverse 29 = .ok (.iload 4, 2) := by decide +kernel
theorem dX5_reverse_31 : decode cX5_reverse 31 = .ok (.iload_n 2, 1) := by decide +kernel
theorem dX5_reverse_32 : decode cX5_reverse 32 = .ok (.iconst 1, 1) := by decide +kernel
theorem dX5_reverse_33 : decode cX5_reverse 33 = .ok (.isub, 1) := by decide +kernel
theorem dX5_reverse_34 : decode cX5_reverse 34 = .ok (.iload 4, 2) := by decide +kernel
theorem dX5_reverse_36 : decode cX5_reverse 36 = .ok (.isub, 1) := by decide +kernel
theorem dX5_reverse_37 : decode cX5_reverse 37 = .ok (.iastore, 1) := by decide +kernel
theorem dX5_reverse_38 : decode cX5_reverse 38 = .ok (.iinc 4 1, 3) := by decide +kernel
theorem dX5_reverse_41 : decode cX5_reverse 41 = .ok (.goto (-19), 3) := by decide +kernel
theorem dX5_reverse_44 : decode cX5_reverse 44 = .ok (.aload_n 0, 1) := by decide +kernel
theorem dX5_reverse_45 : decode cX5_reverse 45 = .ok (.iload_n 1, 1) := by decide +kernel
theorem dX5_reverse_46 : decode cX5_reverse 46 = .ok (.invokestatic 48, 3) := by decide +kernel
theorem dX5_reverse_49 : decode cX5_reverse 49 = .ok (.aload_n 3, 1) := by decide +kernel
theorem dX5_reverse_50 : decode cX5_reverse 50 = .ok (.invokevirtual 60, 3) := by decide +kernel
theorem dX5_reverse_53 : decode cX5_reverse 53 = .ok (.ireturn, 1) := by decide +kernel
set_option maxRecDepth 20000 in
theorem ggX5_rotate_X5_isIn : GoodIn wsX5_rotate wsX5_isIn := goodIn_r _ [7] (by decide +kernel) (by decide +kernel)
set_option maxRecDepth 20000 in
theorem gX5_rotate_X5_isIn : GoodIn wsX5_rotate (va_wsS RX5 36 yX5_isIn wsX5_isIn) := goodIn_app (goodIn_of _ (by decide +kernel)) ggX5_rotate_X5_isIn
set_option maxRecDepth 20000 in
theorem ggX5_rotate_X5_fail : GoodIn wsX5_rotate wsX5_fail := goodIn_r _ [11, 1, 27, 28, 29, 30, 31, 32, 33, 34, 35] (by decide +kernel) (by decide +kernel)
set_option maxRecDepth 20000 in
theorem gX5_rotate_X5_fail : GoodIn wsX5_rotate (wsV RX5 40 RX5 yX5_fail wsX5_fail) := goodIn_app (goodIn_of _ (by decide +kernel)) ggX5_rotate_X5_fail
set_option maxRecDepth 20000 in
theorem ggX5_rotate_X5_of : GoodIn wsX5_rotate wsX5_of := goodIn_r _ [14] (by decide +kernel) (by decide +kernel)
set_option maxRecDepth 20000 in
theorem gX5_rotate_X5_of : GoodIn wsX5_rotate (va_wsS RX5 48 yX5_of wsX5_of) := goodIn_app (goodIn_of _ (by decide +kernel)) ggX5_rotate_X5_of
set_option maxRecDepth 20000 in
theorem ggX5_rotate_X5_lay : GoodIn wsX5_rotate wsX5_lay := goodIn_r _ [18, 19, 20, 21, 22, 23, 24, 25, 26, 2, 27, 28, 29, 30, 31, 32, 33, 34, 35] (by decide +kernel) (by decide +kernel)
set_option maxRecDepth 20000 in
theorem gX5_rotate_X5_lay : GoodIn wsX5_rotate (wsV RX5 60 RX5 yX5_lay wsX5_lay) := goodIn_app (goodIn_of _ (by decide +kernel)) ggX5_rotate_X5_lay
theorem dX5_rotate_0 : decode cX5_rotate 0 = .ok (.aload_n 0, 1) := by decide +kernel
theorem dX5_rotate_1 : decode cX5_rotate 1 = .ok (.iconst 0, 1) := by decide +kernel
theorem dX5_rotate_2 : decode cX5_rotate 2 = .ok (.putfield 32, 3) := by decide +kernel
theorem dX5_rotate_5 : decode cX5_rotate 5 = .ok (.iload_n 2, 1) := by decide +kernel
theorem dX5_rotate_6 : decode cX5_rotate 6 = .ok (.iconst 0, 1) := by decide +kernel
theorem dX5_rotate_7 : decode cX5_rotate 7 = .ok (.bipush 40, 2) := by decide +kernel
theorem dX5_rotate_9 : decode cX5_rotate 9 = .ok (.invokestatic 36, 3) := by decide +kernel
theorem dX5_rotate_12 : decode cX5_rotate 12 = .ok (.ifCond .ne 9, 3) := by decide +kernel
theorem dX5_rotate_15 : decode cX5_rotate 15 = .ok (.aload_n 0, 1) := by decide +kernel
theorem dX5_rotate_16 : decode cX5_rotate 16 = .ok (.iconst 1, 1) := by decide +kernel
theorem dX5_rotate_17 : decode cX5_rotate 17 = .ok (.invokevirtual 40, 3) := by decide +kernel
theorem dX5_rotate_20 : decode cX5_rotate 20 = .ok (.ireturn, 1) := by decide +kernel
theorem dX5_rotate_21 : decode cX5_rotate 21 = .ok (.aload_n 0, 1) := by decide +kernel
theorem dX5_rotate_22 : decode cX5_rotate 22 = .ok (.getfield 17, 3) := by decide +kernel
theorem dX5_rotate_25 : decode cX5_rotate 25 = .ok (.iload_n 1, 1) := by decide +kernel
theorem dX5_rotate_26 : decode cX5_rotate 26 = .ok (.invokestatic 48, 3) := by decide +kernel
theorem dX5_rotate_29 : decode cX5_rotate 29 = .ok (.iaload, 1) := by decide +kernel
theorem dX5_rotate_30 : decode cX5_rotate 30 = .ok (.istore_n 3, 1) := by decide +kernel
theorem dX5_rotate_31 : decode cX5_rotate 31 = .ok (.iload_n 3, 1) := by decide +kernel
theorem dX5_rotate_32 : decode cX5_rotate 32 = .ok (.newarray .int, 2) := by decide +kernel
theorem dX5_rotate_34 : decode cX5_rotate 34 = .ok (.astore 4, 2) := by decide +kernel
theorem dX5_rotate_36 : decode cX5_rotate 36 = .ok (.iconst 0, 1) := by decide +kernel
theorem dX5_rotate_37 : decode cX5_rotate 37 = .ok (.istore 5, 2) := by decide +kernel
theorem dX5_rotate_39 : decode cX5_rotate 39 = .ok (.iload 5, 2) := by decide +kernel
theorem dX5_rotate_41 : decode cX5_rotate 41 = .ok (.iload_n 3, 1) := by decide +kernel
theorem dX5_rotate_42 : decode cX5_rotate 42 = .ok (.if_icmp .ge 20, 3) := by decide +kernel
theorem dX5_rotate_45 : decode cX5_rotate 45 = .ok (.aload 4, 2) := by decide +kernel
theorem dX5_rotate_47 : decode cX5_rotate 47 = .ok (.iload 5, 2) := by decide +kernel
theorem dX5_rotate_49 : decode cX5_rotate 49 = .ok (.iload_n 2, 1) := by decide +kernel
theorem dX5_rotate_50 : decode cX5_rotate 50 = .ok (.iadd, 1) := by decide +kernel
theorem dX5_rotate_51 : decode cX5_rotate 51 = .ok (.iload_n 3, 1) := by decide +kernel
theorem dX5_rotate_52 : decode cX5_rotate 52 = .ok (.irem, 1) := by decide +kernel
theorem dX5_rotate_53 : decode cX5_rotate 53 = .ok (.iload 5, 2) := by decide +kernel
theorem dX5_rotate_55 : decode cX5_rotate 55 = .ok (.iastore, 1) := by decide +kernel
theorem dX5_rotate_56 : decode cX5_rotate 56 = .ok (.iinc 5 1, 3) := by decide +kernel
theorem dX5_rotate_59 : decode cX5_rotate 59 = .ok (.goto (-20), 3) := by decide +kernel
theorem dX5_rotate_62 : decode cX5_rotate 62 = .ok (.aload_n 0, 1) := by decide +kernel
theorem dX5_rotate_63 : decode cX5_rotate 63 = .ok (.iload_n 1, 1) := by decide +kernel
theorem dX5_rotate_64 : decode cX5_rotate 64 = .ok (.invokestatic 48, 3) := by decide +kernel
theorem dX5_rotate_67 : decode cX5_rotate 67 = .ok (.aload 4, 2) := by decide +kernel
theorem dX5_rotate_69 : decode cX5_rotate 69 = .ok (.invokevirtual 60, 3) := by decide +kernel
theorem dX5_rotate_72 : decode cX5_rotate 72 = .ok (.ireturn, 1) := by decide +kernel
set_option maxRecDepth 20000 in
theorem ggX5_repeat_X5_of : GoodIn wsX5_repeat wsX5_of := goodIn_r _ [7] (by decide +kernel) (by decide +kernel)
set_option maxRecDepth 20000 in
theorem gX5_repeat_X5_of : GoodIn wsX5_repeat (va_wsS RX5 48 yX5_of wsX5_of) := goodIn_app (goodIn_of _ (by decide +kernel)) ggX5_repeat_X5_of
set_option maxRecDepth 20000 in
theorem ggX5_repeat_X5_fail : GoodIn wsX5_repeat wsX5_fail := goodIn_r _ [11, 1, 24, 25, 26, 27, 28, 29, 30, 31, 32] (by decide +kernel) (by decide +kernel)
set_option maxRecDepth 20000 in
theorem gX5_repeat_X5_fail : GoodIn wsX5_repeat (wsV RX5 40 RX5 yX5_fail wsX5_fail) := goodIn_app (goodIn_of _ (by decide +kernel)) ggX5_repeat_X5_fail
set_option maxRecDepth 20000 in
theorem ggX5_repeat_X5_lay : GoodIn wsX5_repeat wsX5_lay := goodIn_r _ [15, 16, 17, 18, 19, 20, 21, 22, 23, 2, 24, 25, 26, 27, 28, 29, 30, 31, 32] (by decide +kernel) (by decide +kernel)
set_option maxRecDepth 20000 in
theorem gX5_repeat_X5_lay : GoodIn wsX5_repeat (wsV RX5 60 RX5 yX5_lay wsX5_lay) := goodIn_app (goodIn_of _ (by decide +kernel)) ggX5_repeat_X5_lay
theorem dX5_repeat_0 : decode cX5_repeat 0 = .ok (.aload_n 0, 1) := by decide +kernel
theorem dX5_repeat_1 : decode cX5_repeat 1 = .ok (.iconst 0, 1) := by decide +kernel
theorem dX5_repeat_2 : decode cX5_repeat 2 = .ok (.putfield 32, 3) := by decide +kernel
theorem dX5_repeat_5 : decode cX5_repeat 5 = .ok (.aload_n 0, 1) := by decide +kernel
theorem dX5_repeat_6 : decode cX5_repeat 6 = .ok (.getfield 17, 3) := by decide +kernel
theorem dX5_repeat_9 : decode cX5_repeat 9 = .ok (.iload_n 1, 1) := by decide +kernel
theorem dX5_repeat_10 : decode cX5_repeat 10 = .ok (.invokestatic 48, 3) := by decide +kernel
theorem dX5_repeat_13 : decode cX5_repeat 13 = .ok (.iaload, 1) := by decide +kernel
theorem dX5_repeat_14 : decode cX5_repeat 14 = .ok (.istore_n 2, 1) := by decide +kernel
theorem dX5_repeat_15 : decode cX5_repeat 15 = .ok (.iconst 2, 1) := by decide +kernel
theorem dX5_repeat_16 : decode cX5_repeat 16 = .ok (.iload_n 2, 1) := by decide +kernel
theorem dX5_repeat_17 : decode cX5_repeat 17 = .ok (.imul, 1) := by decide +kernel
theorem dX5_repeat_18 : decode cX5_repeat 18 = .ok (.bipush 40, 2) := by decide +kernel
theorem dX5_repeat_20 : decode cX5_repeat 20 = .ok (.if_icmp .le 9, 3) := by decide +kernel
theorem dX5_repeat_23 : decode cX5_repeat 23 = .ok (.aload_n 0, 1) := by decide +kernel
theorem dX5_repeat_24 : decode cX5_repeat 24 = .ok (.iconst 1, 1) := by decide +kernel
theorem dX5_repeat_25 : decode cX5_repeat 25 = .ok (.invokevirtual 40, 3) := by decide +kernel
theorem dX5_repeat_28 : decode cX5_repeat 28 = .ok (.ireturn, 1) := by decide +kernel
theorem dX5_repeat_29 : decode cX5_repeat 29 = .ok (.iconst 2, 1) := by decide +kernel
theorem dX5_repeat_30 : decode cX5_repeat 30 = .ok (.iload_n 2, 1) := by decide +kernel
theorem dX5_repeat_31 : decode cX5_repeat 31 = .ok (.imul, 1) := by decide +kernel
theorem dX5_repeat_32 : decode cX5_repeat 32 = .ok (.newarray .int, 2) := by decide +kernel
theorem dX5_repeat_34 : decode cX5_repeat 34 = .ok (.astore_n 3, 1) := by decide +kernel
theorem dX5_repeat_35 : decode cX5_repeat 35 = .ok (.iconst 0, 1) := by decide +kernel
theorem dX5_repeat_36 : decode cX5_repeat 36 = .ok (.istore 4, 2) := by decide +kernel
theorem dX5_repeat_38 : decode cX5_repeat 38 = .ok (.iload 4, 2) := by decide +kernel
theorem dX5_repeat_40 : decode cX5_repeat 40 = .ok (.iconst 2, 1) := by decide +kernel
theorem dX5_repeat_41 : decode cX5_repeat 41 = .ok (.iload_n 2, 1) := by decide +kernel
theorem dX5_repeat_42 : decode cX5_repeat 42 = .ok (.imul, 1) := by decide +kernel
theorem dX5_repeat_43 : decode cX5_repeat 43 = .ok (.if_icmp .ge 17, 3) := by decide +kernel
theorem dX5_repeat_46 : decode cX5_repeat 46 = .ok (.aload_n 3, 1) := by decide +kernel
theorem dX5_repeat_47 : decode cX5_repeat 47 = .ok (.iload 4, 2) := by decide +kernel
theorem dX5_repeat_49 : decode cX5_repeat 49 = .ok (.iload 4, 2) := by decide +kernel
theorem dX5_repeat_51 : decode cX5_repeat 51 = .ok (.iload_n 2, 1) := by decide +kernel
theorem dX5_repeat_52 : decode cX5_repeat 52 = .ok (.irem, 1) := by decide +kernel
theorem dX5_repeat_53 : decode cX5_repeat 53 = .ok (.iastore, 1) := by decide +kernel
theorem dX5_repeat_54 : decode cX5_repeat 54 = .ok (.iinc 4 1, 3) := by decide +kernel
theorem dX5_repeat_57 : decode cX5_repeat 57 = .ok (.goto (-19), 3) := by decide +kernel
theorem dX5_repeat_60 : decode cX5_repeat 60 = .ok (.aload_n 0, 1) := by decide +kernel
theorem dX5_repeat_61 : decode cX5_repeat 61 = .ok (.iload_n 1, 1) := by decide +kernel
theorem dX5_repeat_62 : decode cX5_repeat 62 = .ok (.invokestatic 48, 3) := by decide +kernel
theorem dX5_repeat_65 : decode cX5_repeat 65 = .ok (.aload_n 3, 1) := by decide +kernel
theorem dX5_repeat_66 : decode cX5_repeat 66 = .ok (.invokevirtual 60, 3) := by decide +kernel
theorem dX5_repeat_69 : decode cX5_repeat 69 = .ok (.ireturn, 1) := by decide +kernel
set_option maxRecDepth 20000 in
theorem ggX5_cut_X5_of : GoodIn wsX5_cut wsX5_of := goodIn_r _ [6] (by decide +kernel) (by decide +kernel)
set_option maxRecDepth 20000 in
theorem gX5_cut_X5_of : GoodIn wsX5_cut (va_wsS RX5 48 yX5_of wsX5_of) := goodIn_app (goodIn_of _ (by decide +kernel)) ggX5_cut_X5_of
set_option maxRecDepth 20000 in
theorem ggX5_cut_X5_isIn : GoodIn wsX5_cut wsX5_isIn := goodIn_r _ [9] (by decide +kernel) (by decide +kernel)
set_option maxRecDepth 20000 in
theorem gX5_cut_X5_isIn : GoodIn wsX5_cut (va_wsS RX5 36 yX5_isIn wsX5_isIn) := goodIn_app (goodIn_of _ (by decide +kernel)) ggX5_cut_X5_isIn
set_option maxRecDepth 20000 in
theorem ggX5_cut_X5_fail : GoodIn wsX5_cut wsX5_fail := goodIn_r _ [13, 1, 14, 15, 16, 17, 18, 19, 20, 21, 22] (by decide +kernel) (by decide +kernel)
set_option maxRecDepth 20000 in
theorem gX5_cut_X5_fail : GoodIn wsX5_cut (wsV RX5 40 RX5 yX5_fail wsX5_fail) := goodIn_app (goodIn_of _ (by decide +kernel)) ggX5_cut_X5_fail
theorem dX5_cut_0 : decode cX5_cut 0 = .ok (.aload_n 0, 1) := by decide +kernel
theorem dX5_cut_1 : decode cX5_cut 1 = .ok (.iconst 0, 1) := by decide +kernel
theorem dX5_cut_2 : decode cX5_cut 2 = .ok (.putfield 32, 3) := by decide +kernel
theorem dX5_cut_5 : decode cX5_cut 5 = .ok (.aload_n 0, 1) := by decide +kernel
theorem dX5_cut_6 : decode cX5_cut 6 = .ok (.getfield 17, 3) := by decide +kernel
theorem dX5_cut_9 : decode cX5_cut 9 = .ok (.iload_n 1, 1) := by decide +kernel
theorem dX5_cut_10 : decode cX5_cut 10 = .ok (.invokestatic 48, 3) := by decide +kernel
theorem dX5_cut_13 : decode cX5_cut 13 = .ok (.iaload, 1) := by decide +kernel
theorem dX5_cut_14 : decode cX5_cut 14 = .ok (.istore_n 3, 1) := by decide +kernel
theorem dX5_cut_15 : decode cX5_cut 15 = .ok (.iload_n 2, 1) := by decide +kernel
theorem dX5_cut_16 : decode cX5_cut 16 = .ok (.iconst 0, 1) := by decide +kernel
theorem dX5_cut_17 : decode cX5_cut 17 = .ok (.iload_n 3, 1) := by decide +kernel
theorem dX5_cut_18 : decode cX5_cut 18 = .ok (.invokestatic 36, 3) := by decide +kernel
theorem dX5_cut_21 : decode cX5_cut 21 = .ok (.ifCond .ne 9, 3) := by decide +kernel
theorem dX5_cut_24 : decode cX5_cut 24 = .ok (.aload_n 0, 1) := by decide +kernel
theorem dX5_cut_25 : decode cX5_cut 25 = .ok (.iconst 1, 1) := by decide +kernel
theorem dX5_cut_26 : decode cX5_cut 26 = .ok (.invokevirtual 40, 3) := by decide +kernel
theorem dX5_cut_29 : decode cX5_cut 29 = .ok (.ireturn, 1) := by decide +kernel
theorem dX5_cut_30 : decode cX5_cut 30 = .ok (.aload_n 0, 1) := by decide +kernel
theorem dX5_cut_31 : decode cX5_cut 31 = .ok (.getfield 17, 3) := by decide +kernel
theorem dX5_cut_34 : decode cX5_cut 34 = .ok (.iload_n 1, 1) := by decide +kernel
theorem dX5_cut_35 : decode cX5_cut 35 = .ok (.invokestatic 48, 3) := by decide +kernel
theorem dX5_cut_38 : decode cX5_cut 38 = .ok (.iload_n 2, 1) := by decide +kernel
theorem dX5_cut_39 : decode cX5_cut 39 = .ok (.iastore, 1) := by decide +kernel
theorem dX5_cut_40 : decode cX5_cut 40 = .ok (.iload_n 3, 1) := by decide +kernel
theorem dX5_cut_41 : decode cX5_cut 41 = .ok (.iload_n 2, 1) := by decide +kernel
theorem dX5_cut_42 : decode cX5_cut 42 = .ok (.isub, 1) := by decide +kernel
theorem dX5_cut_43 : decode cX5_cut 43 = .ok (.ireturn, 1) := by decide +kernel
set_option maxRecDepth 20000 in
theorem ggX5_above_X5_moved : GoodIn wsX5_above wsX5_moved := goodIn_r _ [8, 2, 9, 10, 11, 12, 13, 14, 15, 16, 17, 18] (by decide +kernel) (by decide +kernel)
set_option maxRecDepth 20000 in
theorem gX5_above_X5_moved : GoodIn wsX5_above (wsV RX5 52 RX5 yX5_moved wsX5_moved) := goodIn_app (goodIn_of _ (by decide +kernel)) ggX5_above_X5_moved
theorem dX5_above_0 : decode cX5_above 0 = .ok (.aload_n 0, 1) := by decide +kernel
theorem dX5_above_1 : decode cX5_above 1 = .ok (.iload_n 1, 1) := by decide +kernel
theorem dX5_above_2 : decode cX5_above 2 = .ok (.invokevirtual 52, 3) := by decide +kernel
theorem dX5_above_5 : decode cX5_above 5 = .ok (.istore_n 2, 1) := by decide +kernel
theorem dX5_above_6 : decode cX5_above 6 = .ok (.lconst 0, 1) := by decide +kernel
theorem dX5_above_7 : decode cX5_above 7 = .ok (.lstore_n 3, 1) := by decide +kernel
theorem dX5_above_8 : decode cX5_above 8 = .ok (.iconst 0, 1) := by decide +kernel
theorem dX5_above_9 : decode cX5_above 9 = .ok (.istore 5, 2) := by decide +kernel
theorem dX5_above_11 : decode cX5_above 11 = .ok (.iload 5, 2) := by decide +kernel
theorem dX5_above_13 : decode cX5_above 13 = .ok (.aload_n 0, 1) := by decide +kernel
theorem dX5_above_14 : decode cX5_above 14 = .ok (.getfield 17, 3) := by decide +kernel
theorem dX5_above_17 : decode cX5_above 17 = .ok (.iconst 0, 1) := by decide +kernel
theorem dX5_above_18 : decode cX5_above 18 = .ok (.iaload, 1) := by decide +kernel
theorem dX5_above_19 : decode cX5_above 19 = .ok (.if_icmp .ge 45, 3) := by decide +kernel
theorem dX5_above_22 : decode cX5_above 22 = .ok (.iload_n 2, 1) := by decide +kernel
theorem dX5_above_23 : decode cX5_above 23 = .ok (.aload_n 0, 1) := by decide +kernel
theorem dX5_above_24 : decode cX5_above 24 = .ok (.getfield 22, 3) := by decide +kernel
theorem dX5_above_27 : decode cX5_above 27 = .ok (.iconst 0, 1) := by decide +kernel
theorem dX5_above_28 : decode cX5_above 28 = .ok (.aaload, 1) := by decide +kernel
theorem dX5_above_29 : decode cX5_above 29 = .ok (.iload 5, 2) := by decide +kernel
theorem dX5_above_31 : decode cX5_above 31 = .ok (.iaload, 1) := by decide +kernel
theorem dX5_above_32 : decode cX5_above 32 = .ok (.ishr, 1) := by decide +kernel
theorem dX5_above_33 : decode cX5_above 33 = .ok (.iconst 1, 1) := by decide +kernel
theorem dX5_above_34 : decode cX5_above 34 = .ok (.iand, 1) := by decide +kernel
theorem dX5_above_35 : decode cX5_above 35 = .ok (.iconst 1, 1) := by decide +kernel
theorem dX5_above_36 : decode cX5_above 36 = .ok (.if_icmp .ne 7, 3) := by decide +kernel
theorem dX5_above_39 : decode cX5_above 39 = .ok (.iconst 1, 1) := by decide +kernel
theorem dX5_above_40 : decode cX5_above 40 = .ok (.goto 4, 3) := by decide +kernel
theorem dX5_above_43 : decode cX5_above 43 = .ok (.iconst 0, 1) := by decide +kernel
theorem dX5_above_44 : decode cX5_above 44 = .ok (.aload_n 0, 1) := by decide +kernel
theorem dX5_above_45 : decode cX5_above 45 = .ok (.getfield 7, 3) := by decide +kernel
theorem dX5_above_48 : decode cX5_above 48 = .ok (.if_icmp .ne 10, 3) := by decide +kernel
theorem dX5_above_51 : decode cX5_above 51 = .ok (.lload_n 3, 1) := by decide +kernel
theorem dX5_above_52 : decode cX5_above 52 = .ok (.lconst 1, 1) := by decide +kernel
theorem dX5_above_53 : decode cX5_above 53 = .ok (.iload 5, 2) := by decide +kernel
theorem dX5_above_55 : decode cX5_above 55 = .ok (.lshl, 1) := by decide +kernel
theorem dX5_above_56 : decode cX5_above 56 = .ok (.lor, 1) := by decide +kernel
theorem dX5_above_57 : decode cX5_above 57 = .ok (.lstore_n 3, 1) := by decide +kernel
theorem dX5_above_58 : decode cX5_above 58 = .ok (.iinc 5 1, 3) := by decide +kernel
theorem dX5_above_61 : decode cX5_above 61 = .ok (.goto (-50), 3) := by decide +kernel
theorem dX5_above_64 : decode cX5_above 64 = .ok (.lload_n 3, 1) := by decide +kernel
theorem dX5_above_65 : decode cX5_above 65 = .ok (.lreturn, 1) := by decide +kernel
theorem dX5_has_0 : decode cX5_has 0 = .ok (.lload_n 0, 1) := by decide +kernel
theorem dX5_has_1 : decode cX5_has 1 = .ok (.iload_n 2, 1) := by decide +kernel
theorem dX5_has_2 : decode cX5_has 2 = .ok (.lshr, 1) := by decide +kernel
theorem dX5_has_3 : decode cX5_has 3 = .ok (.lconst 1, 1) := by decide +kernel
theorem dX5_has_4 : decode cX5_has 4 = .ok (.land, 1) := by decide +kernel
theorem dX5_has_5 : decode cX5_has 5 = .ok (.lconst 1, 1) := by decide +kernel
theorem dX5_has_6 : decode cX5_has 6 = .ok (.lcmp, 1) := by decide +kernel
theorem dX5_has_7 : decode cX5_has 7 = .ok (.ifCond .ne 7, 3) := by decide +kernel
theorem dX5_has_10 : decode cX5_has 10 = .ok (.iconst 1, 1) := by decide +kernel
theorem dX5_has_11 : decode cX5_has 11 = .ok (.goto 4, 3) := by decide +kernel
theorem dX5_has_14 : decode cX5_has 14 = .ok (.iconst 0, 1) := by decide +kernel
theorem dX5_has_15 : decode cX5_has 15 = .ok (.ireturn, 1) := by decide +kernel
set_option maxRecDepth 20000 in
theorem ggX5_isPlace_X5_isIn : GoodIn wsX5_isPlace wsX5_isIn := goodIn_r _ [5] (by decide +kernel) (by decide +kernel)
set_option maxRecDepth 20000 in
theorem gX5_isPlace_X5_isIn : GoodIn wsX5_isPlace (va_wsS RX5 36 yX5_isIn wsX5_isIn) := goodIn_app (goodIn_of _ (by decide +kernel)) ggX5_isPlace_X5_isIn
theorem dX5_isPlace_0 : decode cX5_isPlace 0 = .ok (.iload_n 1, 1) := by decide +kernel
theorem dX5_isPlace_1 : decode cX5_isPlace 1 = .ok (.iconst 0, 1) := by decide +kernel
theorem dX5_isPlace_2 : decode cX5_isPlace 2 = .ok (.aload_n 0, 1) := by decide +kernel
theorem dX5_isPlace_3 : decode cX5_isPlace 3 = .ok (.getfield 17, 3) := by decide +kernel
theorem dX5_isPlace_6 : decode cX5_isPlace 6 = .ok (.iconst 1, 1) := by decide +kernel
theorem dX5_isPlace_7 : decode cX5_isPlace 7 = .ok (.iaload, 1) := by decide +kernel
theorem dX5_isPlace_8 : decode cX5_isPlace 8 = .ok (.iconst 1, 1) := by decide +kernel
theorem dX5_isPlace_9 : decode cX5_isPlace 9 = .ok (.isub, 1) := by decide +kernel
theorem dX5_isPlace_10 : decode cX5_isPlace 10 = .ok (.invokestatic 36, 3) := by decide +kernel
theorem dX5_isPlace_13 : decode cX5_isPlace 13 = .ok (.ifCond .eq 23, 3) := by decide +kernel
theorem dX5_isPlace_16 : decode cX5_isPlace 16 = .ok (.iload_n 2, 1) := by decide +kernel
theorem dX5_isPlace_17 : decode cX5_isPlace 17 = .ok (.iconst 0, 1) := by decide +kernel
theorem dX5_isPlace_18 : decode cX5_isPlace 18 = .ok (.aload_n 0, 1) := by decide +kernel
theorem dX5_isPlace_19 : decode cX5_isPlace 19 = .ok (.getfield 17, 3) := by decide +kernel
theorem dX5_isPlace_22 : decode cX5_isPlace 22 = .ok (.iconst 0, 1) := by decide +kernel
theorem dX5_isPlace_23 : decode cX5_isPlace 23 = .ok (.iaload, 1) := by decide +kernel
theorem dX5_isPlace_24 : decode cX5_isPlace 24 = .ok (.iconst 1, 1) := by decide +kernel
theorem dX5_isPlace_25 : decode cX5_isPlace 25 = .ok (.isub, 1) := by decide +kernel
theorem dX5_isPlace_26 : decode cX5_isPlace 26 = .ok (.invokestatic 36, 3) := by decide +kernel
theorem dX5_isPlace_29 : decode cX5_isPlace 29 = .ok (.ifCond .eq 7, 3) := by decide +kernel
theorem dX5_isPlace_32 : decode cX5_isPlace 32 = .ok (.iconst 1, 1) := by decide +kernel
theorem dX5_isPlace_33 : decode cX5_isPlace 33 = .ok (.goto 4, 3) := by decide +kernel
theorem dX5_isPlace_36 : decode cX5_isPlace 36 = .ok (.iconst 0, 1) := by decide +kernel
theorem dX5_isPlace_37 : decode cX5_isPlace 37 = .ok (.ireturn, 1) := by decide +kernel
set_option maxRecDepth 20000 in
theorem ggX5_isWarpOnTop_X5_isPlace : GoodIn wsX5_isWarpOnTop wsX5_isPlace := goodIn_r _ [6, 7, 8, 9, 5, 10, 25, 26, 27, 28, 29, 30, 31, 32, 33] (by decide +kernel) (by decide +kernel)
set_option maxRecDepth 20000 in
theorem gX5_isWarpOnTop_X5_isPlace : GoodIn wsX5_isWarpOnTop (wsV RX5 64 RX5 yX5_isPlace wsX5_isPlace) := goodIn_app (goodIn_of _ (by decide +kernel)) ggX5_isWarpOnTop_X5_isPlace
set_option maxRecDepth 20000 in
theorem ggX5_isWarpOnTop_X5_above : GoodIn wsX5_isWarpOnTop wsX5_above := goodIn_r _ [14, 7, 15, 16, 17, 18, 19, 5, 20, 21, 25, 26, 27, 28, 29, 30, 31, 32, 33] (by decide +kernel) (by decide +kernel)
set_option maxRecDepth 20000 in
theorem gX5_isWarpOnTop_X5_above : GoodIn wsX5_isWarpOnTop (wsV RX5 68 RX5 yX5_above wsX5_above) := goodIn_app (goodIn_of _ (by decide +kernel)) ggX5_isWarpOnTop_X5_above
set_option maxRecDepth 20000 in
theorem ggX5_isWarpOnTop_X5_has : GoodIn wsX5_isWarpOnTop wsX5_has := goodIn_r _ [24] (by decide +kernel) (by decide +kernel)
set_option maxRecDepth 20000 in
theorem gX5_isWarpOnTop_X5_has : GoodIn wsX5_isWarpOnTop (va_wsS RX5 72 yX5_has wsX5_has) := goodIn_app (goodIn_of _ (by decide +kernel)) ggX5_isWarpOnTop_X5_has
theorem dX5_isWarpOnTop_0 : decode cX5_isWarpOnTop 0 = .ok (.aload_n 0, 1) := by decide +kernel
theorem dX5_isWarpOnTop_1 : decode cX5_isWarpOnTop 1 = .ok (.aload_n 0, 1) := by decide +kernel
theorem dX5_isWarpOnTop_2 : decode cX5_isWarpOnTop 2 = .ok (.iload_n 1, 1) := by decide +kernel
theorem dX5_isWarpOnTop_3 : decode cX5_isWarpOnTop 3 = .ok (.iload_n 2, 1) := by decide +kernel
theorem dX5_isWarpOnTop_4 : decode cX5_isWarpOnTop 4 = .ok (.invokevirtual 64, 3) := by decide +kernel
theorem dX5_isWarpOnTop_7 : decode cX5_isWarpOnTop 7 = .ok (.ifCond .eq 7, 3) := by decide +kernel
theorem dX5_isWarpOnTop_10 : decode cX5_isWarpOnTop 10 = .ok (.iconst 0, 1) := by decide +kernel
theorem dX5_isWarpOnTop_11 : decode cX5_isWarpOnTop 11 = .ok (.goto 4, 3) := by decide +kernel
theorem dX5_isWarpOnTop_14 : decode cX5_isWarpOnTop 14 = .ok (.iconst 1, 1) := by decide +kernel
theorem dX5_isWarpOnTop_15 : decode cX5_isWarpOnTop 15 = .ok (.putfield 32, 3) := by decide +kernel
theorem dX5_isWarpOnTop_18 : decode cX5_isWarpOnTop 18 = .ok (.aload_n 0, 1) := by decide +kernel
theorem dX5_isWarpOnTop_19 : decode cX5_isWarpOnTop 19 = .ok (.getfield 32, 3) := by decide +kernel
theorem dX5_isWarpOnTop_22 : decode cX5_isWarpOnTop 22 = .ok (.ifCond .ne 19, 3) := by decide +kernel
theorem dX5_isWarpOnTop_25 : decode cX5_isWarpOnTop 25 = .ok (.aload_n 0, 1) := by decide +kernel
theorem dX5_isWarpOnTop_26 : decode cX5_isWarpOnTop 26 = .ok (.iload_n 1, 1) := by decide +kernel
theorem dX5_isWarpOnTop_27 : decode cX5_isWarpOnTop 27 = .ok (.invokevirtual 68, 3) := by decide +kernel
theorem dX5_isWarpOnTop_30 : decode cX5_isWarpOnTop 30 = .ok (.iload_n 2, 1) := by decide +kernel
theorem dX5_isWarpOnTop_31 : decode cX5_isWarpOnTop 31 = .ok (.invokestatic 72, 3) := by decide +kernel
theorem dX5_isWarpOnTop_34 : decode cX5_isWarpOnTop 34 = .ok (.ifCond .eq 7, 3) := by decide +kernel
theorem dX5_isWarpOnTop_37 : decode cX5_isWarpOnTop 37 = .ok (.iconst 1, 1) := by decide +kernel
theorem dX5_isWarpOnTop_38 : decode cX5_isWarpOnTop 38 = .ok (.goto 4, 3) := by decide +kernel
theorem dX5_isWarpOnTop_41 : decode cX5_isWarpOnTop 41 = .ok (.iconst 0, 1) := by decide +kernel
theorem dX5_isWarpOnTop_42 : decode cX5_isWarpOnTop 42 = .ok (.ireturn, 1) := by decide +kernel
set_option maxRecDepth 20000 in
theorem ggX5_colour_X5_isPlace : GoodIn wsX5_colour wsX5_isPlace := goodIn_r _ [7, 8, 9, 10, 6, 11, 30, 31, 32, 33, 34, 35, 36, 37, 38] (by decide +kernel) (by decide +kernel)
set_option maxRecDepth 20000 in
theorem gX5_colour_X5_isPlace : GoodIn wsX5_colour (wsV RX5 64 RX5 yX5_isPlace wsX5_isPlace) := goodIn_app (goodIn_of _ (by decide +kernel)) ggX5_colour_X5_isPlace
set_option maxRecDepth 20000 in
theorem ggX5_colour_X5_fail : GoodIn wsX5_colour wsX5_fail := goodIn_r _ [15, 1, 30, 31, 32, 33, 34, 35, 36, 37, 38] (by decide +kernel) (by decide +kernel)
set_option maxRecDepth 20000 in
theorem gX5_colour_X5_fail : GoodIn wsX5_colour (wsV RX5 40 RX5 yX5_fail wsX5_fail) := goodIn_app (goodIn_of _ (by decide +kernel)) ggX5_colour_X5_fail
set_option maxRecDepth 20000 in
theorem ggX5_colour_X5_above : GoodIn wsX5_colour wsX5_above := goodIn_r _ [19, 8, 20, 21, 22, 23, 24, 6, 25, 26, 30, 31, 32, 33, 34, 35, 36, 37, 38] (by decide +kernel) (by decide +kernel)
set_option maxRecDepth 20000 in
theorem gX5_colour_X5_above : GoodIn wsX5_colour (wsV RX5 68 RX5 yX5_above wsX5_above) := goodIn_app (goodIn_of _ (by decide +kernel)) ggX5_colour_X5_above
set_option maxRecDepth 20000 in
theorem ggX5_colour_X5_has : GoodIn wsX5_colour wsX5_has := goodIn_r _ [29] (by decide +kernel) (by decide +kernel)
set_option maxRecDepth 20000 in
theorem gX5_colour_X5_has : GoodIn wsX5_colour (va_wsS RX5 72 yX5_has wsX5_has) := goodIn_app (goodIn_of _ (by decide +kernel)) ggX5_colour_X5_has
theorem dX5_colour_0 : decode cX5_colour 0 = .ok (.aload_n 0, 1) := by decide +kernel
theorem dX5_colour_1 : decode cX5_colour 1 = .ok (.iconst 0, 1) := by decide +kernel
theorem dX5_colour_2 : decode cX5_colour 2 = .ok (.putfield 32, 3) := by decide +kernel
theorem dX5_colour_5 : decode cX5_colour 5 = .ok (.aload_n 0, 1) := by decide +kernel
theorem dX5_colour_6 : decode cX5_colour 6 = .ok (.iload_n 1, 1) := by decide +kernel
theorem dX5_colour_7 : decode cX5_colour 7 = .ok (.iload_n 2, 1) := by decide +kernel
theorem dX5_colour_8 : decode cX5_colour 8 = .ok (.invokevirtual 64, 3) := by decide +kernel
theorem dX5_colour_11 : decode cX5_colour 11 = .ok (.ifCond .ne 9, 3) := by decide +kernel
theorem dX5_colour_14 : decode cX5_colour 14 = .ok (.aload_n 0, 1) := by decide +kernel
theorem dX5_colour_15 : decode cX5_colour 15 = .ok (.iconst 1, 1) := by decide +kernel
theorem dX5_colour_16 : decode cX5_colour 16 = .ok (.invokevirtual 40, 3) := by decide +kernel
theorem dX5_colour_19 : decode cX5_colour 19 = .ok (.ireturn, 1) := by decide +kernel
theorem dX5_colour_20 : decode cX5_colour 20 = .ok (.aload_n 0, 1) := by decide +kernel
theorem dX5_colour_21 : decode cX5_colour 21 = .ok (.iload_n 1, 1) := by decide +kernel
theorem dX5_colour_22 : decode cX5_colour 22 = .ok (.invokevirtual 68, 3) := by decide +kernel
theorem dX5_colour_25 : decode cX5_colour 25 = .ok (.iload_n 2, 1) := by decide +kernel
theorem dX5_colour_26 : decode cX5_colour 26 = .ok (.invokestatic 72, 3) := by decide +kernel
theorem dX5_colour_29 : decode cX5_colour 29 = .ok (.ifCond .eq 14, 3) := by decide +kernel
theorem dX5_colour_32 : decode cX5_colour 32 = .ok (.aload_n 0, 1) := by decide +kernel
theorem dX5_colour_33 : decode cX5_colour 33 = .ok (.getfield 25, 3) := by decide +kernel
theorem dX5_colour_36 : decode cX5_colour 36 = .ok (.iconst 0, 1) := by decide +kernel
theorem dX5_colour_37 : decode cX5_colour 37 = .ok (.aaload, 1) := by decide +kernel
theorem dX5_colour_38 : decode cX5_colour 38 = .ok (.iload_n 2, 1) := by decide +kernel
theorem dX5_colour_39 : decode cX5_colour 39 = .ok (.iaload, 1) := by decide +kernel
theorem dX5_colour_40 : decode cX5_colour 40 = .ok (.goto 11, 3) := by decide +kernel
theorem dX5_colour_43 : decode cX5_colour 43 = .ok (.aload_n 0, 1) := by decide +kernel
theorem dX5_colour_44 : decode cX5_colour 44 = .ok (.getfield 25, 3) := by decide +kernel
theorem dX5_colour_47 : decode cX5_colour 47 = .ok (.iconst 1, 1) := by decide +kernel
theorem dX5_colour_48 : decode cX5_colour 48 = .ok (.aaload, 1) := by decide +kernel
theorem dX5_colour_49 : decode cX5_colour 49 = .ok (.iload_n 1, 1) := by decide +kernel
theorem dX5_colour_50 : decode cX5_colour 50 = .ok (.iaload, 1) := by decide +kernel
theorem dX5_colour_51 : decode cX5_colour 51 = .ok (.ireturn, 1) := by decide +kernel
set_option maxRecDepth 20000 in
theorem ggX5_floatsOf_X5_above : GoodIn wsX5_floatsOf wsX5_above := goodIn_r _ [11, 1, 12, 13, 14, 15, 16, 10, 17, 18, 25, 26, 27, 28, 29, 30, 31, 32, 33] (by decide +kernel) (by decide +kernel)
set_option maxRecDepth 20000 in
theorem gX5_floatsOf_X5_above : GoodIn wsX5_floatsOf (wsV RX5 68 RX5 yX5_above wsX5_above) := goodIn_app (goodIn_of _ (by decide +kernel)) ggX5_floatsOf_X5_above
set_option maxRecDepth 20000 in
theorem ggX5_floatsOf_X5_of : GoodIn wsX5_floatsOf wsX5_of := goodIn_r _ [21] (by decide +kernel) (by decide +kernel)
set_option maxRecDepth 20000 in
theorem gX5_floatsOf_X5_of : GoodIn wsX5_floatsOf (va_wsS RX5 48 yX5_of wsX5_of) := goodIn_app (goodIn_of _ (by decide +kernel)) ggX5_floatsOf_X5_of
set_option maxRecDepth 20000 in
theorem ggX5_floatsOf_X5_has : GoodIn wsX5_floatsOf wsX5_has := goodIn_r _ [24] (by decide +kernel) (by decide +kernel)
set_option maxRecDepth 20000 in
theorem gX5_floatsOf_X5_has : GoodIn wsX5_floatsOf (va_wsS RX5 72 yX5_has wsX5_has) := goodIn_app (goodIn_of _ (by decide +kernel)) ggX5_floatsOf_X5_has
theorem dX5_floatsOf_0 : decode cX5_floatsOf 0 = .ok (.aload_n 0, 1) := by decide +kernel
theorem dX5_floatsOf_1 : decode cX5_floatsOf 1 = .ok (.getfield 17, 3) := by decide +kernel
theorem dX5_floatsOf_4 : decode cX5_floatsOf 4 = .ok (.iconst 1, 1) := by decide +kernel
theorem dX5_floatsOf_5 : decode cX5_floatsOf 5 = .ok (.iaload, 1) := by decide +kernel
theorem dX5_floatsOf_6 : decode cX5_floatsOf 6 = .ok (.newarray .long, 2) := by decide +kernel
theorem dX5_floatsOf_8 : decode cX5_floatsOf 8 = .ok (.astore 4, 2) := by decide +kernel
theorem dX5_floatsOf_10 : decode cX5_floatsOf 10 = .ok (.iconst 0, 1) := by decide +kernel
theorem dX5_floatsOf_11 : decode cX5_floatsOf 11 = .ok (.istore 5, 2) := by decide +kernel
theorem dX5_floatsOf_13 : decode cX5_floatsOf 13 = .ok (.iload 5, 2) := by decide +kernel
theorem dX5_floatsOf_15 : decode cX5_floatsOf 15 = .ok (.aload_n 0, 1) := by decide +kernel
theorem dX5_floatsOf_16 : decode cX5_floatsOf 16 = .ok (.getfield 17, 3) := by decide +kernel
theorem dX5_floatsOf_19 : decode cX5_floatsOf 19 = .ok (.iconst 1, 1) := by decide +kernel
theorem dX5_floatsOf_20 : decode cX5_floatsOf 20 = .ok (.iaload, 1) := by decide +kernel
theorem dX5_floatsOf_21 : decode cX5_floatsOf 21 = .ok (.if_icmp .ge 20, 3) := by decide +kernel
theorem dX5_floatsOf_24 : decode cX5_floatsOf 24 = .ok (.aload 4, 2) := by decide +kernel
theorem dX5_floatsOf_26 : decode cX5_floatsOf 26 = .ok (.iload 5, 2) := by decide +kernel
theorem dX5_floatsOf_28 : decode cX5_floatsOf 28 = .ok (.aload_n 0, 1) := by decide +kernel
theorem dX5_floatsOf_29 : decode cX5_floatsOf 29 = .ok (.iload 5, 2) := by decide +kernel
theorem dX5_floatsOf_31 : decode cX5_floatsOf 31 = .ok (.invokevirtual 68, 3) := by decide +kernel
theorem dX5_floatsOf_34 : decode cX5_floatsOf 34 = .ok (.lastore, 1) := by decide +kernel
theorem dX5_floatsOf_35 : decode cX5_floatsOf 35 = .ok (.iinc 5 1, 3) := by decide +kernel
theorem dX5_floatsOf_38 : decode cX5_floatsOf 38 = .ok (.goto (-25), 3) := by decide +kernel
theorem dX5_floatsOf_41 : decode cX5_floatsOf 41 = .ok (.aload_n 0, 1) := by decide +kernel
theorem dX5_floatsOf_42 : decode cX5_floatsOf 42 = .ok (.getfield 17, 3) := by decide +kernel
theorem dX5_floatsOf_45 : decode cX5_floatsOf 45 = .ok (.iload_n 1, 1) := by decide +kernel
theorem dX5_floatsOf_46 : decode cX5_floatsOf 46 = .ok (.invokestatic 48, 3) := by decide +kernel
theorem dX5_floatsOf_49 : decode cX5_floatsOf 49 = .ok (.iaload, 1) := by decide +kernel
theorem dX5_floatsOf_50 : decode cX5_floatsOf 50 = .ok (.istore 5, 2) := by decide +kernel
theorem dX5_floatsOf_52 : decode cX5_floatsOf 52 = .ok (.aload_n 0, 1) := by decide +kernel
theorem dX5_floatsOf_53 : decode cX5_floatsOf 53 = .ok (.getfield 17, 3) := by decide +kernel
theorem dX5_floatsOf_56 : decode cX5_floatsOf 56 = .ok (.iload_n 1, 1) := by decide +kernel
theorem dX5_floatsOf_57 : decode cX5_floatsOf 57 = .ok (.ifCond .ne 7, 3) := by decide +kernel
theorem dX5_floatsOf_60 : decode cX5_floatsOf 60 = .ok (.iconst 1, 1) := by decide +kernel
theorem dX5_floatsOf_61 : decode cX5_floatsOf 61 = .ok (.goto 4, 3) := by decide +kernel
theorem dX5_floatsOf_64 : decode cX5_floatsOf 64 = .ok (.iconst 0, 1) := by decide +kernel
theorem dX5_floatsOf_65 : decode cX5_floatsOf 65 = .ok (.invokestatic 48, 3) := by decide +kernel
theorem dX5_floatsOf_68 : decode cX5_floatsOf 68 = .ok (.iaload, 1) := by decide +kernel
theorem dX5_floatsOf_69 : decode cX5_floatsOf 69 = .ok (.istore 6, 2) := by decide +kernel
theorem dX5_floatsOf_71 : decode cX5_floatsOf 71 = .ok (.iconst 0, 1) := by decide +kernel
theorem dX5_floatsOf_72 : decode cX5_floatsOf 72 = .ok (.istore 7, 2) := by decide +kernel
theorem dX5_floatsOf_74 : decode cX5_floatsOf 74 = .ok (.iconst 0, 1) := by decide +kernel
theorem dX5_floatsOf_75 : decode cX5_floatsOf 75 = .ok (.istore 8, 2) := by decide +kernel
theorem dX5_floatsOf_77 : decode cX5_floatsOf 77 = .ok (.iconst 0, 1) := by decide +kernel
theorem dX5_floatsOf_78 : decode cX5_floatsOf 78 = .ok (.istore 9, 2) := by decide +kernel
theorem dX5_floatsOf_80 : decode cX5_floatsOf 80 = .ok (.iload 9, 2) := by decide +kernel
theorem dX5_floatsOf_82 : decode cX5_floatsOf 82 = .ok (.iload 5, 2) := by decide +kernel
theorem dX5_floatsOf_84 : decode cX5_floatsOf 84 = .ok (.if_icmp .ge 118, 3) := by decide +kernel
theorem dX5_floatsOf_87 : decode cX5_floatsOf 87 = .ok (.iconst 0, 1) := by decide +kernel
theorem dX5_floatsOf_88 : decode cX5_floatsOf 88 = .ok (.istore 10, 2) := by decide +kernel
theorem dX5_floatsOf_90 : decode cX5_floatsOf 90 = .ok (.iconst 0, 1) := by decide +kernel
theorem dX5_floatsOf_91 : decode cX5_floatsOf 91 = .ok (.istore 11, 2) := by decide +kernel
theorem dX5_floatsOf_93 : decode cX5_floatsOf 93 = .ok (.iload 11, 2) := by decide +kernel
theorem dX5_floatsOf_95 : decode cX5_floatsOf 95 = .ok (.iload 6, 2) := by decide +kernel
theorem dX5_floatsOf_97 : decode cX5_floatsOf 97 = .ok (.if_icmp .gt 99, 3) := by decide +kernel
theorem dX5_floatsOf_100 : decode cX5_floatsOf 100 = .ok (.iload 11, 2) := by decide +kernel
theorem dX5_floatsOf_102 : decode cX5_floatsOf 102 = .ok (.iload 6, 2) := by decide +kernel
theorem dX5_floatsOf_104 : decode cX5_floatsOf 104 = .ok (.if_icmp .ge 39, 3) := by decide +kernel
theorem dX5_floatsOf_107 : decode cX5_floatsOf 107 = .ok (.aload 4, 2) := by decide +kernel
theorem dX5_floatsOf_109 : decode cX5_floatsOf 109 = .ok (.iload_n 1, 1) := by decide +kernel
theorem dX5_floatsOf_110 : decode cX5_floatsOf 110 = .ok (.ifCond .eq 8, 3) := by decide +kernel
theorem dX5_floatsOf_113 : decode cX5_floatsOf 113 = .ok (.iload 11, 2) := by decide +kernel
theorem dX5_floatsOf_115 : decode cX5_floatsOf 115 = .ok (.goto 5, 3) := by decide +kernel
theorem dX5_floatsOf_118 : decode cX5_floatsOf 118 = .ok (.iload 9, 2) := by decide +kernel
theorem dX5_floatsOf_120 : decode cX5_floatsOf 120 = .ok (.laload, 1) := by decide +kernel
theorem dX5_floatsOf_121 : decode cX5_floatsOf 121 = .ok (.iload_n 1, 1) := by decide +kernel
theorem dX5_floatsOf_122 : decode cX5_floatsOf 122 = .ok (.ifCond .eq 8, 3) := by decide +kernel
theorem dX5_floatsOf_125 : decode cX5_floatsOf 125 = .ok (.iload 9, 2) := by decide +kernel
theorem dX5_floatsOf_127 : decode cX5_floatsOf 127 = .ok (.goto 5, 3) := by decide +kernel
theorem dX5_floatsOf_130 : decode cX5_floatsOf 130 = .ok (.iload 11, 2) := by decide +kernel
theorem dX5_floatsOf_132 : decode cX5_floatsOf 132 = .ok (.invokestatic 72, 3) := by decide +kernel
theorem dX5_floatsOf_135 : decode cX5_floatsOf 135 = .ok (.iload_n 2, 1) := by decide +kernel
theorem dX5_floatsOf_136 : decode cX5_floatsOf 136 = .ok (.if_icmp .ne 7, 3) := by decide +kernel
theorem dX5_floatsOf_139 : decode cX5_floatsOf 139 = .ok (.iconst 1, 1) := by decide +kernel
theorem dX5_floatsOf_140 : decode cX5_floatsOf 140 = .ok (.goto 4, 3) := by decide +kernel
theorem dX5_floatsOf_143 : decode cX5_floatsOf 143 = .ok (.iconst 0, 1) := by decide +kernel
theorem dX5_floatsOf_144 : decode cX5_floatsOf 144 = .ok (.istore 12, 2) := by decide +kernel
theorem dX5_floatsOf_146 : decode cX5_floatsOf 146 = .ok (.iload 12, 2) := by decide +kernel
theorem dX5_floatsOf_148 : decode cX5_floatsOf 148 = .ok (.ifCond .eq 9, 3) := by decide +kernel
theorem dX5_floatsOf_151 : decode cX5_floatsOf 151 = .ok (.iinc 10 1, 3) := by decide +kernel
theorem dX5_floatsOf_154 : decode cX5_floatsOf 154 = .ok (.goto 36, 3) := by decide +kernel
theorem dX5_floatsOf_157 : decode cX5_floatsOf 157 = .ok (.iload 7, 2) := by decide +kernel
theorem dX5_floatsOf_159 : decode cX5_floatsOf 159 = .ok (.iload 10, 2) := by decide +kernel
theorem dX5_floatsOf_161 : decode cX5_floatsOf 161 = .ok (.invokestatic 76, 3) := by decide +kernel
theorem dX5_floatsOf_164 : decode cX5_floatsOf 164 = .ok (.istore 7, 2) := by decide +kernel
theorem dX5_floatsOf_166 : decode cX5_floatsOf 166 = .ok (.iload 8, 2) := by decide +kernel
theorem dX5_floatsOf_168 : decode cX5_floatsOf 168 = .ok (.iload 10, 2) := by decide +kernel
theorem dX5_floatsOf_170 : decode cX5_floatsOf 170 = .ok (.ifCond .le 13, 3) := by decide +kernel
theorem dX5_floatsOf_173 : decode cX5_floatsOf 173 = .ok (.iload 10, 2) := by decide +kernel
theorem dX5_floatsOf_175 : decode cX5_floatsOf 175 = .ok (.iload_n 3, 1) := by decide +kernel
theorem dX5_floatsOf_176 : decode cX5_floatsOf 176 = .ok (.if_icmp .lt 7, 3) := by decide +kernel
theorem dX5_floatsOf_179 : decode cX5_floatsOf 179 = .ok (.iconst 1, 1) := by decide +kernel
theorem dX5_floatsOf_180 : decode cX5_floatsOf 180 = .ok (.goto 4, 3) := by decide +kernel
theorem dX5_floatsOf_183 : decode cX5_floatsOf 183 = .ok (.iconst 0, 1) := by decide +kernel
theorem dX5_floatsOf_184 : decode cX5_floatsOf 184 = .ok (.iadd, 1) := by decide +kernel
theorem dX5_floatsOf_185 : decode cX5_floatsOf 185 = .ok (.istore 8, 2) := by decide +kernel
theorem dX5_floatsOf_187 : decode cX5_floatsOf 187 = .ok (.iconst 0, 1) := by decide +kernel
theorem dX5_floatsOf_188 : decode cX5_floatsOf 188 = .ok (.istore 10, 2) := by decide +kernel
theorem dX5_floatsOf_190 : decode cX5_floatsOf 190 = .ok (.iinc 11 1, 3) := by decide +kernel
theorem dX5_floatsOf_193 : decode cX5_floatsOf 193 = .ok (.goto (-100), 3) := by decide +kernel
theorem dX5_floatsOf_196 : decode cX5_floatsOf 196 = .ok (.iinc 9 1, 3) := by decide +kernel
theorem dX5_floatsOf_199 : decode cX5_floatsOf 199 = .ok (.goto (-119), 3) := by decide +kernel
theorem dX5_floatsOf_202 : decode cX5_floatsOf 202 = .ok (.iload_n 3, 1) := by decide +kernel
theorem dX5_floatsOf_203 : decode cX5_floatsOf 203 = .ok (.ifCond .ne 8, 3) := by decide +kernel
theorem dX5_floatsOf_206 : decode cX5_floatsOf 206 = .ok (.iload 7, 2) := by decide +kernel
theorem dX5_floatsOf_208 : decode cX5_floatsOf 208 = .ok (.goto 5, 3) := by decide +kernel
theorem dX5_floatsOf_211 : decode cX5_floatsOf 211 = .ok (.iload 8, 2) := by decide +kernel
theorem dX5_floatsOf_213 : decode cX5_floatsOf 213 = .ok (.ireturn, 1) := by decide +kernel
set_option maxRecDepth 20000 in
theorem ggX5_longestFloat_X5_floatsOf : GoodIn wsX5_longestFloat wsX5_floatsOf := goodIn_r _ [6, 7, 8, 9, 10, 11, 12, 13, 14, 15, 5, 16, 17, 18, 19, 20, 21, 22, 23, 24, 25, 26, 27, 28, 29, 30, 31, 32, 33, 34, 35, 36, 37, 38] (by decide +kernel) (by decide +kernel)
set_option maxRecDepth 20000 in
theorem gX5_longestFloat_X5_floatsOf : GoodIn wsX5_longestFloat (wsV RX5 82 RX5 yX5_floatsOf wsX5_floatsOf) := goodIn_app (goodIn_of _ (by decide +kernel)) ggX5_longestFloat_X5_floatsOf
theorem dX5_longestFloat_0 : decode cX5_longestFloat 0 = .ok (.aload_n 0, 1) := by decide +kernel
theorem dX5_longestFloat_1 : decode cX5_longestFloat 1 = .ok (.iconst 0, 1) := by decide +kernel
theorem dX5_longestFloat_2 : decode cX5_longestFloat 2 = .ok (.putfield 32, 3) := by decide +kernel
theorem dX5_longestFloat_5 : decode cX5_longestFloat 5 = .ok (.aload_n 0, 1) := by decide +kernel
theorem dX5_longestFloat_6 : decode cX5_longestFloat 6 = .ok (.iload_n 1, 1) := by decide +kernel
theorem dX5_longestFloat_7 : decode cX5_longestFloat 7 = .ok (.iload_n 1, 1) := by decide +kernel
theorem dX5_longestFloat_8 : decode cX5_longestFloat 8 = .ok (.iload_n 2, 1) := by decide +kernel
theorem dX5_longestFloat_9 : decode cX5_longestFloat 9 = .ok (.if_icmp .ne 7, 3) := by decide +kernel
theorem dX5_longestFloat_12 : decode cX5_longestFloat 12 = .ok (.iconst 1, 1) := by decide +kernel
theorem dX5_longestFloat_13 : decode cX5_longestFloat 13 = .ok (.goto 4, 3) := by decide +kernel
theorem dX5_longestFloat_16 : decode cX5_longestFloat 16 = .ok (.iconst 0, 1) := by decide +kernel
theorem dX5_longestFloat_17 : decode cX5_longestFloat 17 = .ok (.iconst 0, 1) := by decide +kernel
theorem dX5_longestFloat_18 : decode cX5_longestFloat 18 = .ok (.invokevirtual 82, 3) := by decide +kernel
theorem dX5_longestFloat_21 : decode cX5_longestFloat 21 = .ok (.ireturn, 1) := by decide +kernel
set_option maxRecDepth 20000 in
theorem ggX5_floats_X5_isIn : GoodIn wsX5_floats wsX5_isIn := goodIn_r _ [5] (by decide +kernel) (by decide +kernel)
set_option maxRecDepth 20000 in
theorem gX5_floats_X5_isIn : GoodIn wsX5_floats (va_wsS RX5 36 yX5_isIn wsX5_isIn) := goodIn_app (goodIn_of _ (by decide +kernel)) ggX5_floats_X5_isIn
set_option maxRecDepth 20000 in
theorem ggX5_floats_X5_floatsOf : GoodIn wsX5_floats wsX5_floatsOf := goodIn_r _ [9, 10, 11, 12, 13, 14, 15, 16, 17, 18, 4, 19, 20, 21, 22, 23, 24, 25, 26, 27, 28, 29, 30, 31, 32, 37, 38, 39, 40, 41, 42, 43, 44, 45] (by decide +kernel) (by decide +kernel)
set_option maxRecDepth 20000 in
theorem gX5_floats_X5_floatsOf : GoodIn wsX5_floats (wsV RX5 82 RX5 yX5_floatsOf wsX5_floatsOf) := goodIn_app (goodIn_of _ (by decide +kernel)) ggX5_floats_X5_floatsOf
set_option maxRecDepth 20000 in
theorem ggX5_floats_X5_fail : GoodIn wsX5_floats wsX5_fail := goodIn_r _ [36, 1, 37, 38, 39, 40, 41, 42, 43, 44, 45] (by decide +kernel) (by decide +kernel)
set_option maxRecDepth 20000 in
theorem gX5_floats_X5_fail : GoodIn wsX5_floats (wsV RX5 40 RX5 yX5_fail wsX5_fail) := goodIn_app (goodIn_of _ (by decide +kernel)) ggX5_floats_X5_fail
theorem dX5_floats_0 : decode cX5_floats 0 = .ok (.aload_n 0, 1) := by decide +kernel
theorem dX5_floats_1 : decode cX5_floats 1 = .ok (.iconst 0, 1) := by decide +kernel
theorem dX5_floats_2 : decode cX5_floats 2 = .ok (.putfield 32, 3) := by decide +kernel
theorem dX5_floats_5 : decode cX5_floats 5 = .ok (.iload_n 2, 1) := by decide +kernel
theorem dX5_floats_6 : decode cX5_floats 6 = .ok (.iconst 1, 1) := by decide +kernel
theorem dX5_floats_7 : decode cX5_floats 7 = .ok (.bipush 40, 2) := by decide +kernel
theorem dX5_floats_9 : decode cX5_floats 9 = .ok (.invokestatic 36, 3) := by decide +kernel
theorem dX5_floats_12 : decode cX5_floats 12 = .ok (.ifCond .eq 13, 3) := by decide +kernel
theorem dX5_floats_15 : decode cX5_floats 15 = .ok (.aload_n 0, 1) := by decide +kernel
theorem dX5_floats_16 : decode cX5_floats 16 = .ok (.iload_n 1, 1) := by decide +kernel
theorem dX5_floats_17 : decode cX5_floats 17 = .ok (.iload_n 1, 1) := by decide +kernel
theorem dX5_floats_18 : decode cX5_floats 18 = .ok (.iload_n 2, 1) := by decide +kernel
theorem dX5_floats_19 : decode cX5_floats 19 = .ok (.invokevirtual 82, 3) := by decide +kernel
theorem dX5_floats_22 : decode cX5_floats 22 = .ok (.goto 8, 3) := by decide +kernel
theorem dX5_floats_25 : decode cX5_floats 25 = .ok (.aload_n 0, 1) := by decide +kernel
theorem dX5_floats_26 : decode cX5_floats 26 = .ok (.iconst 1, 1) := by decide +kernel
theorem dX5_floats_27 : decode cX5_floats 27 = .ok (.invokevirtual 40, 3) := by decide +kernel
theorem dX5_floats_30 : decode cX5_floats 30 = .ok (.ireturn, 1) := by decide +kernel
set_option maxRecDepth 20000 in
theorem ggX5_warpShare_X5_above : GoodIn wsX5_warpShare wsX5_above := goodIn_r _ [7, 2, 8, 9, 10, 11, 12, 6, 13, 14, 22, 23, 24, 25, 26, 27, 28, 29, 30] (by decide +kernel) (by decide +kernel)
set_option maxRecDepth 20000 in
theorem gX5_warpShare_X5_above : GoodIn wsX5_warpShare (wsV RX5 68 RX5 yX5_above wsX5_above) := goodIn_app (goodIn_of _ (by decide +kernel)) ggX5_warpShare_X5_above
set_option maxRecDepth 20000 in
theorem ggX5_warpShare_J13_bitCount_95d88 : GoodIn wsX5_warpShare wsJ13_bitCount_95d88 := goodIn_r _ [18, 19, 20, 21] (by decide +kernel) (by decide +kernel)
set_option maxRecDepth 20000 in
theorem gX5_warpShare_J13_bitCount_95d88 : GoodIn wsX5_warpShare (va_wsS RX5 86 yJ13_bitCount_95d88 wsJ13_bitCount_95d88) := goodIn_app (goodIn_of _ (by decide +kernel)) ggX5_warpShare_J13_bitCount_95d88
theorem dX5_warpShare_0 : decode cX5_warpShare 0 = .ok (.aload_n 0, 1) := by decide +kernel
theorem dX5_warpShare_1 : decode cX5_warpShare 1 = .ok (.iconst 0, 1) := by decide +kernel
theorem dX5_warpShare_2 : decode cX5_warpShare 2 = .ok (.putfield 32, 3) := by decide +kernel
theorem dX5_warpShare_5 : decode cX5_warpShare 5 = .ok (.iconst 0, 1) := by decide +kernel
theorem dX5_warpShare_6 : decode cX5_warpShare 6 = .ok (.istore_n 1, 1) := by decide +kernel
theorem dX5_warpShare_7 : decode cX5_warpShare 7 = .ok (.iconst 0, 1) := by decide +kernel
theorem dX5_warpShare_8 : decode cX5_warpShare 8 = .ok (.istore_n 2, 1) := by decide +kernel
theorem dX5_warpShare_9 : decode cX5_warpShare 9 = .ok (.iload_n 2, 1) := by decide +kernel
theorem dX5_warpShare_10 : decode cX5_warpShare 10 = .ok (.aload_n 0, 1) := by decide +kernel
theorem dX5_warpShare_11 : decode cX5_warpShare 11 = .ok (.getfield 17, 3) := by decide +kernel
theorem dX5_warpShare_14 : decode cX5_warpShare 14 = .ok (.iconst 1, 1) := by decide +kernel
theorem dX5_warpShare_15 : decode cX5_warpShare 15 = .ok (.iaload, 1) := by decide +kernel
theorem dX5_warpShare_16 : decode cX5_warpShare 16 = .ok (.if_icmp .ge 20, 3) := by decide +kernel
theorem dX5_warpShare_19 : decode cX5_warpShare 19 = .ok (.iload_n 1, 1) := by decide +kernel
theorem dX5_warpShare_20 : decode cX5_warpShare 20 = .ok (.aload_n 0, 1) := by decide +kernel
theorem dX5_warpShare_21 : decode cX5_warpShare 21 = .ok (.iload_n 2, 1) := by decide +kernel
theorem dX5_warpShare_22 : decode cX5_warpShare 22 = .ok (.invokevirtual 68, 3) := by decide +kernel
theorem dX5_warpShare_25 : decode cX5_warpShare 25 = .ok (.invokestatic 86, 3) := by decide +kernel
theorem dX5_warpShare_28 : decode cX5_warpShare 28 = .ok (.iadd, 1) := by decide +kernel
theorem dX5_warpShare_29 : decode cX5_warpShare 29 = .ok (.istore_n 1, 1) := by decide +kernel
theorem dX5_warpShare_30 : decode cX5_warpShare 30 = .ok (.iinc 2 1, 3) := by decide +kernel
theorem dX5_warpShare_33 : decode cX5_warpShare 33 = .ok (.goto (-24), 3) := by decide +kernel
theorem dX5_warpShare_36 : decode cX5_warpShare 36 = .ok (.aload_n 0, 1) := by decide +kernel
theorem dX5_warpShare_37 : decode cX5_warpShare 37 = .ok (.getfield 17, 3) := by decide +kernel
theorem dX5_warpShare_40 : decode cX5_warpShare 40 = .ok (.iconst 0, 1) := by decide +kernel
theorem dX5_warpShare_41 : decode cX5_warpShare 41 = .ok (.iaload, 1) := by decide +kernel
theorem dX5_warpShare_42 : decode cX5_warpShare 42 = .ok (.aload_n 0, 1) := by decide +kernel
theorem dX5_warpShare_43 : decode cX5_warpShare 43 = .ok (.getfield 17, 3) := by decide +kernel
theorem dX5_warpShare_46 : decode cX5_warpShare 46 = .ok (.iconst 1, 1) := by decide +kernel
theorem dX5_warpShare_47 : decode cX5_warpShare 47 = .ok (.iaload, 1) := by decide +kernel
theorem dX5_warpShare_48 : decode cX5_warpShare 48 = .ok (.imul, 1) := by decide +kernel
theorem dX5_warpShare_49 : decode cX5_warpShare 49 = .ok (.istore_n 2, 1) := by decide +kernel
theorem dX5_warpShare_50 : decode cX5_warpShare 50 = .ok (.iload_n 2, 1) := by decide +kernel
theorem dX5_warpShare_51 : decode cX5_warpShare 51 = .ok (.ifCond .ne 7, 3) := by decide +kernel
theorem dX5_warpShare_54 : decode cX5_warpShare 54 = .ok (.dconst 0, 1) := by decide +kernel
theorem dX5_warpShare_55 : decode cX5_warpShare 55 = .ok (.goto 8, 3) := by decide +kernel
theorem dX5_warpShare_58 : decode cX5_warpShare 58 = .ok (.iload_n 1, 1) := by decide +kernel
theorem dX5_warpShare_59 : decode cX5_warpShare 59 = .ok (.i2d, 1) := by decide +kernel
theorem dX5_warpShare_60 : decode cX5_warpShare 60 = .ok (.iload_n 2, 1) := by decide +kernel
theorem dX5_warpShare_61 : decode cX5_warpShare 61 = .ok (.i2d, 1) := by decide +kernel
theorem dX5_warpShare_62 : decode cX5_warpShare 62 = .ok (.ddiv, 1) := by decide +kernel
theorem dX5_warpShare_63 : decode cX5_warpShare 63 = .ok (.dreturn, 1) := by decide +kernel
set_option maxRecDepth 20000 in
theorem ggX5_period_X5_of : GoodIn wsX5_period wsX5_of := goodIn_r _ [8] (by decide +kernel) (by decide +kernel)
set_option maxRecDepth 20000 in
theorem gX5_period_X5_of : GoodIn wsX5_period (va_wsS RX5 48 yX5_of wsX5_of) := goodIn_app (goodIn_of _ (by decide +kernel)) ggX5_period_X5_of
theorem dX5_period_0 : decode cX5_period 0 = .ok (.aload_n 0, 1) := by decide +kernel
theorem dX5_period_1 : decode cX5_period 1 = .ok (.iconst 0, 1) := by decide +kernel
theorem dX5_period_2 : decode cX5_period 2 = .ok (.putfield 32, 3) := by decide +kernel
theorem dX5_period_5 : decode cX5_period 5 = .ok (.iload_n 1, 1) := by decide +kernel
theorem dX5_period_6 : decode cX5_period 6 = .ok (.invokestatic 48, 3) := by decide +kernel
theorem dX5_period_9 : decode cX5_period 9 = .ok (.istore_n 2, 1) := by decide +kernel
theorem dX5_period_10 : decode cX5_period 10 = .ok (.aload_n 0, 1) := by decide +kernel
theorem dX5_period_11 : decode cX5_period 11 = .ok (.getfield 17, 3) := by decide +kernel
theorem dX5_period_14 : decode cX5_period 14 = .ok (.iload_n 2, 1) := by decide +kernel
theorem dX5_period_15 : decode cX5_period 15 = .ok (.iaload, 1) := by decide +kernel
theorem dX5_period_16 : decode cX5_period 16 = .ok (.istore_n 3, 1) := by decide +kernel
theorem dX5_period_17 : decode cX5_period 17 = .ok (.iconst 1, 1) := by decide +kernel
theorem dX5_period_18 : decode cX5_period 18 = .ok (.istore 4, 2) := by decide +kernel
theorem dX5_period_20 : decode cX5_period 20 = .ok (.iload 4, 2) := by decide +kernel
theorem dX5_period_22 : decode cX5_period 22 = .ok (.iload_n 3, 1) := by decide +kernel
theorem dX5_period_23 : decode cX5_period 23 = .ok (.if_icmp .gt 96, 3) := by decide +kernel
theorem dX5_period_26 : decode cX5_period 26 = .ok (.iconst 1, 1) := by decide +kernel
theorem dX5_period_27 : decode cX5_period 27 = .ok (.istore 5, 2) := by decide +kernel
theorem dX5_period_29 : decode cX5_period 29 = .ok (.iload 4, 2) := by decide +kernel
theorem dX5_period_31 : decode cX5_period 31 = .ok (.istore 6, 2) := by decide +kernel
theorem dX5_period_33 : decode cX5_period 33 = .ok (.iload 6, 2) := by decide +kernel
theorem dX5_period_35 : decode cX5_period 35 = .ok (.iload_n 3, 1) := by decide +kernel
theorem dX5_period_36 : decode cX5_period 36 = .ok (.if_icmp .ge 69, 3) := by decide +kernel
theorem dX5_period_39 : decode cX5_period 39 = .ok (.iload 5, 2) := by decide +kernel
theorem dX5_period_41 : decode cX5_period 41 = .ok (.ifCond .eq 64, 3) := by decide +kernel
theorem dX5_period_44 : decode cX5_period 44 = .ok (.aload_n 0, 1) := by decide +kernel
theorem dX5_period_45 : decode cX5_period 45 = .ok (.getfield 22, 3) := by decide +kernel
theorem dX5_period_48 : decode cX5_period 48 = .ok (.iload_n 2, 1) := by decide +kernel
theorem dX5_period_49 : decode cX5_period 49 = .ok (.aaload, 1) := by decide +kernel
theorem dX5_period_50 : decode cX5_period 50 = .ok (.iload 6, 2) := by decide +kernel
theorem dX5_period_52 : decode cX5_period 52 = .ok (.iaload, 1) := by decide +kernel
theorem dX5_period_53 : decode cX5_period 53 = .ok (.aload_n 0, 1) := by decide +kernel
theorem dX5_period_54 : decode cX5_period 54 = .ok (.getfield 22, 3) := by decide +kernel
theorem dX5_period_57 : decode cX5_period 57 = .ok (.iload_n 2, 1) := by decide +kernel
theorem dX5_period_58 : decode cX5_period 58 = .ok (.aaload, 1) := by decide +kernel
theorem dX5_period_59 : decode cX5_period 59 = .ok (.iload 6, 2) := by decide +kernel
theorem dX5_period_61 : decode cX5_period 61 = .ok (.iload 4, 2) := by decide +kernel
theorem dX5_period_63 : decode cX5_period 63 = .ok (.isub, 1) := by decide +kernel
theorem dX5_period_64 : decode cX5_period 64 = .ok (.iaload, 1) := by decide +kernel
theorem dX5_period_65 : decode cX5_period 65 = .ok (.if_icmp .ne 31, 3) := by decide +kernel
theorem dX5_period_68 : decode cX5_period 68 = .ok (.aload_n 0, 1) := by decide +kernel
theorem dX5_period_69 : decode cX5_period 69 = .ok (.getfield 25, 3) := by decide +kernel
theorem dX5_period_72 : decode cX5_period 72 = .ok (.iload_n 2, 1) := by decide +kernel
theorem dX5_period_73 : decode cX5_period 73 = .ok (.aaload, 1) := by decide +kernel
theorem dX5_period_74 : decode cX5_period 74 = .ok (.iload 6, 2) := by decide +kernel
theorem dX5_period_76 : decode cX5_period 76 = .ok (.iaload, 1) := by decide +kernel
theorem dX5_period_77 : decode cX5_period 77 = .ok (.aload_n 0, 1) := by decide +kernel
theorem dX5_period_78 : decode cX5_period 78 = .ok (.getfield 25, 3) := by decide +kernel
theorem dX5_period_81 : decode cX5_period 81 = .ok (.iload_n 2, 1) := by decide +kernel
theorem dX5_period_82 : decode cX5_period 82 = .ok (.aaload, 1) := by decide +kernel
theorem dX5_period_83 : decode cX5_period 83 = .ok (.iload 6, 2) := by decide +kernel
theorem dX5_period_85 : decode cX5_period 85 = .ok (.iload 4, 2) := by decide +kernel
theorem dX5_period_87 : decode cX5_period 87 = .ok (.isub, 1) := by decide +kernel
theorem dX5_period_88 : decode cX5_period 88 = .ok (.iaload, 1) := by decide +kernel
theorem dX5_period_89 : decode cX5_period 89 = .ok (.if_icmp .ne 7, 3) := by decide +kernel
theorem dX5_period_92 : decode cX5_period 92 = .ok (.iconst 1, 1) := by decide +kernel
theorem dX5_period_93 : decode cX5_period 93 = .ok (.goto 4, 3) := by decide +kernel
theorem dX5_period_96 : decode cX5_period 96 = .ok (.iconst 0, 1) := by decide +kernel
theorem dX5_period_97 : decode cX5_period 97 = .ok (.istore 5, 2) := by decide +kernel
theorem dX5_period_99 : decode cX5_period 99 = .ok (.iinc 6 1, 3) := by decide +kernel
theorem dX5_period_102 : decode cX5_period 102 = .ok (.goto (-69), 3) := by decide +kernel
theorem dX5_period_105 : decode cX5_period 105 = .ok (.iload 5, 2) := by decide +kernel
theorem dX5_period_107 : decode cX5_period 107 = .ok (.ifCond .eq 6, 3) := by decide +kernel
theorem dX5_period_110 : decode cX5_period 110 = .ok (.iload 4, 2) := by decide +kernel
theorem dX5_period_112 : decode cX5_period 112 = .ok (.ireturn, 1) := by decide +kernel
theorem dX5_period_113 : decode cX5_period 113 = .ok (.iinc 4 1, 3) := by decide +kernel
theorem dX5_period_116 : decode cX5_period 116 = .ok (.goto (-96), 3) := by decide +kernel
theorem dX5_period_119 : decode cX5_period 119 = .ok (.iconst 0, 1) := by decide +kernel
theorem dX5_period_120 : decode cX5_period 120 = .ok (.ireturn, 1) := by decide +kernel
set_option maxRecDepth 20000 in
theorem ggX5_spread_X5_has : GoodIn wsX5_spread wsX5_has := goodIn_r _ [7] (by decide +kernel) (by decide +kernel)
set_option maxRecDepth 20000 in
theorem gX5_spread_X5_has : GoodIn wsX5_spread (va_wsS RX5 72 yX5_has wsX5_has) := goodIn_app (goodIn_of _ (by decide +kernel)) ggX5_spread_X5_has
theorem dX5_spread_0 : decode cX5_spread 0 = .ok (.iload_n 1, 1) := by decide +kernel
theorem dX5_spread_1 : decode cX5_spread 1 = .ok (.ifCond .eq 9, 3) := by decide +kernel
theorem dX5_spread_4 : decode cX5_spread 4 = .ok (.lconst 1, 1) := by decide +kernel
theorem dX5_spread_5 : decode cX5_spread 5 = .ok (.iload_n 2, 1) := by decide +kernel
theorem dX5_spread_6 : decode cX5_spread 6 = .ok (.lshl, 1) := by decide +kernel
theorem dX5_spread_7 : decode cX5_spread 7 = .ok (.goto 4, 3) := by decide +kernel
theorem dX5_spread_10 : decode cX5_spread 10 = .ok (.lconst 0, 1) := by decide +kernel
theorem dX5_spread_11 : decode cX5_spread 11 = .ok (.lstore 4, 2) := by decide +kernel
theorem dX5_spread_13 : decode cX5_spread 13 = .ok (.iload_n 1, 1) := by decide +kernel
theorem dX5_spread_14 : decode cX5_spread 14 = .ok (.ifCond .eq 7, 3) := by decide +kernel
theorem dX5_spread_17 : decode cX5_spread 17 = .ok (.lconst 0, 1) := by decide +kernel
theorem dX5_spread_18 : decode cX5_spread 18 = .ok (.goto 6, 3) := by decide +kernel
theorem dX5_spread_21 : decode cX5_spread 21 = .ok (.lconst 1, 1) := by decide +kernel
theorem dX5_spread_22 : decode cX5_spread 22 = .ok (.iload_n 2, 1) := by decide +kernel
theorem dX5_spread_23 : decode cX5_spread 23 = .ok (.lshl, 1) := by decide +kernel
theorem dX5_spread_24 : decode cX5_spread 24 = .ok (.lstore 6, 2) := by decide +kernel
theorem dX5_spread_26 : decode cX5_spread 26 = .ok (.lconst 1, 1) := by decide +kernel
theorem dX5_spread_27 : decode cX5_spread 27 = .ok (.aload_n 0, 1) := by decide +kernel
theorem dX5_spread_28 : decode cX5_spread 28 = .ok (.getfield 17, 3) := by decide +kernel
theorem dX5_spread_31 : decode cX5_spread 31 = .ok (.iconst 0, 1) := by decide +kernel
theorem dX5_spread_32 : decode cX5_spread 32 = .ok (.iaload, 1) := by decide +kernel
theorem dX5_spread_33 : decode cX5_spread 33 = .ok (.lshl, 1) := by decide +kernel
theorem dX5_spread_34 : decode cX5_spread 34 = .ok (.lconst 1, 1) := by decide +kernel
theorem dX5_spread_35 : decode cX5_spread 35 = .ok (.lsub, 1) := by decide +kernel
theorem dX5_spread_36 : decode cX5_spread 36 = .ok (.lstore 8, 2) := by decide +kernel
theorem dX5_spread_38 : decode cX5_spread 38 = .ok (.iconst 1, 1) := by decide +kernel
theorem dX5_spread_39 : decode cX5_spread 39 = .ok (.istore 10, 2) := by decide +kernel
theorem dX5_spread_41 : decode cX5_spread 41 = .ok (.iload 10, 2) := by decide +kernel
theorem dX5_spread_43 : decode cX5_spread 43 = .ok (.ifCond .eq 104, 3) := by decide +kernel
theorem dX5_spread_46 : decode cX5_spread 46 = .ok (.lload 4, 2) := by decide +kernel
theorem dX5_spread_48 : decode cX5_spread 48 = .ok (.lstore 11, 2) := by decide +kernel
theorem dX5_spread_50 : decode cX5_spread 50 = .ok (.lload 6, 2) := by decide +kernel
theorem dX5_spread_52 : decode cX5_spread 52 = .ok (.lstore 13, 2) := by decide +kernel
theorem dX5_spread_54 : decode cX5_spread 54 = .ok (.iconst 0, 1) := by decide +kernel
theorem dX5_spread_55 : decode cX5_spread 55 = .ok (.istore 15, 2) := by decide +kernel
theorem dX5_spread_57 : decode cX5_spread 57 = .ok (.iload 15, 2) := by decide +kernel
theorem dX5_spread_59 : decode cX5_spread 59 = .ok (.aload_n 0, 1) := by decide +kernel
theorem dX5_spread_60 : decode cX5_spread 60 = .ok (.getfield 17, 3) := by decide +kernel
theorem dX5_spread_63 : decode cX5_spread 63 = .ok (.iconst 1, 1) := by decide +kernel
theorem dX5_spread_64 : decode cX5_spread 64 = .ok (.iaload, 1) := by decide +kernel
theorem dX5_spread_65 : decode cX5_spread 65 = .ok (.if_icmp .ge 56, 3) := by decide +kernel
theorem dX5_spread_68 : decode cX5_spread 68 = .ok (.aload_n 3, 1) := by decide +kernel
theorem dX5_spread_69 : decode cX5_spread 69 = .ok (.iload 15, 2) := by decide +kernel
theorem dX5_spread_71 : decode cX5_spread 71 = .ok (.laload, 1) := by decide +kernel
theorem dX5_spread_72 : decode cX5_spread 72 = .ok (.lload 4, 2) := by decide +kernel
theorem dX5_spread_74 : decode cX5_spread 74 = .ok (.land, 1) := by decide +kernel
theorem dX5_spread_75 : decode cX5_spread 75 = .ok (.lconst 0, 1) := by decide +kernel
theorem dX5_spread_76 : decode cX5_spread 76 = .ok (.lcmp, 1) := by decide +kernel
theorem dX5_spread_77 : decode cX5_spread 77 = .ok (.ifCond .eq 12, 3) := by decide +kernel
theorem dX5_spread_80 : decode cX5_spread 80 = .ok (.lload 6, 2) := by decide +kernel
theorem dX5_spread_82 : decode cX5_spread 82 = .ok (.lconst 1, 1) := by decide +kernel
theorem dX5_spread_83 : decode cX5_spread 83 = .ok (.iload 15, 2) := by decide +kernel
theorem dX5_spread_85 : decode cX5_spread 85 = .ok (.lshl, 1) := by decide +kernel
theorem dX5_spread_86 : decode cX5_spread 86 = .ok (.lor, 1) := by decide +kernel
theorem dX5_spread_87 : decode cX5_spread 87 = .ok (.lstore 6, 2) := by decide +kernel
theorem dX5_spread_89 : decode cX5_spread 89 = .ok (.lload 6, 2) := by decide +kernel
theorem dX5_spread_91 : decode cX5_spread 91 = .ok (.iload 15, 2) := by decide +kernel
theorem dX5_spread_93 : decode cX5_spread 93 = .ok (.invokestatic 72, 3) := by decide +kernel
theorem dX5_spread_96 : decode cX5_spread 96 = .ok (.ifCond .eq 19, 3) := by decide +kernel
theorem dX5_spread_99 : decode cX5_spread 99 = .ok (.lload 4, 2) := by decide +kernel
theorem dX5_spread_101 : decode cX5_spread 101 = .ok (.lload 8, 2) := by decide +kernel
theorem dX5_spread_103 : decode cX5_spread 103 = .ok (.aload_n 3, 1) := by decide +kernel
theorem dX5_spread_104 : decode cX5_spread 104 = .ok (.iload 15, 2) := by decide +kernel
theorem dX5_spread_106 : decode cX5_spread 106 = .ok (.laload, 1) := by decide +kernel
theorem dX5_spread_107 : decode cX5_spread 107 = .ok (.ldc2_w 92, 3) := by decide +kernel
theorem dX5_spread_110 : decode cX5_spread 110 = .ok (.lxor, 1) := by decide +kernel
theorem dX5_spread_111 : decode cX5_spread 111 = .ok (.land, 1) := by decide +kernel
theorem dX5_spread_112 : decode cX5_spread 112 = .ok (.lor, 1) := by decide +kernel
theorem dX5_spread_113 : decode cX5_spread 113 = .ok (.lstore 4, 2) := by decide +kernel
theorem dX5_spread_115 : decode cX5_spread 115 = .ok (.iinc 15 1, 3) := by decide +kernel
theorem dX5_spread_118 : decode cX5_spread 118 = .ok (.goto (-61), 3) := by decide +kernel
theorem dX5_spread_121 : decode cX5_spread 121 = .ok (.lload 4, 2) := by decide +kernel
theorem dX5_spread_123 : decode cX5_spread 123 = .ok (.lload 11, 2) := by decide +kernel
theorem dX5_spread_125 : decode cX5_spread 125 = .ok (.lcmp, 1) := by decide +kernel
theorem dX5_spread_126 : decode cX5_spread 126 = .ok (.ifCond .ne 11, 3) := by decide +kernel
theorem dX5_spread_129 : decode cX5_spread 129 = .ok (.lload 6, 2) := by decide +kernel
theorem dX5_spread_131 : decode cX5_spread 131 = .ok (.lload 13, 2) := by decide +kernel
theorem dX5_spread_133 : decode cX5_spread 133 = .ok (.lcmp, 1) := by decide +kernel
theorem dX5_spread_134 : decode cX5_spread 134 = .ok (.ifCond .eq 7, 3) := by decide +kernel
theorem dX5_spread_137 : decode cX5_spread 137 = .ok (.iconst 1, 1) := by decide +kernel
theorem dX5_spread_138 : decode cX5_spread 138 = .ok (.goto 4, 3) := by decide +kernel
theorem dX5_spread_141 : decode cX5_spread 141 = .ok (.iconst 0, 1) := by decide +kernel
theorem dX5_spread_142 : decode cX5_spread 142 = .ok (.istore 10, 2) := by decide +kernel
theorem dX5_spread_144 : decode cX5_spread 144 = .ok (.goto (-103), 3) := by decide +kernel
theorem dX5_spread_147 : decode cX5_spread 147 = .ok (.iconst 2, 1) := by decide +kernel
theorem dX5_spread_148 : decode cX5_spread 148 = .ok (.newarray .long, 2) := by decide +kernel
theorem dX5_spread_150 : decode cX5_spread 150 = .ok (.dup, 1) := by decide +kernel
theorem dX5_spread_151 : decode cX5_spread 151 = .ok (.iconst 0, 1) := by decide +kernel
theorem dX5_spread_152 : decode cX5_spread 152 = .ok (.lload 4, 2) := by decide +kernel
theorem dX5_spread_154 : decode cX5_spread 154 = .ok (.lastore, 1) := by decide +kernel
theorem dX5_spread_155 : decode cX5_spread 155 = .ok (.dup, 1) := by decide +kernel
theorem dX5_spread_156 : decode cX5_spread 156 = .ok (.iconst 1, 1) := by decide +kernel
theorem dX5_spread_157 : decode cX5_spread 157 = .ok (.lload 6, 2) := by decide +kernel
theorem dX5_spread_159 : decode cX5_spread 159 = .ok (.lastore, 1) := by decide +kernel
theorem dX5_spread_160 : decode cX5_spread 160 = .ok (.areturn, 1) := by decide +kernel
set_option maxRecDepth 20000 in
theorem ggX5_layersOf_X5_above : GoodIn wsX5_layersOf wsX5_above := goodIn_r _ [8, 1, 9, 10, 11, 12, 13, 7, 14, 15, 28, 29, 30, 31, 32, 33, 34, 35, 36] (by decide +kernel) (by decide +kernel)
set_option maxRecDepth 20000 in
theorem gX5_layersOf_X5_above : GoodIn wsX5_layersOf (wsV RX5 68 RX5 yX5_above wsX5_above) := goodIn_app (goodIn_of _ (by decide +kernel)) ggX5_layersOf_X5_above
set_option maxRecDepth 20000 in
theorem ggX5_layersOf_X5_spread : GoodIn wsX5_layersOf wsX5_spread := goodIn_r _ [19, 1, 20, 2, 21, 22, 7, 23, 28, 29, 30, 31, 32, 33, 34, 35, 36] (by decide +kernel) (by decide +kernel)
set_option maxRecDepth 20000 in
theorem gX5_layersOf_X5_spread : GoodIn wsX5_layersOf (wsV RX5 95 RX5 yX5_spread wsX5_spread) := goodIn_app (goodIn_of _ (by decide +kernel)) ggX5_layersOf_X5_spread
set_option maxRecDepth 20000 in
theorem ggX5_layersOf_X5_leads : GoodIn wsX5_layersOf wsX5_leads := goodIn_r _ [27, 1, 21, 22, 7, 23, 28, 29, 30, 31, 32, 33, 34, 35, 36] (by decide +kernel) (by decide +kernel)
set_option maxRecDepth 20000 in
theorem gX5_layersOf_X5_leads : GoodIn wsX5_layersOf (wsV RX5 99 RX5 yX5_leads wsX5_leads) := goodIn_app (goodIn_of _ (by decide +kernel)) ggX5_layersOf_X5_leads
theorem dX5_layersOf_0 : decode cX5_layersOf 0 = .ok (.aload_n 0, 1) := by decide +kernel
theorem dX5_layersOf_1 : decode cX5_layersOf 1 = .ok (.getfield 17, 3) := by decide +kernel
theorem dX5_layersOf_4 : decode cX5_layersOf 4 = .ok (.iconst 1, 1) := by decide +kernel
theorem dX5_layersOf_5 : decode cX5_layersOf 5 = .ok (.iaload, 1) := by decide +kernel
theorem dX5_layersOf_6 : decode cX5_layersOf 6 = .ok (.newarray .long, 2) := by decide +kernel
theorem dX5_layersOf_8 : decode cX5_layersOf 8 = .ok (.astore_n 1, 1) := by decide +kernel
theorem dX5_layersOf_9 : decode cX5_layersOf 9 = .ok (.iconst 0, 1) := by decide +kernel
theorem dX5_layersOf_10 : decode cX5_layersOf 10 = .ok (.istore_n 2, 1) := by decide +kernel
theorem dX5_layersOf_11 : decode cX5_layersOf 11 = .ok (.iload_n 2, 1) := by decide +kernel
theorem dX5_layersOf_12 : decode cX5_layersOf 12 = .ok (.aload_n 0, 1) := by decide +kernel
theorem dX5_layersOf_13 : decode cX5_layersOf 13 = .ok (.getfield 17, 3) := by decide +kernel
theorem dX5_layersOf_16 : decode cX5_layersOf 16 = .ok (.iconst 1, 1) := by decide +kernel
theorem dX5_layersOf_17 : decode cX5_layersOf 17 = .ok (.iaload, 1) := by decide +kernel
theorem dX5_layersOf_18 : decode cX5_layersOf 18 = .ok (.if_icmp .ge 17, 3) := by decide +kernel
theorem dX5_layersOf_21 : decode cX5_layersOf 21 = .ok (.aload_n 1, 1) := by decide +kernel
theorem dX5_layersOf_22 : decode cX5_layersOf 22 = .ok (.iload_n 2, 1) := by decide +kernel
theorem dX5_layersOf_23 : decode cX5_layersOf 23 = .ok (.aload_n 0, 1) := by decide +kernel
theorem dX5_layersOf_24 : decode cX5_layersOf 24 = .ok (.iload_n 2, 1) := by decide +kernel
theorem dX5_layersOf_25 : decode cX5_layersOf 25 = .ok (.invokevirtual 68, 3) := by decide +kernel
theorem dX5_layersOf_28 : decode cX5_layersOf 28 = .ok (.lastore, 1) := by decide +kernel
theorem dX5_layersOf_29 : decode cX5_layersOf 29 = .ok (.iinc 2 1, 3) := by decide +kernel
theorem dX5_layersOf_32 : decode cX5_layersOf 32 = .ok (.goto (-21), 3) := by decide +kernel
theorem dX5_layersOf_35 : decode cX5_layersOf 35 = .ok (.aload_n 0, 1) := by decide +kernel
theorem dX5_layersOf_36 : decode cX5_layersOf 36 = .ok (.getfield 17, 3) := by decide +kernel
theorem dX5_layersOf_39 : decode cX5_layersOf 39 = .ok (.iconst 0, 1) := by decide +kernel
theorem dX5_layersOf_40 : decode cX5_layersOf 40 = .ok (.iaload, 1) := by decide +kernel
theorem dX5_layersOf_41 : decode cX5_layersOf 41 = .ok (.aload_n 0, 1) := by decide +kernel
theorem dX5_layersOf_42 : decode cX5_layersOf 42 = .ok (.getfield 17, 3) := by decide +kernel
theorem dX5_layersOf_45 : decode cX5_layersOf 45 = .ok (.iconst 1, 1) := by decide +kernel
theorem dX5_layersOf_46 : decode cX5_layersOf 46 = .ok (.iaload, 1) := by decide +kernel
theorem dX5_layersOf_47 : decode cX5_layersOf 47 = .ok (.iadd, 1) := by decide +kernel
theorem dX5_layersOf_48 : decode cX5_layersOf 48 = .ok (.istore_n 2, 1) := by decide +kernel
theorem dX5_layersOf_49 : decode cX5_layersOf 49 = .ok (.iload_n 2, 1) := by decide +kernel
theorem dX5_layersOf_50 : decode cX5_layersOf 50 = .ok (.anewarray 94, 3) := by decide +kernel
theorem dX5_layersOf_53 : decode cX5_layersOf 53 = .ok (.astore_n 3, 1) := by decide +kernel
theorem dX5_layersOf_54 : decode cX5_layersOf 54 = .ok (.iconst 0, 1) := by decide +kernel
theorem dX5_layersOf_55 : decode cX5_layersOf 55 = .ok (.istore 4, 2) := by decide +kernel
theorem dX5_layersOf_57 : decode cX5_layersOf 57 = .ok (.iconst 0, 1) := by decide +kernel
theorem dX5_layersOf_58 : decode cX5_layersOf 58 = .ok (.istore 5, 2) := by decide +kernel
theorem dX5_layersOf_60 : decode cX5_layersOf 60 = .ok (.iload 5, 2) := by decide +kernel
theorem dX5_layersOf_62 : decode cX5_layersOf 62 = .ok (.iload_n 2, 1) := by decide +kernel
theorem dX5_layersOf_63 : decode cX5_layersOf 63 = .ok (.if_icmp .ge 131, 3) := by decide +kernel
theorem dX5_layersOf_66 : decode cX5_layersOf 66 = .ok (.aload_n 3, 1) := by decide +kernel
theorem dX5_layersOf_67 : decode cX5_layersOf 67 = .ok (.iload 5, 2) := by decide +kernel
theorem dX5_layersOf_69 : decode cX5_layersOf 69 = .ok (.aload_n 0, 1) := by decide +kernel
theorem dX5_layersOf_70 : decode cX5_layersOf 70 = .ok (.iload 5, 2) := by decide +kernel
theorem dX5_layersOf_72 : decode cX5_layersOf 72 = .ok (.aload_n 0, 1) := by decide +kernel
theorem dX5_layersOf_73 : decode cX5_layersOf 73 = .ok (.getfield 17, 3) := by decide +kernel
theorem dX5_layersOf_76 : decode cX5_layersOf 76 = .ok (.iconst 0, 1) := by decide +kernel
theorem dX5_layersOf_77 : decode cX5_layersOf 77 = .ok (.iaload, 1) := by decide +kernel
theorem dX5_layersOf_78 : decode cX5_layersOf 78 = .ok (.if_icmp .ge 7, 3) := by decide +kernel
theorem dX5_layersOf_81 : decode cX5_layersOf 81 = .ok (.iconst 1, 1) := by decide +kernel
theorem dX5_layersOf_82 : decode cX5_layersOf 82 = .ok (.goto 4, 3) := by decide +kernel
theorem dX5_layersOf_85 : decode cX5_layersOf 85 = .ok (.iconst 0, 1) := by decide +kernel
theorem dX5_layersOf_86 : decode cX5_layersOf 86 = .ok (.iload 5, 2) := by decide +kernel
theorem dX5_layersOf_88 : decode cX5_layersOf 88 = .ok (.aload_n 0, 1) := by decide +kernel
theorem dX5_layersOf_89 : decode cX5_layersOf 89 = .ok (.getfield 17, 3) := by decide +kernel
theorem dX5_layersOf_92 : decode cX5_layersOf 92 = .ok (.iconst 0, 1) := by decide +kernel
theorem dX5_layersOf_93 : decode cX5_layersOf 93 = .ok (.iaload, 1) := by decide +kernel
theorem dX5_layersOf_94 : decode cX5_layersOf 94 = .ok (.if_icmp .ge 8, 3) := by decide +kernel
theorem dX5_layersOf_97 : decode cX5_layersOf 97 = .ok (.iload 5, 2) := by decide +kernel
theorem dX5_layersOf_99 : decode cX5_layersOf 99 = .ok (.goto 12, 3) := by decide +kernel
theorem dX5_layersOf_102 : decode cX5_layersOf 102 = .ok (.iload 5, 2) := by decide +kernel
theorem dX5_layersOf_104 : decode cX5_layersOf 104 = .ok (.aload_n 0, 1) := by decide +kernel
theorem dX5_layersOf_105 : decode cX5_layersOf 105 = .ok (.getfield 17, 3) := by decide +kernel
theorem dX5_layersOf_108 : decode cX5_layersOf 108 = .ok (.iconst 0, 1) := by decide +kernel
theorem dX5_layersOf_109 : decode cX5_layersOf 109 = .ok (.iaload, 1) := by decide +kernel
theorem dX5_layersOf_110 : decode cX5_layersOf 110 = .ok (.isub, 1) := by decide +kernel
theorem dX5_layersOf_111 : decode cX5_layersOf 111 = .ok (.aload_n 1, 1) := by decide +kernel
theorem dX5_layersOf_112 : decode cX5_layersOf 112 = .ok (.invokevirtual 95, 3) := by decide +kernel
theorem dX5_layersOf_115 : decode cX5_layersOf 115 = .ok (.aastore, 1) := by decide +kernel
theorem dX5_layersOf_116 : decode cX5_layersOf 116 = .ok (.iconst 1, 1) := by decide +kernel
theorem dX5_layersOf_117 : decode cX5_layersOf 117 = .ok (.istore 6, 2) := by decide +kernel
theorem dX5_layersOf_119 : decode cX5_layersOf 119 = .ok (.iconst 0, 1) := by decide +kernel
theorem dX5_layersOf_120 : decode cX5_layersOf 120 = .ok (.istore 7, 2) := by decide +kernel
theorem dX5_layersOf_122 : decode cX5_layersOf 122 = .ok (.iload 7, 2) := by decide +kernel
theorem dX5_layersOf_124 : decode cX5_layersOf 124 = .ok (.iload 5, 2) := by decide +kernel
theorem dX5_layersOf_126 : decode cX5_layersOf 126 = .ok (.if_icmp .ge 47, 3) := by decide +kernel
theorem dX5_layersOf_129 : decode cX5_layersOf 129 = .ok (.iload 6, 2) := by decide +kernel
theorem dX5_layersOf_131 : decode cX5_layersOf 131 = .ok (.ifCond .eq 33, 3) := by decide +kernel
theorem dX5_layersOf_134 : decode cX5_layersOf 134 = .ok (.aload_n 0, 1) := by decide +kernel
theorem dX5_layersOf_135 : decode cX5_layersOf 135 = .ok (.aload_n 3, 1) := by decide +kernel
theorem dX5_layersOf_136 : decode cX5_layersOf 136 = .ok (.iload 5, 2) := by decide +kernel
theorem dX5_layersOf_138 : decode cX5_layersOf 138 = .ok (.aaload, 1) := by decide +kernel
theorem dX5_layersOf_139 : decode cX5_layersOf 139 = .ok (.iload 7, 2) := by decide +kernel
theorem dX5_layersOf_141 : decode cX5_layersOf 141 = .ok (.invokevirtual 99, 3) := by decide +kernel
theorem dX5_layersOf_144 : decode cX5_layersOf 144 = .ok (.ifCond .eq 16, 3) := by decide +kernel
theorem dX5_layersOf_147 : decode cX5_layersOf 147 = .ok (.aload_n 0, 1) := by decide +kernel
theorem dX5_layersOf_148 : decode cX5_layersOf 148 = .ok (.aload_n 3, 1) := by decide +kernel
theorem dX5_layersOf_149 : decode cX5_layersOf 149 = .ok (.iload 7, 2) := by decide +kernel
theorem dX5_layersOf_151 : decode cX5_layersOf 151 = .ok (.aaload, 1) := by decide +kernel
theorem dX5_layersOf_152 : decode cX5_layersOf 152 = .ok (.iload 5, 2) := by decide +kernel
theorem dX5_layersOf_154 : decode cX5_layersOf 154 = .ok (.invokevirtual 99, 3) := by decide +kernel
theorem dX5_layersOf_157 : decode cX5_layersOf 157 = .ok (.ifCond .ne 7, 3) := by decide +kernel
theorem dX5_layersOf_160 : decode cX5_layersOf 160 = .ok (.iconst 1, 1) := by decide +kernel
theorem dX5_layersOf_161 : decode cX5_layersOf 161 = .ok (.goto 4, 3) := by decide +kernel
theorem dX5_layersOf_164 : decode cX5_layersOf 164 = .ok (.iconst 0, 1) := by decide +kernel
theorem dX5_layersOf_165 : decode cX5_layersOf 165 = .ok (.istore 6, 2) := by decide +kernel
theorem dX5_layersOf_167 : decode cX5_layersOf 167 = .ok (.iinc 7 1, 3) := by decide +kernel
theorem dX5_layersOf_170 : decode cX5_layersOf 170 = .ok (.goto (-48), 3) := by decide +kernel
theorem dX5_layersOf_173 : decode cX5_layersOf 173 = .ok (.iload 4, 2) := by decide +kernel
theorem dX5_layersOf_175 : decode cX5_layersOf 175 = .ok (.iload 6, 2) := by decide +kernel
theorem dX5_layersOf_177 : decode cX5_layersOf 177 = .ok (.ifCond .eq 7, 3) := by decide +kernel
theorem dX5_layersOf_180 : decode cX5_layersOf 180 = .ok (.iconst 1, 1) := by decide +kernel
theorem dX5_layersOf_181 : decode cX5_layersOf 181 = .ok (.goto 4, 3) := by decide +kernel
theorem dX5_layersOf_184 : decode cX5_layersOf 184 = .ok (.iconst 0, 1) := by decide +kernel
theorem dX5_layersOf_185 : decode cX5_layersOf 185 = .ok (.iadd, 1) := by decide +kernel
theorem dX5_layersOf_186 : decode cX5_layersOf 186 = .ok (.istore 4, 2) := by decide +kernel
theorem dX5_layersOf_188 : decode cX5_layersOf 188 = .ok (.iinc 5 1, 3) := by decide +kernel
theorem dX5_layersOf_191 : decode cX5_layersOf 191 = .ok (.goto (-131), 3) := by decide +kernel
theorem dX5_layersOf_194 : decode cX5_layersOf 194 = .ok (.iload 4, 2) := by decide +kernel
theorem dX5_layersOf_196 : decode cX5_layersOf 196 = .ok (.ireturn, 1) := by decide +kernel
set_option maxRecDepth 20000 in
theorem ggX5_leads_X5_has : GoodIn wsX5_leads wsX5_has := goodIn_r _ [5] (by decide +kernel) (by decide +kernel)
set_option maxRecDepth 20000 in
theorem gX5_leads_X5_has : GoodIn wsX5_leads (va_wsS RX5 72 yX5_has wsX5_has) := goodIn_app (goodIn_of _ (by decide +kernel)) ggX5_leads_X5_has
theorem dX5_leads_0 : decode cX5_leads 0 = .ok (.iload_n 2, 1) := by decide +kernel
theorem dX5_leads_1 : decode cX5_leads 1 = .ok (.aload_n 0, 1) := by decide +kernel
theorem dX5_leads_2 : decode cX5_leads 2 = .ok (.getfield 17, 3) := by decide +kernel
theorem dX5_leads_5 : decode cX5_leads 5 = .ok (.iconst 0, 1) := by decide +kernel
theorem dX5_leads_6 : decode cX5_leads 6 = .ok (.iaload, 1) := by decide +kernel
theorem dX5_leads_7 : decode cX5_leads 7 = .ok (.if_icmp .ge 13, 3) := by decide +kernel
theorem dX5_leads_10 : decode cX5_leads 10 = .ok (.aload_n 1, 1) := by decide +kernel
theorem dX5_leads_11 : decode cX5_leads 11 = .ok (.iconst 0, 1) := by decide +kernel
theorem dX5_leads_12 : decode cX5_leads 12 = .ok (.laload, 1) := by decide +kernel
theorem dX5_leads_13 : decode cX5_leads 13 = .ok (.iload_n 2, 1) := by decide +kernel
theorem dX5_leads_14 : decode cX5_leads 14 = .ok (.invokestatic 72, 3) := by decide +kernel
theorem dX5_leads_17 : decode cX5_leads 17 = .ok (.goto 17, 3) := by decide +kernel
theorem dX5_leads_20 : decode cX5_leads 20 = .ok (.aload_n 1, 1) := by decide +kernel
theorem dX5_leads_21 : decode cX5_leads 21 = .ok (.iconst 1, 1) := by decide +kernel
theorem dX5_leads_22 : decode cX5_leads 22 = .ok (.laload, 1) := by decide +kernel
theorem dX5_leads_23 : decode cX5_leads 23 = .ok (.iload_n 2, 1) := by decide +kernel
theorem dX5_leads_24 : decode cX5_leads 24 = .ok (.aload_n 0, 1) := by decide +kernel
theorem dX5_leads_25 : decode cX5_leads 25 = .ok (.getfield 17, 3) := by decide +kernel
theorem dX5_leads_28 : decode cX5_leads 28 = .ok (.iconst 0, 1) := by decide +kernel
theorem dX5_leads_29 : decode cX5_leads 29 = .ok (.iaload, 1) := by decide +kernel
theorem dX5_leads_30 : decode cX5_leads 30 = .ok (.isub, 1) := by decide +kernel
theorem dX5_leads_31 : decode cX5_leads 31 = .ok (.invokestatic 72, 3) := by decide +kernel
theorem dX5_leads_34 : decode cX5_leads 34 = .ok (.ireturn, 1) := by decide +kernel
set_option maxRecDepth 20000 in
theorem ggX5_layers_X5_layersOf : GoodIn wsX5_layers wsX5_layersOf := goodIn_r _ [6, 7, 8, 9, 10, 11, 12, 5, 13, 14, 15, 16, 17, 18, 19, 20, 21, 22, 23, 24, 25, 26, 27, 28, 29, 30, 31, 32, 33, 34, 35, 36, 37, 38, 39, 40, 41] (by decide +kernel) (by decide +kernel)
set_option maxRecDepth 20000 in
theorem gX5_layers_X5_layersOf : GoodIn wsX5_layers (wsV RX5 103 RX5 yX5_layersOf wsX5_layersOf) := goodIn_app (goodIn_of _ (by decide +kernel)) ggX5_layers_X5_layersOf
theorem dX5_layers_0 : decode cX5_layers 0 = .ok (.aload_n 0, 1) := by decide +kernel
theorem dX5_layers_1 : decode cX5_layers 1 = .ok (.iconst 0, 1) := by decide +kernel
theorem dX5_layers_2 : decode cX5_layers 2 = .ok (.putfield 32, 3) := by decide +kernel
theorem dX5_layers_5 : decode cX5_layers 5 = .ok (.aload_n 0, 1) := by decide +kernel
theorem dX5_layers_6 : decode cX5_layers 6 = .ok (.invokevirtual 103, 3) := by decide +kernel
theorem dX5_layers_9 : decode cX5_layers 9 = .ok (.ireturn, 1) := by decide +kernel
set_option maxRecDepth 20000 in
theorem ggX5_hangsTogether_X5_layersOf : GoodIn wsX5_hangsTogether wsX5_layersOf := goodIn_r _ [7, 2, 8, 9, 10, 11, 12, 6, 13, 14, 15, 16, 17, 18, 19, 20, 21, 22, 23, 24, 25, 26, 27, 28, 29, 30, 31, 32, 33, 34, 35, 36, 37, 38, 39, 40, 41] (by decide +kernel) (by decide +kernel)
set_option maxRecDepth 20000 in
theorem gX5_hangsTogether_X5_layersOf : GoodIn wsX5_hangsTogether (wsV RX5 103 RX5 yX5_layersOf wsX5_layersOf) := goodIn_app (goodIn_of _ (by decide +kernel)) ggX5_hangsTogether_X5_layersOf
theorem dX5_hangsTogether_0 : decode cX5_hangsTogether 0 = .ok (.aload_n 0, 1) := by decide +kernel
theorem dX5_hangsTogether_1 : decode cX5_hangsTogether 1 = .ok (.iconst 0, 1) := by decide +kernel
theorem dX5_hangsTogether_2 : decode cX5_hangsTogether 2 = .ok (.putfield 32, 3) := by decide +kernel
theorem dX5_hangsTogether_5 : decode cX5_hangsTogether 5 = .ok (.aload_n 0, 1) := by decide +kernel
theorem dX5_hangsTogether_6 : decode cX5_hangsTogether 6 = .ok (.getfield 17, 3) := by decide +kernel
theorem dX5_hangsTogether_9 : decode cX5_hangsTogether 9 = .ok (.iconst 0, 1) := by decide +kernel
theorem dX5_hangsTogether_10 : decode cX5_hangsTogether 10 = .ok (.iaload, 1) := by decide +kernel
theorem dX5_hangsTogether_11 : decode cX5_hangsTogether 11 = .ok (.ifCond .le 24, 3) := by decide +kernel
theorem dX5_hangsTogether_14 : decode cX5_hangsTogether 14 = .ok (.aload_n 0, 1) := by decide +kernel
theorem dX5_hangsTogether_15 : decode cX5_hangsTogether 15 = .ok (.getfield 17, 3) := by decide +kernel
theorem dX5_hangsTogether_18 : decode cX5_hangsTogether 18 = .ok (.iconst 1, 1) := by decide +kernel
theorem dX5_hangsTogether_19 : decode cX5_hangsTogether 19 = .ok (.iaload, 1) := by decide +kernel
theorem dX5_hangsTogether_20 : decode cX5_hangsTogether 20 = .ok (.ifCond .le 15, 3) := by decide +kernel
theorem dX5_hangsTogether_23 : decode cX5_hangsTogether 23 = .ok (.aload_n 0, 1) := by decide +kernel
theorem dX5_hangsTogether_24 : decode cX5_hangsTogether 24 = .ok (.invokevirtual 103, 3) := by decide +kernel
theorem dX5_hangsTogether_27 : decode cX5_hangsTogether 27 = .ok (.iconst 1, 1) := by decide +kernel
theorem dX5_hangsTogether_28 : decode cX5_hangsTogether 28 = .ok (.if_icmp .ne 7, 3) := by decide +kernel
theorem dX5_hangsTogether_31 : decode cX5_hangsTogether 31 = .ok (.iconst 1, 1) := by decide +kernel
theorem dX5_hangsTogether_32 : decode cX5_hangsTogether 32 = .ok (.goto 4, 3) := by decide +kernel
theorem dX5_hangsTogether_35 : decode cX5_hangsTogether 35 = .ok (.iconst 0, 1) := by decide +kernel
theorem dX5_hangsTogether_36 : decode cX5_hangsTogether 36 = .ok (.ireturn, 1) := by decide +kernel
set_option maxRecDepth 20000 in
theorem ggX5_colourAt_X5_fail : GoodIn wsX5_colourAt wsX5_fail := goodIn_r _ [8, 1, 9, 10, 11, 12, 13, 14, 15, 16, 17] (by decide +kernel) (by decide +kernel)
set_option maxRecDepth 20000 in
theorem gX5_colourAt_X5_fail : GoodIn wsX5_colourAt (wsV RX5 40 RX5 yX5_fail wsX5_fail) := goodIn_app (goodIn_of _ (by decide +kernel)) ggX5_colourAt_X5_fail
theorem dX5_colourAt_0 : decode cX5_colourAt 0 = .ok (.aload_n 0, 1) := by decide +kernel
theorem dX5_colourAt_1 : decode cX5_colourAt 1 = .ok (.iconst 0, 1) := by decide +kernel
theorem dX5_colourAt_2 : decode cX5_colourAt 2 = .ok (.putfield 32, 3) := by decide +kernel
theorem dX5_colourAt_5 : decode cX5_colourAt 5 = .ok (.iconst 0, 1) := by decide +kernel
theorem dX5_colourAt_6 : decode cX5_colourAt 6 = .ok (.istore_n 2, 1) := by decide +kernel
theorem dX5_colourAt_7 : decode cX5_colourAt 7 = .ok (.iconst 0, 1) := by decide +kernel
theorem dX5_colourAt_8 : decode cX5_colourAt 8 = .ok (.istore_n 3, 1) := by decide +kernel
theorem dX5_colourAt_9 : decode cX5_colourAt 9 = .ok (.iconst 0, 1) := by decide +kernel
theorem dX5_colourAt_10 : decode cX5_colourAt 10 = .ok (.istore 4, 2) := by decide +kernel
theorem dX5_colourAt_12 : decode cX5_colourAt 12 = .ok (.iload 4, 2) := by decide +kernel
theorem dX5_colourAt_14 : decode cX5_colourAt 14 = .ok (.iconst 2, 1) := by decide +kernel
theorem dX5_colourAt_15 : decode cX5_colourAt 15 = .ok (.if_icmp .ge 73, 3) := by decide +kernel
theorem dX5_colourAt_18 : decode cX5_colourAt 18 = .ok (.iconst 0, 1) := by decide +kernel
theorem dX5_colourAt_19 : decode cX5_colourAt 19 = .ok (.istore 5, 2) := by decide +kernel
theorem dX5_colourAt_21 : decode cX5_colourAt 21 = .ok (.iload 5, 2) := by decide +kernel
theorem dX5_colourAt_23 : decode cX5_colourAt 23 = .ok (.aload_n 0, 1) := by decide +kernel
theorem dX5_colourAt_24 : decode cX5_colourAt 24 = .ok (.getfield 17, 3) := by decide +kernel
theorem dX5_colourAt_27 : decode cX5_colourAt 27 = .ok (.iload 4, 2) := by decide +kernel
theorem dX5_colourAt_29 : decode cX5_colourAt 29 = .ok (.iaload, 1) := by decide +kernel
theorem dX5_colourAt_30 : decode cX5_colourAt 30 = .ok (.if_icmp .ge 52, 3) := by decide +kernel
theorem dX5_colourAt_33 : decode cX5_colourAt 33 = .ok (.aload_n 0, 1) := by decide +kernel
theorem dX5_colourAt_34 : decode cX5_colourAt 34 = .ok (.getfield 25, 3) := by decide +kernel
theorem dX5_colourAt_37 : decode cX5_colourAt 37 = .ok (.iload 4, 2) := by decide +kernel
theorem dX5_colourAt_39 : decode cX5_colourAt 39 = .ok (.aaload, 1) := by decide +kernel
theorem dX5_colourAt_40 : decode cX5_colourAt 40 = .ok (.iload 5, 2) := by decide +kernel
theorem dX5_colourAt_42 : decode cX5_colourAt 42 = .ok (.iaload, 1) := by decide +kernel
theorem dX5_colourAt_43 : decode cX5_colourAt 43 = .ok (.istore 6, 2) := by decide +kernel
theorem dX5_colourAt_45 : decode cX5_colourAt 45 = .ok (.iload_n 2, 1) := by decide +kernel
theorem dX5_colourAt_46 : decode cX5_colourAt 46 = .ok (.iload 6, 2) := by decide +kernel
theorem dX5_colourAt_48 : decode cX5_colourAt 48 = .ok (.ishr, 1) := by decide +kernel
theorem dX5_colourAt_49 : decode cX5_colourAt 49 = .ok (.iconst 1, 1) := by decide +kernel
theorem dX5_colourAt_50 : decode cX5_colourAt 50 = .ok (.iand, 1) := by decide +kernel
theorem dX5_colourAt_51 : decode cX5_colourAt 51 = .ok (.iconst 1, 1) := by decide +kernel
theorem dX5_colourAt_52 : decode cX5_colourAt 52 = .ok (.if_icmp .ne 6, 3) := by decide +kernel
theorem dX5_colourAt_55 : decode cX5_colourAt 55 = .ok (.goto 21, 3) := by decide +kernel
theorem dX5_colourAt_58 : decode cX5_colourAt 58 = .ok (.iload_n 2, 1) := by decide +kernel
theorem dX5_colourAt_59 : decode cX5_colourAt 59 = .ok (.iconst 1, 1) := by decide +kernel
theorem dX5_colourAt_60 : decode cX5_colourAt 60 = .ok (.iload 6, 2) := by decide +kernel
theorem dX5_colourAt_62 : decode cX5_colourAt 62 = .ok (.ishl, 1) := by decide +kernel
theorem dX5_colourAt_63 : decode cX5_colourAt 63 = .ok (.ior, 1) := by decide +kernel
theorem dX5_colourAt_64 : decode cX5_colourAt 64 = .ok (.istore_n 2, 1) := by decide +kernel
theorem dX5_colourAt_65 : decode cX5_colourAt 65 = .ok (.iload_n 3, 1) := by decide +kernel
theorem dX5_colourAt_66 : decode cX5_colourAt 66 = .ok (.iload_n 1, 1) := by decide +kernel
theorem dX5_colourAt_67 : decode cX5_colourAt 67 = .ok (.if_icmp .ne 6, 3) := by decide +kernel
theorem dX5_colourAt_70 : decode cX5_colourAt 70 = .ok (.iload 6, 2) := by decide +kernel
theorem dX5_colourAt_72 : decode cX5_colourAt 72 = .ok (.ireturn, 1) := by decide +kernel
theorem dX5_colourAt_73 : decode cX5_colourAt 73 = .ok (.iinc 3 1, 3) := by decide +kernel
theorem dX5_colourAt_76 : decode cX5_colourAt 76 = .ok (.iinc 5 1, 3) := by decide +kernel
theorem dX5_colourAt_79 : decode cX5_colourAt 79 = .ok (.goto (-58), 3) := by decide +kernel
theorem dX5_colourAt_82 : decode cX5_colourAt 82 = .ok (.iinc 4 1, 3) := by decide +kernel
theorem dX5_colourAt_85 : decode cX5_colourAt 85 = .ok (.goto (-73), 3) := by decide +kernel
theorem dX5_colourAt_88 : decode cX5_colourAt 88 = .ok (.aload_n 0, 1) := by decide +kernel
theorem dX5_colourAt_89 : decode cX5_colourAt 89 = .ok (.iconst 1, 1) := by decide +kernel
theorem dX5_colourAt_90 : decode cX5_colourAt 90 = .ok (.invokevirtual 40, 3) := by decide +kernel
theorem dX5_colourAt_93 : decode cX5_colourAt 93 = .ok (.ireturn, 1) := by decide +kernel
set_option maxRecDepth 20000 in
theorem ggX5_threadsOf_X5_isIn : GoodIn wsX5_threadsOf wsX5_isIn := goodIn_r _ [7] (by decide +kernel) (by decide +kernel)
set_option maxRecDepth 20000 in
theorem gX5_threadsOf_X5_isIn : GoodIn wsX5_threadsOf (va_wsS RX5 36 yX5_isIn wsX5_isIn) := goodIn_app (goodIn_of _ (by decide +kernel)) ggX5_threadsOf_X5_isIn
set_option maxRecDepth 20000 in
theorem ggX5_threadsOf_X5_fail : GoodIn wsX5_threadsOf wsX5_fail := goodIn_r _ [11, 1, 12, 13, 14, 15, 16, 17, 18, 19, 20] (by decide +kernel) (by decide +kernel)
set_option maxRecDepth 20000 in
theorem gX5_threadsOf_X5_fail : GoodIn wsX5_threadsOf (wsV RX5 40 RX5 yX5_fail wsX5_fail) := goodIn_app (goodIn_of _ (by decide +kernel)) ggX5_threadsOf_X5_fail
theorem dX5_threadsOf_0 : decode cX5_threadsOf 0 = .ok (.aload_n 0, 1) := by decide +kernel
theorem dX5_threadsOf_1 : decode cX5_threadsOf 1 = .ok (.iconst 0, 1) := by decide +kernel
theorem dX5_threadsOf_2 : decode cX5_threadsOf 2 = .ok (.putfield 32, 3) := by decide +kernel
theorem dX5_threadsOf_5 : decode cX5_threadsOf 5 = .ok (.iload_n 1, 1) := by decide +kernel
theorem dX5_threadsOf_6 : decode cX5_threadsOf 6 = .ok (.iconst 0, 1) := by decide +kernel
theorem dX5_threadsOf_7 : decode cX5_threadsOf 7 = .ok (.bipush 7, 2) := by decide +kernel
theorem dX5_threadsOf_9 : decode cX5_threadsOf 9 = .ok (.invokestatic 36, 3) := by decide +kernel
theorem dX5_threadsOf_12 : decode cX5_threadsOf 12 = .ok (.ifCond .ne 9, 3) := by decide +kernel
theorem dX5_threadsOf_15 : decode cX5_threadsOf 15 = .ok (.aload_n 0, 1) := by decide +kernel
theorem dX5_threadsOf_16 : decode cX5_threadsOf 16 = .ok (.iconst 1, 1) := by decide +kernel
theorem dX5_threadsOf_17 : decode cX5_threadsOf 17 = .ok (.invokevirtual 40, 3) := by decide +kernel
theorem dX5_threadsOf_20 : decode cX5_threadsOf 20 = .ok (.ireturn, 1) := by decide +kernel
theorem dX5_threadsOf_21 : decode cX5_threadsOf 21 = .ok (.iconst 0, 1) := by decide +kernel
theorem dX5_threadsOf_22 : decode cX5_threadsOf 22 = .ok (.istore_n 2, 1) := by decide +kernel
theorem dX5_threadsOf_23 : decode cX5_threadsOf 23 = .ok (.iconst 0, 1) := by decide +kernel
theorem dX5_threadsOf_24 : decode cX5_threadsOf 24 = .ok (.istore_n 3, 1) := by decide +kernel
theorem dX5_threadsOf_25 : decode cX5_threadsOf 25 = .ok (.iload_n 3, 1) := by decide +kernel
theorem dX5_threadsOf_26 : decode cX5_threadsOf 26 = .ok (.iconst 2, 1) := by decide +kernel
theorem dX5_threadsOf_27 : decode cX5_threadsOf 27 = .ok (.if_icmp .ge 50, 3) := by decide +kernel
theorem dX5_threadsOf_30 : decode cX5_threadsOf 30 = .ok (.iconst 0, 1) := by decide +kernel
theorem dX5_threadsOf_31 : decode cX5_threadsOf 31 = .ok (.istore 4, 2) := by decide +kernel
theorem dX5_threadsOf_33 : decode cX5_threadsOf 33 = .ok (.iload 4, 2) := by decide +kernel
theorem dX5_threadsOf_35 : decode cX5_threadsOf 35 = .ok (.aload_n 0, 1) := by decide +kernel
theorem dX5_threadsOf_36 : decode cX5_threadsOf 36 = .ok (.getfield 17, 3) := by decide +kernel
theorem dX5_threadsOf_39 : decode cX5_threadsOf 39 = .ok (.iload_n 3, 1) := by decide +kernel
theorem dX5_threadsOf_40 : decode cX5_threadsOf 40 = .ok (.iaload, 1) := by decide +kernel
theorem dX5_threadsOf_41 : decode cX5_threadsOf 41 = .ok (.if_icmp .ge 30, 3) := by decide +kernel
theorem dX5_threadsOf_44 : decode cX5_threadsOf 44 = .ok (.iload_n 2, 1) := by decide +kernel
theorem dX5_threadsOf_45 : decode cX5_threadsOf 45 = .ok (.aload_n 0, 1) := by decide +kernel
theorem dX5_threadsOf_46 : decode cX5_threadsOf 46 = .ok (.getfield 25, 3) := by decide +kernel
theorem dX5_threadsOf_49 : decode cX5_threadsOf 49 = .ok (.iload_n 3, 1) := by decide +kernel
theorem dX5_threadsOf_50 : decode cX5_threadsOf 50 = .ok (.aaload, 1) := by decide +kernel
theorem dX5_threadsOf_51 : decode cX5_threadsOf 51 = .ok (.iload 4, 2) := by decide +kernel
theorem dX5_threadsOf_53 : decode cX5_threadsOf 53 = .ok (.iaload, 1) := by decide +kernel
theorem dX5_threadsOf_54 : decode cX5_threadsOf 54 = .ok (.iload_n 1, 1) := by decide +kernel
theorem dX5_threadsOf_55 : decode cX5_threadsOf 55 = .ok (.if_icmp .ne 7, 3) := by decide +kernel
theorem dX5_threadsOf_58 : decode cX5_threadsOf 58 = .ok (.iconst 1, 1) := by decide +kernel
theorem dX5_threadsOf_59 : decode cX5_threadsOf 59 = .ok (.goto 4, 3) := by decide +kernel
theorem dX5_threadsOf_62 : decode cX5_threadsOf 62 = .ok (.iconst 0, 1) := by decide +kernel
theorem dX5_threadsOf_63 : decode cX5_threadsOf 63 = .ok (.iadd, 1) := by decide +kernel
theorem dX5_threadsOf_64 : decode cX5_threadsOf 64 = .ok (.istore_n 2, 1) := by decide +kernel
theorem dX5_threadsOf_65 : decode cX5_threadsOf 65 = .ok (.iinc 4 1, 3) := by decide +kernel
theorem dX5_threadsOf_68 : decode cX5_threadsOf 68 = .ok (.goto (-35), 3) := by decide +kernel
theorem dX5_threadsOf_71 : decode cX5_threadsOf 71 = .ok (.iinc 3 1, 3) := by decide +kernel
theorem dX5_threadsOf_74 : decode cX5_threadsOf 74 = .ok (.goto (-49), 3) := by decide +kernel
theorem dX5_threadsOf_77 : decode cX5_threadsOf 77 = .ok (.iload_n 2, 1) := by decide +kernel
theorem dX5_threadsOf_78 : decode cX5_threadsOf 78 = .ok (.ireturn, 1) := by decide +kernel
set_option maxRecDepth 20000 in
theorem ggX5_draw_X5_isIn : GoodIn wsX5_draw wsX5_isIn := goodIn_r _ [7] (by decide +kernel) (by decide +kernel)
set_option maxRecDepth 20000 in
theorem gX5_draw_X5_isIn : GoodIn wsX5_draw (va_wsS RX5 36 yX5_isIn wsX5_isIn) := goodIn_app (goodIn_of _ (by decide +kernel)) ggX5_draw_X5_isIn
set_option maxRecDepth 20000 in
theorem ggX5_draw_X5_fail : GoodIn wsX5_draw wsX5_fail := goodIn_r _ [11, 1, 12, 13, 14, 15, 16, 17, 18, 19, 20] (by decide +kernel) (by decide +kernel)
set_option maxRecDepth 20000 in
theorem gX5_draw_X5_fail : GoodIn wsX5_draw (wsV RX5 40 RX5 yX5_fail wsX5_fail) := goodIn_app (goodIn_of _ (by decide +kernel)) ggX5_draw_X5_fail
theorem dX5_draw_0 : decode cX5_draw 0 = .ok (.aload_n 0, 1) := by decide +kernel
theorem dX5_draw_1 : decode cX5_draw 1 = .ok (.iconst 0, 1) := by decide +kernel
theorem dX5_draw_2 : decode cX5_draw 2 = .ok (.putfield 32, 3) := by decide +kernel
theorem dX5_draw_5 : decode cX5_draw 5 = .ok (.iload_n 1, 1) := by decide +kernel
theorem dX5_draw_6 : decode cX5_draw 6 = .ok (.iconst 1, 1) := by decide +kernel
theorem dX5_draw_7 : decode cX5_draw 7 = .ok (.bipush 40, 2) := by decide +kernel
theorem dX5_draw_9 : decode cX5_draw 9 = .ok (.invokestatic 36, 3) := by decide +kernel
theorem dX5_draw_12 : decode cX5_draw 12 = .ok (.ifCond .ne 9, 3) := by decide +kernel
theorem dX5_draw_15 : decode cX5_draw 15 = .ok (.aload_n 0, 1) := by decide +kernel
theorem dX5_draw_16 : decode cX5_draw 16 = .ok (.iconst 1, 1) := by decide +kernel
theorem dX5_draw_17 : decode cX5_draw 17 = .ok (.invokevirtual 40, 3) := by decide +kernel
theorem dX5_draw_20 : decode cX5_draw 20 = .ok (.ireturn, 1) := by decide +kernel
theorem dX5_draw_21 : decode cX5_draw 21 = .ok (.aload_n 0, 1) := by decide +kernel
theorem dX5_draw_22 : decode cX5_draw 22 = .ok (.getfield 107, 3) := by decide +kernel
theorem dX5_draw_25 : decode cX5_draw 25 = .ok (.istore_n 2, 1) := by decide +kernel
theorem dX5_draw_26 : decode cX5_draw 26 = .ok (.aload_n 0, 1) := by decide +kernel
theorem dX5_draw_27 : decode cX5_draw 27 = .ok (.iload_n 1, 1) := by decide +kernel
theorem dX5_draw_28 : decode cX5_draw 28 = .ok (.putfield 110, 3) := by decide +kernel
theorem dX5_draw_31 : decode cX5_draw 31 = .ok (.aload_n 0, 1) := by decide +kernel
theorem dX5_draw_32 : decode cX5_draw 32 = .ok (.iconst 0, 1) := by decide +kernel
theorem dX5_draw_33 : decode cX5_draw 33 = .ok (.putfield 107, 3) := by decide +kernel
theorem dX5_draw_36 : decode cX5_draw 36 = .ok (.iload_n 2, 1) := by decide +kernel
theorem dX5_draw_37 : decode cX5_draw 37 = .ok (.ireturn, 1) := by decide +kernel
set_option maxRecDepth 20000 in
theorem ggX5_row_X5_fail : GoodIn wsX5_row wsX5_fail := goodIn_r _ [9, 1, 10, 11, 12, 13, 14, 15, 16, 17, 18] (by decide +kernel) (by decide +kernel)
set_option maxRecDepth 20000 in
theorem gX5_row_X5_fail : GoodIn wsX5_row (wsV RX5 40 RX5 yX5_fail wsX5_fail) := goodIn_app (goodIn_of _ (by decide +kernel)) ggX5_row_X5_fail
theorem dX5_row_0 : decode cX5_row 0 = .ok (.aload_n 0, 1) := by decide +kernel
theorem dX5_row_1 : decode cX5_row 1 = .ok (.iconst 0, 1) := by decide +kernel
theorem dX5_row_2 : decode cX5_row 2 = .ok (.putfield 32, 3) := by decide +kernel
theorem dX5_row_5 : decode cX5_row 5 = .ok (.aload_n 0, 1) := by decide +kernel
theorem dX5_row_6 : decode cX5_row 6 = .ok (.getfield 110, 3) := by decide +kernel
theorem dX5_row_9 : decode cX5_row 9 = .ok (.ifCond .eq 12, 3) := by decide +kernel
theorem dX5_row_12 : decode cX5_row 12 = .ok (.aload_n 0, 1) := by decide +kernel
theorem dX5_row_13 : decode cX5_row 13 = .ok (.getfield 107, 3) := by decide +kernel
theorem dX5_row_16 : decode cX5_row 16 = .ok (.bipush 40, 2) := by decide +kernel
theorem dX5_row_18 : decode cX5_row 18 = .ok (.if_icmp .ne 9, 3) := by decide +kernel
theorem dX5_row_21 : decode cX5_row 21 = .ok (.aload_n 0, 1) := by decide +kernel
theorem dX5_row_22 : decode cX5_row 22 = .ok (.iconst 1, 1) := by decide +kernel
theorem dX5_row_23 : decode cX5_row 23 = .ok (.invokevirtual 40, 3) := by decide +kernel
theorem dX5_row_26 : decode cX5_row 26 = .ok (.ireturn, 1) := by decide +kernel
theorem dX5_row_27 : decode cX5_row 27 = .ok (.lload_n 1, 1) := by decide +kernel
theorem dX5_row_28 : decode cX5_row 28 = .ok (.lconst 0, 1) := by decide +kernel
theorem dX5_row_29 : decode cX5_row 29 = .ok (.lcmp, 1) := by decide +kernel
theorem dX5_row_30 : decode cX5_row 30 = .ok (.ifCond .lt 14, 3) := by decide +kernel
theorem dX5_row_33 : decode cX5_row 33 = .ok (.lload_n 1, 1) := by decide +kernel
theorem dX5_row_34 : decode cX5_row 34 = .ok (.aload_n 0, 1) := by decide +kernel
theorem dX5_row_35 : decode cX5_row 35 = .ok (.getfield 110, 3) := by decide +kernel
theorem dX5_row_38 : decode cX5_row 38 = .ok (.lshr, 1) := by decide +kernel
theorem dX5_row_39 : decode cX5_row 39 = .ok (.lconst 0, 1) := by decide +kernel
theorem dX5_row_40 : decode cX5_row 40 = .ok (.lcmp, 1) := by decide +kernel
theorem dX5_row_41 : decode cX5_row 41 = .ok (.ifCond .eq 9, 3) := by decide +kernel
theorem dX5_row_44 : decode cX5_row 44 = .ok (.aload_n 0, 1) := by decide +kernel
theorem dX5_row_45 : decode cX5_row 45 = .ok (.iconst 2, 1) := by decide +kernel
theorem dX5_row_46 : decode cX5_row 46 = .ok (.invokevirtual 40, 3) := by decide +kernel
theorem dX5_row_49 : decode cX5_row 49 = .ok (.ireturn, 1) := by decide +kernel
theorem dX5_row_50 : decode cX5_row 50 = .ok (.aload_n 0, 1) := by decide +kernel
theorem dX5_row_51 : decode cX5_row 51 = .ok (.getfield 28, 3) := by decide +kernel
theorem dX5_row_54 : decode cX5_row 54 = .ok (.aload_n 0, 1) := by decide +kernel
theorem dX5_row_55 : decode cX5_row 55 = .ok (.getfield 107, 3) := by decide +kernel
theorem dX5_row_58 : decode cX5_row 58 = .ok (.lload_n 1, 1) := by decide +kernel
theorem dX5_row_59 : decode cX5_row 59 = .ok (.lastore, 1) := by decide +kernel
theorem dX5_row_60 : decode cX5_row 60 = .ok (.aload_n 0, 1) := by decide +kernel
theorem dX5_row_61 : decode cX5_row 61 = .ok (.dup, 1) := by decide +kernel
theorem dX5_row_62 : decode cX5_row 62 = .ok (.getfield 107, 3) := by decide +kernel
theorem dX5_row_65 : decode cX5_row 65 = .ok (.iconst 1, 1) := by decide +kernel
theorem dX5_row_66 : decode cX5_row 66 = .ok (.iadd, 1) := by decide +kernel
theorem dX5_row_67 : decode cX5_row 67 = .ok (.putfield 107, 3) := by decide +kernel
theorem dX5_row_70 : decode cX5_row 70 = .ok (.aload_n 0, 1) := by decide +kernel
theorem dX5_row_71 : decode cX5_row 71 = .ok (.getfield 107, 3) := by decide +kernel
theorem dX5_row_74 : decode cX5_row 74 = .ok (.ireturn, 1) := by decide +kernel
set_option maxRecDepth 20000 in
theorem ggX5_column_X5_has : GoodIn wsX5_column wsX5_has := goodIn_r _ [6] (by decide +kernel) (by decide +kernel)
set_option maxRecDepth 20000 in
theorem gX5_column_X5_has : GoodIn wsX5_column (va_wsS RX5 72 yX5_has wsX5_has) := goodIn_app (goodIn_of _ (by decide +kernel)) ggX5_column_X5_has
theorem dX5_column_0 : decode cX5_column 0 = .ok (.lconst 0, 1) := by decide +kernel
theorem dX5_column_1 : decode cX5_column 1 = .ok (.lstore_n 2, 1) := by decide +kernel
theorem dX5_column_2 : decode cX5_column 2 = .ok (.iconst 0, 1) := by decide +kernel
theorem dX5_column_3 : decode cX5_column 3 = .ok (.istore 4, 2) := by decide +kernel
theorem dX5_column_5 : decode cX5_column 5 = .ok (.iload 4, 2) := by decide +kernel
theorem dX5_column_7 : decode cX5_column 7 = .ok (.aload_n 0, 1) := by decide +kernel
theorem dX5_column_8 : decode cX5_column 8 = .ok (.getfield 107, 3) := by decide +kernel
theorem dX5_column_11 : decode cX5_column 11 = .ok (.if_icmp .ge 30, 3) := by decide +kernel
theorem dX5_column_14 : decode cX5_column 14 = .ok (.aload_n 0, 1) := by decide +kernel
theorem dX5_column_15 : decode cX5_column 15 = .ok (.getfield 28, 3) := by decide +kernel
theorem dX5_column_18 : decode cX5_column 18 = .ok (.iload 4, 2) := by decide +kernel
theorem dX5_column_20 : decode cX5_column 20 = .ok (.laload, 1) := by decide +kernel
theorem dX5_column_21 : decode cX5_column 21 = .ok (.iload_n 1, 1) := by decide +kernel
theorem dX5_column_22 : decode cX5_column 22 = .ok (.invokestatic 72, 3) := by decide +kernel
theorem dX5_column_25 : decode cX5_column 25 = .ok (.ifCond .eq 10, 3) := by decide +kernel
theorem dX5_column_28 : decode cX5_column 28 = .ok (.lload_n 2, 1) := by decide +kernel
theorem dX5_column_29 : decode cX5_column 29 = .ok (.lconst 1, 1) := by decide +kernel
theorem dX5_column_30 : decode cX5_column 30 = .ok (.iload 4, 2) := by decide +kernel
theorem dX5_column_32 : decode cX5_column 32 = .ok (.lshl, 1) := by decide +kernel
theorem dX5_column_33 : decode cX5_column 33 = .ok (.lor, 1) := by decide +kernel
theorem dX5_column_34 : decode cX5_column 34 = .ok (.lstore_n 2, 1) := by decide +kernel
theorem dX5_column_35 : decode cX5_column 35 = .ok (.iinc 4 1, 3) := by decide +kernel
theorem dX5_column_38 : decode cX5_column 38 = .ok (.goto (-33), 3) := by decide +kernel
theorem dX5_column_41 : decode cX5_column 41 = .ok (.lload_n 2, 1) := by decide +kernel
theorem dX5_column_42 : decode cX5_column 42 = .ok (.lreturn, 1) := by decide +kernel
theorem dX5_numbered_0 : decode cX5_numbered 0 = .ok (.aload_n 0, 1) := by decide +kernel
theorem dX5_numbered_1 : decode cX5_numbered 1 = .ok (.arraylength, 1) := by decide +kernel
theorem dX5_numbered_2 : decode cX5_numbered 2 = .ok (.iconst 1, 1) := by decide +kernel
theorem dX5_numbered_3 : decode cX5_numbered 3 = .ok (.iadd, 1) := by decide +kernel
theorem dX5_numbered_4 : decode cX5_numbered 4 = .ok (.newarray .int, 2) := by decide +kernel
theorem dX5_numbered_6 : decode cX5_numbered 6 = .ok (.astore_n 1, 1) := by decide +kernel
theorem dX5_numbered_7 : decode cX5_numbered 7 = .ok (.iconst 0, 1) := by decide +kernel
theorem dX5_numbered_8 : decode cX5_numbered 8 = .ok (.istore_n 2, 1) := by decide +kernel
theorem dX5_numbered_9 : decode cX5_numbered 9 = .ok (.iconst 0, 1) := by decide +kernel
theorem dX5_numbered_10 : decode cX5_numbered 10 = .ok (.istore_n 3, 1) := by decide +kernel
theorem dX5_numbered_11 : decode cX5_numbered 11 = .ok (.iload_n 3, 1) := by decide +kernel
theorem dX5_numbered_12 : decode cX5_numbered 12 = .ok (.aload_n 0, 1) := by decide +kernel
theorem dX5_numbered_13 : decode cX5_numbered 13 = .ok (.arraylength, 1) := by decide +kernel
theorem dX5_numbered_14 : decode cX5_numbered 14 = .ok (.if_icmp .ge 62, 3) := by decide +kernel
theorem dX5_numbered_17 : decode cX5_numbered 17 = .ok (.aload_n 1, 1) := by decide +kernel
theorem dX5_numbered_18 : decode cX5_numbered 18 = .ok (.iload_n 3, 1) := by decide +kernel
theorem dX5_numbered_19 : decode cX5_numbered 19 = .ok (.iload_n 2, 1) := by decide +kernel
theorem dX5_numbered_20 : decode cX5_numbered 20 = .ok (.iastore, 1) := by decide +kernel
theorem dX5_numbered_21 : decode cX5_numbered 21 = .ok (.iload_n 3, 1) := by decide +kernel
theorem dX5_numbered_22 : decode cX5_numbered 22 = .ok (.iconst 1, 1) := by decide +kernel
theorem dX5_numbered_23 : decode cX5_numbered 23 = .ok (.isub, 1) := by decide +kernel
theorem dX5_numbered_24 : decode cX5_numbered 24 = .ok (.istore 4, 2) := by decide +kernel
theorem dX5_numbered_26 : decode cX5_numbered 26 = .ok (.iload 4, 2) := by decide +kernel
theorem dX5_numbered_28 : decode cX5_numbered 28 = .ok (.ifCond .lt 27, 3) := by decide +kernel
theorem dX5_numbered_31 : decode cX5_numbered 31 = .ok (.aload_n 0, 1) := by decide +kernel
theorem dX5_numbered_32 : decode cX5_numbered 32 = .ok (.iload 4, 2) := by decide +kernel
theorem dX5_numbered_34 : decode cX5_numbered 34 = .ok (.laload, 1) := by decide +kernel
theorem dX5_numbered_35 : decode cX5_numbered 35 = .ok (.aload_n 0, 1) := by decide +kernel
theorem dX5_numbered_36 : decode cX5_numbered 36 = .ok (.iload_n 3, 1) := by decide +kernel
theorem dX5_numbered_37 : decode cX5_numbered 37 = .ok (.laload, 1) := by decide +kernel
theorem dX5_numbered_38 : decode cX5_numbered 38 = .ok (.lcmp, 1) := by decide +kernel
theorem dX5_numbered_39 : decode cX5_numbered 39 = .ok (.ifCond .ne 10, 3) := by decide +kernel
theorem dX5_numbered_42 : decode cX5_numbered 42 = .ok (.aload_n 1, 1) := by decide +kernel
theorem dX5_numbered_43 : decode cX5_numbered 43 = .ok (.iload_n 3, 1) := by decide +kernel
theorem dX5_numbered_44 : decode cX5_numbered 44 = .ok (.aload_n 1, 1) := by decide +kernel
theorem dX5_numbered_45 : decode cX5_numbered 45 = .ok (.iload 4, 2) := by decide +kernel
theorem dX5_numbered_47 : decode cX5_numbered 47 = .ok (.iaload, 1) := by decide +kernel
theorem dX5_numbered_48 : decode cX5_numbered 48 = .ok (.iastore, 1) := by decide +kernel
theorem dX5_numbered_49 : decode cX5_numbered 49 = .ok (.iinc 4 (-1), 3) := by decide +kernel
theorem dX5_numbered_52 : decode cX5_numbered 52 = .ok (.goto (-26), 3) := by decide +kernel
theorem dX5_numbered_55 : decode cX5_numbered 55 = .ok (.iload_n 2, 1) := by decide +kernel
theorem dX5_numbered_56 : decode cX5_numbered 56 = .ok (.aload_n 1, 1) := by decide +kernel
theorem dX5_numbered_57 : decode cX5_numbered 57 = .ok (.iload_n 3, 1) := by decide +kernel
theorem dX5_numbered_58 : decode cX5_numbered 58 = .ok (.iaload, 1) := by decide +kernel
theorem dX5_numbered_59 : decode cX5_numbered 59 = .ok (.iload_n 2, 1) := by decide +kernel
theorem dX5_numbered_60 : decode cX5_numbered 60 = .ok (.if_icmp .ne 7, 3) := by decide +kernel
theorem dX5_numbered_63 : decode cX5_numbered 63 = .ok (.iconst 1, 1) := by decide +kernel
theorem dX5_numbered_64 : decode cX5_numbered 64 = .ok (.goto 4, 3) := by decide +kernel
theorem dX5_numbered_67 : decode cX5_numbered 67 = .ok (.iconst 0, 1) := by decide +kernel
theorem dX5_numbered_68 : decode cX5_numbered 68 = .ok (.iadd, 1) := by decide +kernel
theorem dX5_numbered_69 : decode cX5_numbered 69 = .ok (.istore_n 2, 1) := by decide +kernel
theorem dX5_numbered_70 : decode cX5_numbered 70 = .ok (.iinc 3 1, 3) := by decide +kernel
theorem dX5_numbered_73 : decode cX5_numbered 73 = .ok (.goto (-62), 3) := by decide +kernel
theorem dX5_numbered_76 : decode cX5_numbered 76 = .ok (.aload_n 1, 1) := by decide +kernel
theorem dX5_numbered_77 : decode cX5_numbered 77 = .ok (.aload_n 0, 1) := by decide +kernel
theorem dX5_numbered_78 : decode cX5_numbered 78 = .ok (.arraylength, 1) := by decide +kernel
theorem dX5_numbered_79 : decode cX5_numbered 79 = .ok (.iload_n 2, 1) := by decide +kernel
theorem dX5_numbered_80 : decode cX5_numbered 80 = .ok (.iastore, 1) := by decide +kernel
theorem dX5_numbered_81 : decode cX5_numbered 81 = .ok (.aload_n 1, 1) := by decide +kernel
theorem dX5_numbered_82 : decode cX5_numbered 82 = .ok (.areturn, 1) := by decide +kernel
set_option maxRecDepth 20000 in
theorem ggX5_fit_X5_fail : GoodIn wsX5_fit wsX5_fail := goodIn_r _ [17, 1, 35, 36, 37, 38, 39, 40, 41, 42, 43] (by decide +kernel) (by decide +kernel)
set_option maxRecDepth 20000 in
theorem gX5_fit_X5_fail : GoodIn wsX5_fit (wsV RX5 40 RX5 yX5_fail wsX5_fail) := goodIn_app (goodIn_of _ (by decide +kernel)) ggX5_fit_X5_fail
set_option maxRecDepth 20000 in
theorem ggX5_fit_X5_column : GoodIn wsX5_fit wsX5_column := goodIn_r _ [21, 2, 4, 22, 23, 16, 24, 35, 36, 37, 38, 39, 40, 41, 42, 43] (by decide +kernel) (by decide +kernel)
set_option maxRecDepth 20000 in
theorem gX5_fit_X5_column : GoodIn wsX5_fit (wsV RX5 119 RX5 yX5_column wsX5_column) := goodIn_app (goodIn_of _ (by decide +kernel)) ggX5_fit_X5_column
set_option maxRecDepth 20000 in
theorem ggX5_fit_X5_numbered : GoodIn wsX5_fit wsX5_numbered := goodIn_r _ [27, 28] (by decide +kernel) (by decide +kernel)
set_option maxRecDepth 20000 in
theorem gX5_fit_X5_numbered : GoodIn wsX5_fit (va_wsS RX5 122 yX5_numbered wsX5_numbered) := goodIn_app (goodIn_of _ (by decide +kernel)) ggX5_fit_X5_numbered
set_option maxRecDepth 20000 in
theorem ggX5_fit_X5_add : GoodIn wsX5_fit wsX5_add := goodIn_r _ [32, 33, 10, 34, 35, 36, 37, 38, 39, 40, 41, 42, 43] (by decide +kernel) (by decide +kernel)
set_option maxRecDepth 20000 in
theorem gX5_fit_X5_add : GoodIn wsX5_fit (wsV RX5 44 RX5 yX5_add wsX5_add) := goodIn_app (goodIn_of _ (by decide +kernel)) ggX5_fit_X5_add
set_option maxRecDepth 20000 in
theorem ggX5_fit_X5_has : GoodIn wsX5_fit wsX5_has := goodIn_r _ [24] (by decide +kernel) (by decide +kernel)
set_option maxRecDepth 20000 in
theorem gX5_fit_X5_has : GoodIn wsX5_fit (va_wsS RX5 72 yX5_has wsX5_has) := goodIn_app (goodIn_of _ (by decide +kernel)) ggX5_fit_X5_has
theorem dX5_fit_0 : decode cX5_fit 0 = .ok (.aload_n 0, 1) := by decide +kernel
theorem dX5_fit_1 : decode cX5_fit 1 = .ok (.iconst 0, 1) := by decide +kernel
theorem dX5_fit_2 : decode cX5_fit 2 = .ok (.putfield 32, 3) := by decide +kernel
theorem dX5_fit_5 : decode cX5_fit 5 = .ok (.aload_n 0, 1) := by decide +kernel
theorem dX5_fit_6 : decode cX5_fit 6 = .ok (.getfield 107, 3) := by decide +kernel
theorem dX5_fit_9 : decode cX5_fit 9 = .ok (.ifCond .ne 9, 3) := by decide +kernel
theorem dX5_fit_12 : decode cX5_fit 12 = .ok (.aload_n 0, 1) := by decide +kernel
theorem dX5_fit_13 : decode cX5_fit 13 = .ok (.iconst 1, 1) := by decide +kernel
theorem dX5_fit_14 : decode cX5_fit 14 = .ok (.invokevirtual 40, 3) := by decide +kernel
theorem dX5_fit_17 : decode cX5_fit 17 = .ok (.ireturn, 1) := by decide +kernel
theorem dX5_fit_18 : decode cX5_fit 18 = .ok (.aload_n 0, 1) := by decide +kernel
theorem dX5_fit_19 : decode cX5_fit 19 = .ok (.getfield 107, 3) := by decide +kernel
theorem dX5_fit_22 : decode cX5_fit 22 = .ok (.newarray .long, 2) := by decide +kernel
theorem dX5_fit_24 : decode cX5_fit 24 = .ok (.astore_n 1, 1) := by decide +kernel
theorem dX5_fit_25 : decode cX5_fit 25 = .ok (.aload_n 0, 1) := by decide +kernel
theorem dX5_fit_26 : decode cX5_fit 26 = .ok (.getfield 28, 3) := by decide +kernel
theorem dX5_fit_29 : decode cX5_fit 29 = .ok (.iconst 0, 1) := by decide +kernel
theorem dX5_fit_30 : decode cX5_fit 30 = .ok (.aload_n 1, 1) := by decide +kernel
theorem dX5_fit_31 : decode cX5_fit 31 = .ok (.iconst 0, 1) := by decide +kernel
theorem dX5_fit_32 : decode cX5_fit 32 = .ok (.aload_n 0, 1) := by decide +kernel
theorem dX5_fit_33 : decode cX5_fit 33 = .ok (.getfield 107, 3) := by decide +kernel
theorem dX5_fit_36 : decode cX5_fit 36 = .ok (.invokestatic 113, 3) := by decide +kernel
theorem dX5_fit_39 : decode cX5_fit 39 = .ok (.aload_n 0, 1) := by decide +kernel
theorem dX5_fit_40 : decode cX5_fit 40 = .ok (.getfield 110, 3) := by decide +kernel
theorem dX5_fit_43 : decode cX5_fit 43 = .ok (.newarray .long, 2) := by decide +kernel
theorem dX5_fit_45 : decode cX5_fit 45 = .ok (.astore_n 2, 1) := by decide +kernel
theorem dX5_fit_46 : decode cX5_fit 46 = .ok (.iconst 0, 1) := by decide +kernel
theorem dX5_fit_47 : decode cX5_fit 47 = .ok (.istore_n 3, 1) := by decide +kernel
theorem dX5_fit_48 : decode cX5_fit 48 = .ok (.iload_n 3, 1) := by decide +kernel
theorem dX5_fit_49 : decode cX5_fit 49 = .ok (.aload_n 0, 1) := by decide +kernel
theorem dX5_fit_50 : decode cX5_fit 50 = .ok (.getfield 110, 3) := by decide +kernel
theorem dX5_fit_53 : decode cX5_fit 53 = .ok (.if_icmp .ge 17, 3) := by decide +kernel
theorem dX5_fit_56 : decode cX5_fit 56 = .ok (.aload_n 2, 1) := by decide +kernel
theorem dX5_fit_57 : decode cX5_fit 57 = .ok (.iload_n 3, 1) := by decide +kernel
theorem dX5_fit_58 : decode cX5_fit 58 = .ok (.aload_n 0, 1) := by decide +kernel
theorem dX5_fit_59 : decode cX5_fit 59 = .ok (.iload_n 3, 1) := by decide +kernel
theorem dX5_fit_60 : decode cX5_fit 60 = .ok (.invokevirtual 119, 3) := by decide +kernel
theorem dX5_fit_63 : decode cX5_fit 63 = .ok (.lastore, 1) := by decide +kernel
theorem dX5_fit_64 : decode cX5_fit 64 = .ok (.iinc 3 1, 3) := by decide +kernel
theorem dX5_fit_67 : decode cX5_fit 67 = .ok (.goto (-19), 3) := by decide +kernel
theorem dX5_fit_70 : decode cX5_fit 70 = .ok (.aload_n 2, 1) := by decide +kernel
theorem dX5_fit_71 : decode cX5_fit 71 = .ok (.invokestatic 122, 3) := by decide +kernel
theorem dX5_fit_74 : decode cX5_fit 74 = .ok (.astore_n 3, 1) := by decide +kernel
theorem dX5_fit_75 : decode cX5_fit 75 = .ok (.aload_n 1, 1) := by decide +kernel
theorem dX5_fit_76 : decode cX5_fit 76 = .ok (.invokestatic 122, 3) := by decide +kernel
theorem dX5_fit_79 : decode cX5_fit 79 = .ok (.astore 4, 2) := by decide +kernel
theorem dX5_fit_81 : decode cX5_fit 81 = .ok (.aload_n 3, 1) := by decide +kernel
theorem dX5_fit_82 : decode cX5_fit 82 = .ok (.aload_n 0, 1) := by decide +kernel
theorem dX5_fit_83 : decode cX5_fit 83 = .ok (.getfield 110, 3) := by decide +kernel
theorem dX5_fit_86 : decode cX5_fit 86 = .ok (.iaload, 1) := by decide +kernel
theorem dX5_fit_87 : decode cX5_fit 87 = .ok (.bipush 8, 2) := by decide +kernel
theorem dX5_fit_89 : decode cX5_fit 89 = .ok (.if_icmp .gt 15, 3) := by decide +kernel
theorem dX5_fit_92 : decode cX5_fit 92 = .ok (.aload 4, 2) := by decide +kernel
theorem dX5_fit_94 : decode cX5_fit 94 = .ok (.aload_n 0, 1) := by decide +kernel
theorem dX5_fit_95 : decode cX5_fit 95 = .ok (.getfield 107, 3) := by decide +kernel
theorem dX5_fit_98 : decode cX5_fit 98 = .ok (.iaload, 1) := by decide +kernel
theorem dX5_fit_99 : decode cX5_fit 99 = .ok (.bipush 10, 2) := by decide +kernel
theorem dX5_fit_101 : decode cX5_fit 101 = .ok (.if_icmp .le 9, 3) := by decide +kernel
theorem dX5_fit_104 : decode cX5_fit 104 = .ok (.aload_n 0, 1) := by decide +kernel
theorem dX5_fit_105 : decode cX5_fit 105 = .ok (.iconst 1, 1) := by decide +kernel
theorem dX5_fit_106 : decode cX5_fit 106 = .ok (.invokevirtual 40, 3) := by decide +kernel
theorem dX5_fit_109 : decode cX5_fit 109 = .ok (.ireturn, 1) := by decide +kernel
theorem dX5_fit_110 : decode cX5_fit 110 = .ok (.aload_n 0, 1) := by decide +kernel
theorem dX5_fit_111 : decode cX5_fit 111 = .ok (.getfield 17, 3) := by decide +kernel
theorem dX5_fit_114 : decode cX5_fit 114 = .ok (.iconst 0, 1) := by decide +kernel
theorem dX5_fit_115 : decode cX5_fit 115 = .ok (.iconst 0, 1) := by decide +kernel
theorem dX5_fit_116 : decode cX5_fit 116 = .ok (.iastore, 1) := by decide +kernel
theorem dX5_fit_117 : decode cX5_fit 117 = .ok (.aload_n 0, 1) := by decide +kernel
theorem dX5_fit_118 : decode cX5_fit 118 = .ok (.getfield 17, 3) := by decide +kernel
theorem dX5_fit_121 : decode cX5_fit 121 = .ok (.iconst 1, 1) := by decide +kernel
theorem dX5_fit_122 : decode cX5_fit 122 = .ok (.iconst 0, 1) := by decide +kernel
theorem dX5_fit_123 : decode cX5_fit 123 = .ok (.iastore, 1) := by decide +kernel
theorem dX5_fit_124 : decode cX5_fit 124 = .ok (.iconst 0, 1) := by decide +kernel
theorem dX5_fit_125 : decode cX5_fit 125 = .ok (.istore 5, 2) := by decide +kernel
theorem dX5_fit_127 : decode cX5_fit 127 = .ok (.iload 5, 2) := by decide +kernel
theorem dX5_fit_129 : decode cX5_fit 129 = .ok (.bipush 10, 2) := by decide +kernel
theorem dX5_fit_131 : decode cX5_fit 131 = .ok (.if_icmp .ge 17, 3) := by decide +kernel
theorem dX5_fit_134 : decode cX5_fit 134 = .ok (.aload_n 0, 1) := by decide +kernel
theorem dX5_fit_135 : decode cX5_fit 135 = .ok (.getfield 13, 3) := by decide +kernel
theorem dX5_fit_138 : decode cX5_fit 138 = .ok (.iload 5, 2) := by decide +kernel
theorem dX5_fit_140 : decode cX5_fit 140 = .ok (.iconst 0, 1) := by decide +kernel
theorem dX5_fit_141 : decode cX5_fit 141 = .ok (.iastore, 1) := by decide +kernel
theorem dX5_fit_142 : decode cX5_fit 142 = .ok (.iinc 5 1, 3) := by decide +kernel
theorem dX5_fit_145 : decode cX5_fit 145 = .ok (.goto (-18), 3) := by decide +kernel
theorem dX5_fit_148 : decode cX5_fit 148 = .ok (.iconst 0, 1) := by decide +kernel
theorem dX5_fit_149 : decode cX5_fit 149 = .ok (.istore 5, 2) := by decide +kernel
theorem dX5_fit_151 : decode cX5_fit 151 = .ok (.iload 5, 2) := by decide +kernel
theorem dX5_fit_153 : decode cX5_fit 153 = .ok (.aload_n 0, 1) := by decide +kernel
theorem dX5_fit_154 : decode cX5_fit 154 = .ok (.getfield 110, 3) := by decide +kernel
theorem dX5_fit_157 : decode cX5_fit 157 = .ok (.if_icmp .ge 20, 3) := by decide +kernel
theorem dX5_fit_160 : decode cX5_fit 160 = .ok (.aload_n 0, 1) := by decide +kernel
theorem dX5_fit_161 : decode cX5_fit 161 = .ok (.iconst 0, 1) := by decide +kernel
theorem dX5_fit_162 : decode cX5_fit 162 = .ok (.aload_n 3, 1) := by decide +kernel
theorem dX5_fit_163 : decode cX5_fit 163 = .ok (.iload 5, 2) := by decide +kernel
theorem dX5_fit_165 : decode cX5_fit 165 = .ok (.iaload, 1) := by decide +kernel
theorem dX5_fit_166 : decode cX5_fit 166 = .ok (.iconst 0, 1) := by decide +kernel
theorem dX5_fit_167 : decode cX5_fit 167 = .ok (.invokevirtual 44, 3) := by decide +kernel
theorem dX5_fit_170 : decode cX5_fit 170 = .ok (.pop, 1) := by decide +kernel
theorem dX5_fit_171 : decode cX5_fit 171 = .ok (.iinc 5 1, 3) := by decide +kernel
theorem dX5_fit_174 : decode cX5_fit 174 = .ok (.goto (-23), 3) := by decide +kernel
theorem dX5_fit_177 : decode cX5_fit 177 = .ok (.iconst 0, 1) := by decide +kernel
theorem dX5_fit_178 : decode cX5_fit 178 = .ok (.istore 5, 2) := by decide +kernel
theorem dX5_fit_180 : decode cX5_fit 180 = .ok (.iload 5, 2) := by decide +kernel
theorem dX5_fit_182 : decode cX5_fit 182 = .ok (.aload_n 0, 1) := by decide +kernel
theorem dX5_fit_183 : decode cX5_fit 183 = .ok (.getfield 107, 3) := by decide +kernel
theorem dX5_fit_186 : decode cX5_fit 186 = .ok (.if_icmp .ge 76, 3) := by decide +kernel
theorem dX5_fit_189 : decode cX5_fit 189 = .ok (.aload_n 0, 1) := by decide +kernel
theorem dX5_fit_190 : decode cX5_fit 190 = .ok (.iconst 1, 1) := by decide +kernel
theorem dX5_fit_191 : decode cX5_fit 191 = .ok (.iconst 1, 1) := by decide +kernel
theorem dX5_fit_192 : decode cX5_fit 192 = .ok (.aload 4, 2) := by decide +kernel
theorem dX5_fit_194 : decode cX5_fit 194 = .ok (.iload 5, 2) := by decide +kernel
theorem dX5_fit_196 : decode cX5_fit 196 = .ok (.iaload, 1) := by decide +kernel
theorem dX5_fit_197 : decode cX5_fit 197 = .ok (.ishl, 1) := by decide +kernel
theorem dX5_fit_198 : decode cX5_fit 198 = .ok (.iconst 1, 1) := by decide +kernel
theorem dX5_fit_199 : decode cX5_fit 199 = .ok (.invokevirtual 44, 3) := by decide +kernel
theorem dX5_fit_202 : decode cX5_fit 202 = .ok (.pop, 1) := by decide +kernel
theorem dX5_fit_203 : decode cX5_fit 203 = .ok (.iconst 0, 1) := by decide +kernel
theorem dX5_fit_204 : decode cX5_fit 204 = .ok (.istore 6, 2) := by decide +kernel
theorem dX5_fit_206 : decode cX5_fit 206 = .ok (.iload 6, 2) := by decide +kernel
theorem dX5_fit_208 : decode cX5_fit 208 = .ok (.aload_n 0, 1) := by decide +kernel
theorem dX5_fit_209 : decode cX5_fit 209 = .ok (.getfield 110, 3) := by decide +kernel
theorem dX5_fit_212 : decode cX5_fit 212 = .ok (.if_icmp .ge 44, 3) := by decide +kernel
theorem dX5_fit_215 : decode cX5_fit 215 = .ok (.aload_n 1, 1) := by decide +kernel
theorem dX5_fit_216 : decode cX5_fit 216 = .ok (.iload 5, 2) := by decide +kernel
theorem dX5_fit_218 : decode cX5_fit 218 = .ok (.laload, 1) := by decide +kernel
theorem dX5_fit_219 : decode cX5_fit 219 = .ok (.iload 6, 2) := by decide +kernel
theorem dX5_fit_221 : decode cX5_fit 221 = .ok (.invokestatic 72, 3) := by decide +kernel
theorem dX5_fit_224 : decode cX5_fit 224 = .ok (.aload_n 0, 1) := by decide +kernel
theorem dX5_fit_225 : decode cX5_fit 225 = .ok (.getfield 7, 3) := by decide +kernel
theorem dX5_fit_228 : decode cX5_fit 228 = .ok (.if_icmp .ne 22, 3) := by decide +kernel
theorem dX5_fit_231 : decode cX5_fit 231 = .ok (.aload_n 0, 1) := by decide +kernel
theorem dX5_fit_232 : decode cX5_fit 232 = .ok (.getfield 13, 3) := by decide +kernel
theorem dX5_fit_235 : decode cX5_fit 235 = .ok (.aload 4, 2) := by decide +kernel
theorem dX5_fit_237 : decode cX5_fit 237 = .ok (.iload 5, 2) := by decide +kernel
theorem dX5_fit_239 : decode cX5_fit 239 = .ok (.iaload, 1) := by decide +kernel
theorem dX5_fit_240 : decode cX5_fit 240 = .ok (.dup2, 1) := by decide +kernel
theorem dX5_fit_241 : decode cX5_fit 241 = .ok (.iaload, 1) := by decide +kernel
theorem dX5_fit_242 : decode cX5_fit 242 = .ok (.iconst 1, 1) := by decide +kernel
theorem dX5_fit_243 : decode cX5_fit 243 = .ok (.aload_n 3, 1) := by decide +kernel
theorem dX5_fit_244 : decode cX5_fit 244 = .ok (.iload 6, 2) := by decide +kernel
theorem dX5_fit_246 : decode cX5_fit 246 = .ok (.iaload, 1) := by decide +kernel
theorem dX5_fit_247 : decode cX5_fit 247 = .ok (.ishl, 1) := by decide +kernel
theorem dX5_fit_248 : decode cX5_fit 248 = .ok (.ior, 1) := by decide +kernel
theorem dX5_fit_249 : decode cX5_fit 249 = .ok (.iastore, 1) := by decide +kernel
theorem dX5_fit_250 : decode cX5_fit 250 = .ok (.iinc 6 1, 3) := by decide +kernel
theorem dX5_fit_253 : decode cX5_fit 253 = .ok (.goto (-47), 3) := by decide +kernel
theorem dX5_fit_256 : decode cX5_fit 256 = .ok (.iinc 5 1, 3) := by decide +kernel
theorem dX5_fit_259 : decode cX5_fit 259 = .ok (.goto (-79), 3) := by decide +kernel
theorem dX5_fit_262 : decode cX5_fit 262 = .ok (.aload_n 3, 1) := by decide +kernel
theorem dX5_fit_263 : decode cX5_fit 263 = .ok (.aload_n 0, 1) := by decide +kernel
theorem dX5_fit_264 : decode cX5_fit 264 = .ok (.getfield 110, 3) := by decide +kernel
theorem dX5_fit_267 : decode cX5_fit 267 = .ok (.iaload, 1) := by decide +kernel
theorem dX5_fit_268 : decode cX5_fit 268 = .ok (.ireturn, 1) := by decide +kernel
set_option maxRecDepth 20000 in
theorem ggX5_differences_X5_above : GoodIn wsX5_differences wsX5_above := goodIn_r _ [10, 2, 11, 12, 13, 14, 15, 9, 16, 17, 25, 26, 27, 28, 29, 30, 31, 32, 33] (by decide +kernel) (by decide +kernel)
set_option maxRecDepth 20000 in
theorem gX5_differences_X5_above : GoodIn wsX5_differences (wsV RX5 68 RX5 yX5_above wsX5_above) := goodIn_app (goodIn_of _ (by decide +kernel)) ggX5_differences_X5_above
set_option maxRecDepth 20000 in
theorem ggX5_differences_J13_bitCount_95d88 : GoodIn wsX5_differences wsJ13_bitCount_95d88 := goodIn_r _ [21, 22, 23, 24] (by decide +kernel) (by decide +kernel)
set_option maxRecDepth 20000 in
theorem gX5_differences_J13_bitCount_95d88 : GoodIn wsX5_differences (va_wsS RX5 86 yJ13_bitCount_95d88 wsJ13_bitCount_95d88) := goodIn_app (goodIn_of _ (by decide +kernel)) ggX5_differences_J13_bitCount_95d88
theorem dX5_differences_0 : decode cX5_differences 0 = .ok (.aload_n 0, 1) := by decide +kernel
theorem dX5_differences_1 : decode cX5_differences 1 = .ok (.iconst 0, 1) := by decide +kernel
theorem dX5_differences_2 : decode cX5_differences 2 = .ok (.putfield 32, 3) := by decide +kernel
theorem dX5_differences_5 : decode cX5_differences 5 = .ok (.aload_n 0, 1) := by decide +kernel
theorem dX5_differences_6 : decode cX5_differences 6 = .ok (.getfield 17, 3) := by decide +kernel
theorem dX5_differences_9 : decode cX5_differences 9 = .ok (.iconst 0, 1) := by decide +kernel
theorem dX5_differences_10 : decode cX5_differences 10 = .ok (.iaload, 1) := by decide +kernel
theorem dX5_differences_11 : decode cX5_differences 11 = .ok (.aload_n 0, 1) := by decide +kernel
theorem dX5_differences_12 : decode cX5_differences 12 = .ok (.getfield 110, 3) := by decide +kernel
theorem dX5_differences_15 : decode cX5_differences 15 = .ok (.if_icmp .ne 16, 3) := by decide +kernel
theorem dX5_differences_18 : decode cX5_differences 18 = .ok (.aload_n 0, 1) := by decide +kernel
theorem dX5_differences_19 : decode cX5_differences 19 = .ok (.getfield 17, 3) := by decide +kernel
theorem dX5_differences_22 : decode cX5_differences 22 = .ok (.iconst 1, 1) := by decide +kernel
theorem dX5_differences_23 : decode cX5_differences 23 = .ok (.iaload, 1) := by decide +kernel
theorem dX5_differences_24 : decode cX5_differences 24 = .ok (.aload_n 0, 1) := by decide +kernel
theorem dX5_differences_25 : decode cX5_differences 25 = .ok (.getfield 107, 3) := by decide +kernel
theorem dX5_differences_28 : decode cX5_differences 28 = .ok (.if_icmp .eq 5, 3) := by decide +kernel
theorem dX5_differences_31 : decode cX5_differences 31 = .ok (.iconst (-1), 1) := by decide +kernel
theorem dX5_differences_32 : decode cX5_differences 32 = .ok (.ireturn, 1) := by decide +kernel
theorem dX5_differences_33 : decode cX5_differences 33 = .ok (.iconst 0, 1) := by decide +kernel
theorem dX5_differences_34 : decode cX5_differences 34 = .ok (.istore_n 1, 1) := by decide +kernel
theorem dX5_differences_35 : decode cX5_differences 35 = .ok (.iconst 0, 1) := by decide +kernel
theorem dX5_differences_36 : decode cX5_differences 36 = .ok (.istore_n 2, 1) := by decide +kernel
theorem dX5_differences_37 : decode cX5_differences 37 = .ok (.iload_n 2, 1) := by decide +kernel
theorem dX5_differences_38 : decode cX5_differences 38 = .ok (.aload_n 0, 1) := by decide +kernel
theorem dX5_differences_39 : decode cX5_differences 39 = .ok (.getfield 107, 3) := by decide +kernel
theorem dX5_differences_42 : decode cX5_differences 42 = .ok (.if_icmp .ge 27, 3) := by decide +kernel
theorem dX5_differences_45 : decode cX5_differences 45 = .ok (.iload_n 1, 1) := by decide +kernel
theorem dX5_differences_46 : decode cX5_differences 46 = .ok (.aload_n 0, 1) := by decide +kernel
theorem dX5_differences_47 : decode cX5_differences 47 = .ok (.iload_n 2, 1) := by decide +kernel
theorem dX5_differences_48 : decode cX5_differences 48 = .ok (.invokevirtual 68, 3) := by decide +kernel
theorem dX5_differences_51 : decode cX5_differences 51 = .ok (.aload_n 0, 1) := by decide +kernel
theorem dX5_differences_52 : decode cX5_differences 52 = .ok (.getfield 28, 3) := by decide +kernel
theorem dX5_differences_55 : decode cX5_differences 55 = .ok (.iload_n 2, 1) := by decide +kernel
theorem dX5_differences_56 : decode cX5_differences 56 = .ok (.laload, 1) := by decide +kernel
theorem dX5_differences_57 : decode cX5_differences 57 = .ok (.lxor, 1) := by decide +kernel
theorem dX5_differences_58 : decode cX5_differences 58 = .ok (.invokestatic 86, 3) := by decide +kernel
theorem dX5_differences_61 : decode cX5_differences 61 = .ok (.iadd, 1) := by decide +kernel
theorem dX5_differences_62 : decode cX5_differences 62 = .ok (.istore_n 1, 1) := by decide +kernel
theorem dX5_differences_63 : decode cX5_differences 63 = .ok (.iinc 2 1, 3) := by decide +kernel
theorem dX5_differences_66 : decode cX5_differences 66 = .ok (.goto (-29), 3) := by decide +kernel
theorem dX5_differences_69 : decode cX5_differences 69 = .ok (.iload_n 1, 1) := by decide +kernel
theorem dX5_differences_70 : decode cX5_differences 70 = .ok (.ireturn, 1) := by decide +kernel
theorem dX5_digest_0 : decode cX5_digest 0 = .ok (.aload_n 0, 1) := by decide +kernel
theorem dX5_digest_1 : decode cX5_digest 1 = .ok (.iconst 0, 1) := by decide +kernel
theorem dX5_digest_2 : decode cX5_digest 2 = .ok (.putfield 32, 3) := by decide +kernel
theorem dX5_digest_5 : decode cX5_digest 5 = .ok (.ldc2_w 126, 3) := by decide +kernel
theorem dX5_digest_8 : decode cX5_digest 8 = .ok (.aload_n 0, 1) := by decide +kernel
theorem dX5_digest_9 : decode cX5_digest 9 = .ok (.getfield 7, 3) := by decide +kernel
theorem dX5_digest_12 : decode cX5_digest 12 = .ok (.ifCond .eq 7, 3) := by decide +kernel
theorem dX5_digest_15 : decode cX5_digest 15 = .ok (.lconst 1, 1) := by decide +kernel
theorem dX5_digest_16 : decode cX5_digest 16 = .ok (.goto 4, 3) := by decide +kernel
theorem dX5_digest_19 : decode cX5_digest 19 = .ok (.lconst 0, 1) := by decide +kernel
theorem dX5_digest_20 : decode cX5_digest 20 = .ok (.ladd, 1) := by decide +kernel
theorem dX5_digest_21 : decode cX5_digest 21 = .ok (.lstore_n 1, 1) := by decide +kernel
theorem dX5_digest_22 : decode cX5_digest 22 = .ok (.aload_n 0, 1) := by decide +kernel
theorem dX5_digest_23 : decode cX5_digest 23 = .ok (.getfield 13, 3) := by decide +kernel
theorem dX5_digest_26 : decode cX5_digest 26 = .ok (.astore_n 3, 1) := by decide +kernel
theorem dX5_digest_27 : decode cX5_digest 27 = .ok (.aload_n 3, 1) := by decide +kernel
theorem dX5_digest_28 : decode cX5_digest 28 = .ok (.arraylength, 1) := by decide +kernel
theorem dX5_digest_29 : decode cX5_digest 29 = .ok (.istore 4, 2) := by decide +kernel
theorem dX5_digest_31 : decode cX5_digest 31 = .ok (.iconst 0, 1) := by decide +kernel
theorem dX5_digest_32 : decode cX5_digest 32 = .ok (.istore 5, 2) := by decide +kernel
theorem dX5_digest_34 : decode cX5_digest 34 = .ok (.iload 5, 2) := by decide +kernel
theorem dX5_digest_36 : decode cX5_digest 36 = .ok (.iload 4, 2) := by decide +kernel
theorem dX5_digest_38 : decode cX5_digest 38 = .ok (.if_icmp .ge 25, 3) := by decide +kernel
theorem dX5_digest_41 : decode cX5_digest 41 = .ok (.aload_n 3, 1) := by decide +kernel
theorem dX5_digest_42 : decode cX5_digest 42 = .ok (.iload 5, 2) := by decide +kernel
theorem dX5_digest_44 : decode cX5_digest 44 = .ok (.iaload, 1) := by decide +kernel
theorem dX5_digest_45 : decode cX5_digest 45 = .ok (.istore 6, 2) := by decide +kernel
theorem dX5_digest_47 : decode cX5_digest 47 = .ok (.lload_n 1, 1) := by decide +kernel
theorem dX5_digest_48 : decode cX5_digest 48 = .ok (.ldc2_w 128, 3) := by decide +kernel
theorem dX5_digest_51 : decode cX5_digest 51 = .ok (.lmul, 1) := by decide +kernel
theorem dX5_digest_52 : decode cX5_digest 52 = .ok (.iload 6, 2) := by decide +kernel
theorem dX5_digest_54 : decode cX5_digest 54 = .ok (.i2l, 1) := by decide +kernel
theorem dX5_digest_55 : decode cX5_digest 55 = .ok (.ladd, 1) := by decide +kernel
theorem dX5_digest_56 : decode cX5_digest 56 = .ok (.lstore_n 1, 1) := by decide +kernel
theorem dX5_digest_57 : decode cX5_digest 57 = .ok (.iinc 5 1, 3) := by decide +kernel
theorem dX5_digest_60 : decode cX5_digest 60 = .ok (.goto (-26), 3) := by decide +kernel
theorem dX5_digest_63 : decode cX5_digest 63 = .ok (.iconst 0, 1) := by decide +kernel
theorem dX5_digest_64 : decode cX5_digest 64 = .ok (.istore_n 3, 1) := by decide +kernel
theorem dX5_digest_65 : decode cX5_digest 65 = .ok (.iload_n 3, 1) := by decide +kernel
theorem dX5_digest_66 : decode cX5_digest 66 = .ok (.iconst 2, 1) := by decide +kernel
theorem dX5_digest_67 : decode cX5_digest 67 = .ok (.if_icmp .ge 75, 3) := by decide +kernel
theorem dX5_digest_70 : decode cX5_digest 70 = .ok (.lload_n 1, 1) := by decide +kernel
theorem dX5_digest_71 : decode cX5_digest 71 = .ok (.ldc2_w 128, 3) := by decide +kernel
theorem dX5_digest_74 : decode cX5_digest 74 = .ok (.lmul, 1) := by decide +kernel
theorem dX5_digest_75 : decode cX5_digest 75 = .ok (.aload_n 0, 1) := by decide +kernel
theorem dX5_digest_76 : decode cX5_digest 76 = .ok (.getfield 17, 3) := by decide +kernel
theorem dX5_digest_79 : decode cX5_digest 79 = .ok (.iload_n 3, 1) := by decide +kernel
theorem dX5_digest_80 : decode cX5_digest 80 = .ok (.iaload, 1) := by decide +kernel
theorem dX5_digest_81 : decode cX5_digest 81 = .ok (.i2l, 1) := by decide +kernel
theorem dX5_digest_82 : decode cX5_digest 82 = .ok (.ladd, 1) := by decide +kernel
theorem dX5_digest_83 : decode cX5_digest 83 = .ok (.lstore_n 1, 1) := by decide +kernel
theorem dX5_digest_84 : decode cX5_digest 84 = .ok (.iconst 0, 1) := by decide +kernel
theorem dX5_digest_85 : decode cX5_digest 85 = .ok (.istore 4, 2) := by decide +kernel
theorem dX5_digest_87 : decode cX5_digest 87 = .ok (.iload 4, 2) := by decide +kernel
theorem dX5_digest_89 : decode cX5_digest 89 = .ok (.aload_n 0, 1) := by decide +kernel
theorem dX5_digest_90 : decode cX5_digest 90 = .ok (.getfield 17, 3) := by decide +kernel
theorem dX5_digest_93 : decode cX5_digest 93 = .ok (.iload_n 3, 1) := by decide +kernel
theorem dX5_digest_94 : decode cX5_digest 94 = .ok (.iaload, 1) := by decide +kernel
theorem dX5_digest_95 : decode cX5_digest 95 = .ok (.if_icmp .ge 41, 3) := by decide +kernel
theorem dX5_digest_98 : decode cX5_digest 98 = .ok (.lload_n 1, 1) := by decide +kernel
theorem dX5_digest_99 : decode cX5_digest 99 = .ok (.ldc2_w 128, 3) := by decide +kernel
theorem dX5_digest_102 : decode cX5_digest 102 = .ok (.lmul, 1) := by decide +kernel
theorem dX5_digest_103 : decode cX5_digest 103 = .ok (.aload_n 0, 1) := by decide +kernel
theorem dX5_digest_104 : decode cX5_digest 104 = .ok (.getfield 22, 3) := by decide +kernel
theorem dX5_digest_107 : decode cX5_digest 107 = .ok (.iload_n 3, 1) := by decide +kernel
theorem dX5_digest_108 : decode cX5_digest 108 = .ok (.aaload, 1) := by decide +kernel
theorem dX5_digest_109 : decode cX5_digest 109 = .ok (.iload 4, 2) := by decide +kernel
theorem dX5_digest_111 : decode cX5_digest 111 = .ok (.iaload, 1) := by decide +kernel
theorem dX5_digest_112 : decode cX5_digest 112 = .ok (.i2l, 1) := by decide +kernel
theorem dX5_digest_113 : decode cX5_digest 113 = .ok (.ladd, 1) := by decide +kernel
theorem dX5_digest_114 : decode cX5_digest 114 = .ok (.ldc2_w 128, 3) := by decide +kernel
theorem dX5_digest_117 : decode cX5_digest 117 = .ok (.lmul, 1) := by decide +kernel
theorem dX5_digest_118 : decode cX5_digest 118 = .ok (.aload_n 0, 1) := by decide +kernel
theorem dX5_digest_119 : decode cX5_digest 119 = .ok (.getfield 25, 3) := by decide +kernel
theorem dX5_digest_122 : decode cX5_digest 122 = .ok (.iload_n 3, 1) := by decide +kernel
theorem dX5_digest_123 : decode cX5_digest 123 = .ok (.aaload, 1) := by decide +kernel
theorem dX5_digest_124 : decode cX5_digest 124 = .ok (.iload 4, 2) := by decide +kernel
theorem dX5_digest_126 : decode cX5_digest 126 = .ok (.iaload, 1) := by decide +kernel
theorem dX5_digest_127 : decode cX5_digest 127 = .ok (.i2l, 1) := by decide +kernel
theorem dX5_digest_128 : decode cX5_digest 128 = .ok (.ladd, 1) := by decide +kernel
theorem dX5_digest_129 : decode cX5_digest 129 = .ok (.lstore_n 1, 1) := by decide +kernel
theorem dX5_digest_130 : decode cX5_digest 130 = .ok (.iinc 4 1, 3) := by decide +kernel
theorem dX5_digest_133 : decode cX5_digest 133 = .ok (.goto (-46), 3) := by decide +kernel
theorem dX5_digest_136 : decode cX5_digest 136 = .ok (.iinc 3 1, 3) := by decide +kernel
theorem dX5_digest_139 : decode cX5_digest 139 = .ok (.goto (-74), 3) := by decide +kernel
theorem dX5_digest_142 : decode cX5_digest 142 = .ok (.lload_n 1, 1) := by decide +kernel
theorem dX5_digest_143 : decode cX5_digest 143 = .ok (.ldc2_w 128, 3) := by decide +kernel
theorem dX5_digest_146 : decode cX5_digest 146 = .ok (.lmul, 1) := by decide +kernel
theorem dX5_digest_147 : decode cX5_digest 147 = .ok (.aload_n 0, 1) := by decide +kernel
theorem dX5_digest_148 : decode cX5_digest 148 = .ok (.getfield 110, 3) := by decide +kernel
theorem dX5_digest_151 : decode cX5_digest 151 = .ok (.i2l, 1) := by decide +kernel
theorem dX5_digest_152 : decode cX5_digest 152 = .ok (.ladd, 1) := by decide +kernel
theorem dX5_digest_153 : decode cX5_digest 153 = .ok (.ldc2_w 128, 3) := by decide +kernel
theorem dX5_digest_156 : decode cX5_digest 156 = .ok (.lmul, 1) := by decide +kernel
theorem dX5_digest_157 : decode cX5_digest 157 = .ok (.aload_n 0, 1) := by decide +kernel
theorem dX5_digest_158 : decode cX5_digest 158 = .ok (.getfield 107, 3) := by decide +kernel
theorem dX5_digest_161 : decode cX5_digest 161 = .ok (.i2l, 1) := by decide +kernel
theorem dX5_digest_162 : decode cX5_digest 162 = .ok (.ladd, 1) := by decide +kernel
theorem dX5_digest_163 : decode cX5_digest 163 = .ok (.lstore_n 1, 1) := by decide +kernel
theorem dX5_digest_164 : decode cX5_digest 164 = .ok (.iconst 0, 1) := by decide +kernel
theorem dX5_digest_165 : decode cX5_digest 165 = .ok (.istore_n 3, 1) := by decide +kernel
theorem dX5_digest_166 : decode cX5_digest 166 = .ok (.iload_n 3, 1) := by decide +kernel
theorem dX5_digest_167 : decode cX5_digest 167 = .ok (.aload_n 0, 1) := by decide +kernel
theorem dX5_digest_168 : decode cX5_digest 168 = .ok (.getfield 107, 3) := by decide +kernel
theorem dX5_digest_171 : decode cX5_digest 171 = .ok (.if_icmp .ge 22, 3) := by decide +kernel
theorem dX5_digest_174 : decode cX5_digest 174 = .ok (.lload_n 1, 1) := by decide +kernel
theorem dX5_digest_175 : decode cX5_digest 175 = .ok (.ldc2_w 128, 3) := by decide +kernel
theorem dX5_digest_178 : decode cX5_digest 178 = .ok (.lmul, 1) := by decide +kernel
theorem dX5_digest_179 : decode cX5_digest 179 = .ok (.aload_n 0, 1) := by decide +kernel
theorem dX5_digest_180 : decode cX5_digest 180 = .ok (.getfield 28, 3) := by decide +kernel
theorem dX5_digest_183 : decode cX5_digest 183 = .ok (.iload_n 3, 1) := by decide +kernel
theorem dX5_digest_184 : decode cX5_digest 184 = .ok (.laload, 1) := by decide +kernel
theorem dX5_digest_185 : decode cX5_digest 185 = .ok (.ladd, 1) := by decide +kernel
theorem dX5_digest_186 : decode cX5_digest 186 = .ok (.lstore_n 1, 1) := by decide +kernel
theorem dX5_digest_187 : decode cX5_digest 187 = .ok (.iinc 3 1, 3) := by decide +kernel
theorem dX5_digest_190 : decode cX5_digest 190 = .ok (.goto (-24), 3) := by decide +kernel
theorem dX5_digest_193 : decode cX5_digest 193 = .ok (.lload_n 1, 1) := by decide +kernel
theorem dX5_digest_194 : decode cX5_digest 194 = .ok (.lreturn, 1) := by decide +kernel
