theorem dX8_init_0 : decode cX8_init 0 = .ok (.aload_n 0, 1) := by decide +kernel
theorem dX8_init_1 : decode cX8_init 1 = .ok (.invokespecial 3, 3) := by decide +kernel
theorem dX8_init_4 : decode cX8_init 4 = .ok (.aload_n 0, 1) := by decide +kernel
theorem dX8_init_5 : decode cX8_init 5 = .ok (.bipush 89, 2) := by decide +kernel
theorem dX8_init_7 : decode cX8_init 7 = .ok (.newarray .int, 2) := by decide +kernel
theorem dX8_init_9 : decode cX8_init 9 = .ok (.putfield 9, 3) := by decide +kernel
theorem dX8_init_12 : decode cX8_init 12 = .ok (.aload_n 0, 1) := by decide +kernel
theorem dX8_init_13 : decode cX8_init 13 = .ok (.bipush 89, 2) := by decide +kernel
theorem dX8_init_15 : decode cX8_init 15 = .ok (.newarray .int, 2) := by decide +kernel
theorem dX8_init_17 : decode cX8_init 17 = .ok (.putfield 13, 3) := by decide +kernel
theorem dX8_init_20 : decode cX8_init 20 = .ok (.aload_n 0, 1) := by decide +kernel
theorem dX8_init_21 : decode cX8_init 21 = .ok (.bipush 89, 2) := by decide +kernel
theorem dX8_init_23 : decode cX8_init 23 = .ok (.newarray .int, 2) := by decide +kernel
theorem dX8_init_25 : decode cX8_init 25 = .ok (.putfield 16, 3) := by decide +kernel
theorem dX8_init_28 : decode cX8_init 28 = .ok (.aload_n 0, 1) := by decide +kernel
theorem dX8_init_29 : decode cX8_init 29 = .ok (.bipush 89, 2) := by decide +kernel
theorem dX8_init_31 : decode cX8_init 31 = .ok (.newarray .int, 2) := by decide +kernel
theorem dX8_init_33 : decode cX8_init 33 = .ok (.putfield 19, 3) := by decide +kernel
theorem dX8_init_36 : decode cX8_init 36 = .ok (.aload_n 0, 1) := by decide +kernel
theorem dX8_init_37 : decode cX8_init 37 = .ok (.sipush 712, 3) := by decide +kernel
theorem dX8_init_40 : decode cX8_init 40 = .ok (.newarray .int, 2) := by decide +kernel
theorem dX8_init_42 : decode cX8_init 42 = .ok (.putfield 22, 3) := by decide +kernel
theorem dX8_init_45 : decode cX8_init 45 = .ok (.aload_n 0, 1) := by decide +kernel
theorem dX8_init_46 : decode cX8_init 46 = .ok (.bipush 20, 2) := by decide +kernel
theorem dX8_init_48 : decode cX8_init 48 = .ok (.newarray .char, 2) := by decide +kernel
theorem dX8_init_50 : decode cX8_init 50 = .ok (.putfield 25, 3) := by decide +kernel
theorem dX8_init_53 : decode cX8_init 53 = .ok (.aload_n 0, 1) := by decide +kernel
theorem dX8_init_54 : decode cX8_init 54 = .ok (.bipush 60, 2) := by decide +kernel
theorem dX8_init_56 : decode cX8_init 56 = .ok (.newarray .char, 2) := by decide +kernel
theorem dX8_init_58 : decode cX8_init 58 = .ok (.putfield 29, 3) := by decide +kernel
theorem dX8_init_61 : decode cX8_init 61 = .ok (.aload_n 0, 1) := by decide +kernel
theorem dX8_init_62 : decode cX8_init 62 = .ok (.iconst (-1), 1) := by decide +kernel
theorem dX8_init_63 : decode cX8_init 63 = .ok (.putfield 32, 3) := by decide +kernel
theorem dX8_init_66 : decode cX8_init 66 = .ok (.aload_n 0, 1) := by decide +kernel
theorem dX8_init_67 : decode cX8_init 67 = .ok (.iconst (-1), 1) := by decide +kernel
theorem dX8_init_68 : decode cX8_init 68 = .ok (.putfield 36, 3) := by decide +kernel
theorem dX8_init_71 : decode cX8_init 71 = .ok (.aload_n 0, 1) := by decide +kernel
theorem dX8_init_72 : decode cX8_init 72 = .ok (.sipush 240, 3) := by decide +kernel
theorem dX8_init_75 : decode cX8_init 75 = .ok (.newarray .int, 2) := by decide +kernel
theorem dX8_init_77 : decode cX8_init 77 = .ok (.putfield 39, 3) := by decide +kernel
theorem dX8_init_80 : decode cX8_init 80 = .ok (.return_, 1) := by decide +kernel
theorem dX8_thrown_0 : decode cX8_thrown 0 = .ok (.aload_n 0, 1) := by decide +kernel
theorem dX8_thrown_1 : decode cX8_thrown 1 = .ok (.getfield 42, 3) := by decide +kernel
theorem dX8_thrown_4 : decode cX8_thrown 4 = .ok (.ireturn, 1) := by decide +kernel
theorem dX8_in_0 : decode cX8_in 0 = .ok (.iload_n 0, 1) := by decide +kernel
theorem dX8_in_1 : decode cX8_in 1 = .ok (.iload_n 1, 1) := by decide +kernel
theorem dX8_in_2 : decode cX8_in 2 = .ok (.if_icmp .lt 12, 3) := by decide +kernel
theorem dX8_in_5 : decode cX8_in 5 = .ok (.iload_n 0, 1) := by decide +kernel
theorem dX8_in_6 : decode cX8_in 6 = .ok (.iload_n 2, 1) := by decide +kernel
theorem dX8_in_7 : decode cX8_in 7 = .ok (.if_icmp .gt 7, 3) := by decide +kernel
theorem dX8_in_10 : decode cX8_in 10 = .ok (.iconst 1, 1) := by decide +kernel
theorem dX8_in_11 : decode cX8_in 11 = .ok (.goto 4, 3) := by decide +kernel
theorem dX8_in_14 : decode cX8_in 14 = .ok (.iconst 0, 1) := by decide +kernel
theorem dX8_in_15 : decode cX8_in 15 = .ok (.ireturn, 1) := by decide +kernel
theorem dX8_keep_0 : decode cX8_keep 0 = .ok (.aload_n 0, 1) := by decide +kernel
theorem dX8_keep_1 : decode cX8_keep 1 = .ok (.iconst 0, 1) := by decide +kernel
theorem dX8_keep_2 : decode cX8_keep 2 = .ok (.putfield 42, 3) := by decide +kernel
theorem dX8_keep_5 : decode cX8_keep 5 = .ok (.aload_n 0, 1) := by decide +kernel
theorem dX8_keep_6 : decode cX8_keep 6 = .ok (.getfield 9, 3) := by decide +kernel
theorem dX8_keep_9 : decode cX8_keep 9 = .ok (.iconst 0, 1) := by decide +kernel
theorem dX8_keep_10 : decode cX8_keep 10 = .ok (.aload_n 0, 1) := by decide +kernel
theorem dX8_keep_11 : decode cX8_keep 11 = .ok (.getfield 13, 3) := by decide +kernel
theorem dX8_keep_14 : decode cX8_keep 14 = .ok (.iconst 0, 1) := by decide +kernel
theorem dX8_keep_15 : decode cX8_keep 15 = .ok (.bipush 89, 2) := by decide +kernel
theorem dX8_keep_17 : decode cX8_keep 17 = .ok (.invokestatic 45, 3) := by decide +kernel
theorem dX8_keep_20 : decode cX8_keep 20 = .ok (.return_, 1) := by decide +kernel
theorem dX8_ends_0 : decode cX8_ends 0 = .ok (.aload_n 0, 1) := by decide +kernel
theorem dX8_ends_1 : decode cX8_ends 1 = .ok (.getfield 42, 3) := by decide +kernel
theorem dX8_ends_4 : decode cX8_ends 4 = .ok (.ifCond .le 20, 3) := by decide +kernel
theorem dX8_ends_7 : decode cX8_ends 7 = .ok (.aload_n 0, 1) := by decide +kernel
theorem dX8_ends_8 : decode cX8_ends 8 = .ok (.getfield 13, 3) := by decide +kernel
theorem dX8_ends_11 : decode cX8_ends 11 = .ok (.iconst 0, 1) := by decide +kernel
theorem dX8_ends_12 : decode cX8_ends 12 = .ok (.aload_n 0, 1) := by decide +kernel
theorem dX8_ends_13 : decode cX8_ends 13 = .ok (.getfield 9, 3) := by decide +kernel
theorem dX8_ends_16 : decode cX8_ends 16 = .ok (.iconst 0, 1) := by decide +kernel
theorem dX8_ends_17 : decode cX8_ends 17 = .ok (.bipush 89, 2) := by decide +kernel
theorem dX8_ends_19 : decode cX8_ends 19 = .ok (.invokestatic 45, 3) := by decide +kernel
theorem dX8_ends_22 : decode cX8_ends 22 = .ok (.iconst 0, 1) := by decide +kernel
theorem dX8_ends_23 : decode cX8_ends 23 = .ok (.ireturn, 1) := by decide +kernel
theorem dX8_ends_24 : decode cX8_ends 24 = .ok (.aload_n 0, 1) := by decide +kernel
theorem dX8_ends_25 : decode cX8_ends 25 = .ok (.getfield 51, 3) := by decide +kernel
theorem dX8_ends_28 : decode cX8_ends 28 = .ok (.bipush 8, 2) := by decide +kernel
theorem dX8_ends_30 : decode cX8_ends 30 = .ok (.if_icmp .ne 30, 3) := by decide +kernel
theorem dX8_ends_33 : decode cX8_ends 33 = .ok (.aload_n 0, 1) := by decide +kernel
theorem dX8_ends_34 : decode cX8_ends 34 = .ok (.getfield 22, 3) := by decide +kernel
theorem dX8_ends_37 : decode cX8_ends 37 = .ok (.bipush 89, 2) := by decide +kernel
theorem dX8_ends_39 : decode cX8_ends 39 = .ok (.aload_n 0, 1) := by decide +kernel
theorem dX8_ends_40 : decode cX8_ends 40 = .ok (.getfield 22, 3) := by decide +kernel
theorem dX8_ends_43 : decode cX8_ends 43 = .ok (.iconst 0, 1) := by decide +kernel
theorem dX8_ends_44 : decode cX8_ends 44 = .ok (.sipush 623, 3) := by decide +kernel
theorem dX8_ends_47 : decode cX8_ends 47 = .ok (.invokestatic 45, 3) := by decide +kernel
theorem dX8_ends_50 : decode cX8_ends 50 = .ok (.aload_n 0, 1) := by decide +kernel
theorem dX8_ends_51 : decode cX8_ends 51 = .ok (.dup, 1) := by decide +kernel
theorem dX8_ends_52 : decode cX8_ends 52 = .ok (.getfield 51, 3) := by decide +kernel
theorem dX8_ends_55 : decode cX8_ends 55 = .ok (.iconst 1, 1) := by decide +kernel
theorem dX8_ends_56 : decode cX8_ends 56 = .ok (.isub, 1) := by decide +kernel
theorem dX8_ends_57 : decode cX8_ends 57 = .ok (.putfield 51, 3) := by decide +kernel
theorem dX8_ends_60 : decode cX8_ends 60 = .ok (.aload_n 0, 1) := by decide +kernel
theorem dX8_ends_61 : decode cX8_ends 61 = .ok (.getfield 13, 3) := by decide +kernel
theorem dX8_ends_64 : decode cX8_ends 64 = .ok (.iconst 0, 1) := by decide +kernel
theorem dX8_ends_65 : decode cX8_ends 65 = .ok (.aload_n 0, 1) := by decide +kernel
theorem dX8_ends_66 : decode cX8_ends 66 = .ok (.getfield 22, 3) := by decide +kernel
theorem dX8_ends_69 : decode cX8_ends 69 = .ok (.bipush 89, 2) := by decide +kernel
theorem dX8_ends_71 : decode cX8_ends 71 = .ok (.aload_n 0, 1) := by decide +kernel
theorem dX8_ends_72 : decode cX8_ends 72 = .ok (.getfield 51, 3) := by decide +kernel
theorem dX8_ends_75 : decode cX8_ends 75 = .ok (.imul, 1) := by decide +kernel
theorem dX8_ends_76 : decode cX8_ends 76 = .ok (.bipush 89, 2) := by decide +kernel
theorem dX8_ends_78 : decode cX8_ends 78 = .ok (.invokestatic 45, 3) := by decide +kernel
theorem dX8_ends_81 : decode cX8_ends 81 = .ok (.aload_n 0, 1) := by decide +kernel
theorem dX8_ends_82 : decode cX8_ends 82 = .ok (.dup, 1) := by decide +kernel
theorem dX8_ends_83 : decode cX8_ends 83 = .ok (.getfield 51, 3) := by decide +kernel
theorem dX8_ends_86 : decode cX8_ends 86 = .ok (.iconst 1, 1) := by decide +kernel
theorem dX8_ends_87 : decode cX8_ends 87 = .ok (.iadd, 1) := by decide +kernel
theorem dX8_ends_88 : decode cX8_ends 88 = .ok (.putfield 51, 3) := by decide +kernel
theorem dX8_ends_91 : decode cX8_ends 91 = .ok (.iload_n 1, 1) := by decide +kernel
theorem dX8_ends_92 : decode cX8_ends 92 = .ok (.ireturn, 1) := by decide +kernel
theorem dX8_fails_0 : decode cX8_fails 0 = .ok (.aload_n 0, 1) := by decide +kernel
theorem dX8_fails_1 : decode cX8_fails 1 = .ok (.iload_n 1, 1) := by decide +kernel
theorem dX8_fails_2 : decode cX8_fails 2 = .ok (.putfield 42, 3) := by decide +kernel
theorem dX8_fails_5 : decode cX8_fails 5 = .ok (.iconst 0, 1) := by decide +kernel
theorem dX8_fails_6 : decode cX8_fails 6 = .ok (.ireturn, 1) := by decide +kernel
theorem dX8_isThere_0 : decode cX8_isThere 0 = .ok (.aload_n 0, 1) := by decide +kernel
theorem dX8_isThere_1 : decode cX8_isThere 1 = .ok (.iload_n 1, 1) := by decide +kernel
theorem dX8_isThere_2 : decode cX8_isThere 2 = .ok (.ifCond .eq 7, 3) := by decide +kernel
theorem dX8_isThere_5 : decode cX8_isThere 5 = .ok (.iconst 0, 1) := by decide +kernel
theorem dX8_isThere_6 : decode cX8_isThere 6 = .ok (.goto 4, 3) := by decide +kernel
theorem dX8_isThere_9 : decode cX8_isThere 9 = .ok (.iconst 1, 1) := by decide +kernel
theorem dX8_isThere_10 : decode cX8_isThere 10 = .ok (.putfield 42, 3) := by decide +kernel
theorem dX8_isThere_13 : decode cX8_isThere 13 = .ok (.iload_n 1, 1) := by decide +kernel
theorem dX8_isThere_14 : decode cX8_isThere 14 = .ok (.ireturn, 1) := by decide +kernel
set_option maxRecDepth 20000 in
theorem ggX8_isBath_X8_in : GoodIn wsX8_isBath wsX8_in := goodIn_r _ [5] (by decide +kernel) (by decide +kernel)
set_option maxRecDepth 20000 in
theorem gX8_isBath_X8_in : GoodIn wsX8_isBath (va_wsS RX8 54 yX8_in wsX8_in) := goodIn_app (goodIn_of _ (by decide +kernel)) ggX8_isBath_X8_in
theorem dX8_isBath_0 : decode cX8_isBath 0 = .ok (.iload_n 1, 1) := by decide +kernel
theorem dX8_isBath_1 : decode cX8_isBath 1 = .ok (.iconst 0, 1) := by decide +kernel
theorem dX8_isBath_2 : decode cX8_isBath 2 = .ok (.aload_n 0, 1) := by decide +kernel
theorem dX8_isBath_3 : decode cX8_isBath 3 = .ok (.getfield 9, 3) := by decide +kernel
theorem dX8_isBath_6 : decode cX8_isBath 6 = .ok (.iconst 0, 1) := by decide +kernel
theorem dX8_isBath_7 : decode cX8_isBath 7 = .ok (.iaload, 1) := by decide +kernel
theorem dX8_isBath_8 : decode cX8_isBath 8 = .ok (.iconst 1, 1) := by decide +kernel
theorem dX8_isBath_9 : decode cX8_isBath 9 = .ok (.isub, 1) := by decide +kernel
theorem dX8_isBath_10 : decode cX8_isBath 10 = .ok (.invokestatic 54, 3) := by decide +kernel
theorem dX8_isBath_13 : decode cX8_isBath 13 = .ok (.ireturn, 1) := by decide +kernel
set_option maxRecDepth 20000 in
theorem ggX8_isDuck_X8_in : GoodIn wsX8_isDuck wsX8_in := goodIn_r _ [5] (by decide +kernel) (by decide +kernel)
set_option maxRecDepth 20000 in
theorem gX8_isDuck_X8_in : GoodIn wsX8_isDuck (va_wsS RX8 54 yX8_in wsX8_in) := goodIn_app (goodIn_of _ (by decide +kernel)) ggX8_isDuck_X8_in
theorem dX8_isDuck_0 : decode cX8_isDuck 0 = .ok (.iload_n 1, 1) := by decide +kernel
theorem dX8_isDuck_1 : decode cX8_isDuck 1 = .ok (.iconst 0, 1) := by decide +kernel
theorem dX8_isDuck_2 : decode cX8_isDuck 2 = .ok (.aload_n 0, 1) := by decide +kernel
theorem dX8_isDuck_3 : decode cX8_isDuck 3 = .ok (.getfield 9, 3) := by decide +kernel
theorem dX8_isDuck_6 : decode cX8_isDuck 6 = .ok (.iconst 1, 1) := by decide +kernel
theorem dX8_isDuck_7 : decode cX8_isDuck 7 = .ok (.iaload, 1) := by decide +kernel
theorem dX8_isDuck_8 : decode cX8_isDuck 8 = .ok (.iconst 1, 1) := by decide +kernel
theorem dX8_isDuck_9 : decode cX8_isDuck 9 = .ok (.isub, 1) := by decide +kernel
theorem dX8_isDuck_10 : decode cX8_isDuck 10 = .ok (.invokestatic 54, 3) := by decide +kernel
theorem dX8_isDuck_13 : decode cX8_isDuck 13 = .ok (.ireturn, 1) := by decide +kernel
theorem dX8_of_0 : decode cX8_of 0 = .ok (.aload_n 0, 1) := by decide +kernel
theorem dX8_of_1 : decode cX8_of 1 = .ok (.getfield 9, 3) := by decide +kernel
theorem dX8_of_4 : decode cX8_of 4 = .ok (.bipush 9, 2) := by decide +kernel
theorem dX8_of_6 : decode cX8_of 6 = .ok (.iconst 4, 1) := by decide +kernel
theorem dX8_of_7 : decode cX8_of 7 = .ok (.iload_n 1, 1) := by decide +kernel
theorem dX8_of_8 : decode cX8_of 8 = .ok (.imul, 1) := by decide +kernel
theorem dX8_of_9 : decode cX8_of 9 = .ok (.iadd, 1) := by decide +kernel
theorem dX8_of_10 : decode cX8_of 10 = .ok (.iload_n 2, 1) := by decide +kernel
theorem dX8_of_11 : decode cX8_of 11 = .ok (.iadd, 1) := by decide +kernel
theorem dX8_of_12 : decode cX8_of 12 = .ok (.iaload, 1) := by decide +kernel
theorem dX8_of_13 : decode cX8_of 13 = .ok (.ireturn, 1) := by decide +kernel
theorem dX8_sets_0 : decode cX8_sets 0 = .ok (.aload_n 0, 1) := by decide +kernel
theorem dX8_sets_1 : decode cX8_sets 1 = .ok (.getfield 9, 3) := by decide +kernel
theorem dX8_sets_4 : decode cX8_sets 4 = .ok (.bipush 9, 2) := by decide +kernel
theorem dX8_sets_6 : decode cX8_sets 6 = .ok (.iconst 4, 1) := by decide +kernel
theorem dX8_sets_7 : decode cX8_sets 7 = .ok (.iload_n 1, 1) := by decide +kernel
theorem dX8_sets_8 : decode cX8_sets 8 = .ok (.imul, 1) := by decide +kernel
theorem dX8_sets_9 : decode cX8_sets 9 = .ok (.iadd, 1) := by decide +kernel
theorem dX8_sets_10 : decode cX8_sets 10 = .ok (.iload_n 2, 1) := by decide +kernel
theorem dX8_sets_11 : decode cX8_sets 11 = .ok (.iadd, 1) := by decide +kernel
theorem dX8_sets_12 : decode cX8_sets 12 = .ok (.iload_n 3, 1) := by decide +kernel
theorem dX8_sets_13 : decode cX8_sets 13 = .ok (.iastore, 1) := by decide +kernel
theorem dX8_sets_14 : decode cX8_sets 14 = .ok (.return_, 1) := by decide +kernel
theorem dX8_ofDuck_0 : decode cX8_ofDuck 0 = .ok (.aload_n 0, 1) := by decide +kernel
theorem dX8_ofDuck_1 : decode cX8_ofDuck 1 = .ok (.getfield 9, 3) := by decide +kernel
theorem dX8_ofDuck_4 : decode cX8_ofDuck 4 = .ok (.bipush 29, 2) := by decide +kernel
theorem dX8_ofDuck_6 : decode cX8_ofDuck 6 = .ok (.iconst 5, 1) := by decide +kernel
theorem dX8_ofDuck_7 : decode cX8_ofDuck 7 = .ok (.iload_n 1, 1) := by decide +kernel
theorem dX8_ofDuck_8 : decode cX8_ofDuck 8 = .ok (.imul, 1) := by decide +kernel
theorem dX8_ofDuck_9 : decode cX8_ofDuck 9 = .ok (.iadd, 1) := by decide +kernel
theorem dX8_ofDuck_10 : decode cX8_ofDuck 10 = .ok (.iload_n 2, 1) := by decide +kernel
theorem dX8_ofDuck_11 : decode cX8_ofDuck 11 = .ok (.iadd, 1) := by decide +kernel
theorem dX8_ofDuck_12 : decode cX8_ofDuck 12 = .ok (.iaload, 1) := by decide +kernel
theorem dX8_ofDuck_13 : decode cX8_ofDuck 13 = .ok (.ireturn, 1) := by decide +kernel
set_option maxRecDepth 20000 in
theorem ggX8_isWet_X8_of : GoodIn wsX8_isWet wsX8_of := goodIn_ca (goodIn_r _ [5, 6, 7, 8, 9, 10, 11, 12, 13, 14, 15, 16, 17, 18, 19, 20, 21, 22, 23, 24] (by decide +kernel) (by decide +kernel)) (goodIn_sub (fun _ h => List.mem_cons_of_mem _ (List.mem_append_right _ h)) (by decide +kernel))
set_option maxRecDepth 20000 in
theorem gX8_isWet_X8_of : GoodIn wsX8_isWet (wsV RX8 58 RX8 yX8_of wsX8_of) := goodIn_app (goodIn_of _ (by decide +kernel)) ggX8_isWet_X8_of
theorem dX8_isWet_0 : decode cX8_isWet 0 = .ok (.aload_n 0, 1) := by decide +kernel
theorem dX8_isWet_1 : decode cX8_isWet 1 = .ok (.iload_n 1, 1) := by decide +kernel
theorem dX8_isWet_2 : decode cX8_isWet 2 = .ok (.iconst 0, 1) := by decide +kernel
theorem dX8_isWet_3 : decode cX8_isWet 3 = .ok (.invokevirtual 58, 3) := by decide +kernel
theorem dX8_isWet_6 : decode cX8_isWet 6 = .ok (.ifCond .le 7, 3) := by decide +kernel
theorem dX8_isWet_9 : decode cX8_isWet 9 = .ok (.iconst 1, 1) := by decide +kernel
theorem dX8_isWet_10 : decode cX8_isWet 10 = .ok (.goto 4, 3) := by decide +kernel
theorem dX8_isWet_13 : decode cX8_isWet 13 = .ok (.iconst 0, 1) := by decide +kernel
theorem dX8_isWet_14 : decode cX8_isWet 14 = .ok (.ireturn, 1) := by decide +kernel
set_option maxRecDepth 20000 in
theorem ggX8_degrees_X8_of : GoodIn wsX8_degrees wsX8_of := goodIn_ca (goodIn_r _ [5, 6, 7, 8, 9, 10, 11, 12, 13, 14, 15, 16, 17, 18, 19, 20, 21, 22, 23, 24] (by decide +kernel) (by decide +kernel)) (goodIn_sub (fun _ h => List.mem_cons_of_mem _ (List.mem_append_right _ h)) (by decide +kernel))
set_option maxRecDepth 20000 in
theorem gX8_degrees_X8_of : GoodIn wsX8_degrees (wsV RX8 58 RX8 yX8_of wsX8_of) := goodIn_app (goodIn_of _ (by decide +kernel)) ggX8_degrees_X8_of
theorem dX8_degrees_0 : decode cX8_degrees 0 = .ok (.aload_n 0, 1) := by decide +kernel
theorem dX8_degrees_1 : decode cX8_degrees 1 = .ok (.iload_n 1, 1) := by decide +kernel
theorem dX8_degrees_2 : decode cX8_degrees 2 = .ok (.iconst 1, 1) := by decide +kernel
theorem dX8_degrees_3 : decode cX8_degrees 3 = .ok (.invokevirtual 58, 3) := by decide +kernel
theorem dX8_degrees_6 : decode cX8_degrees 6 = .ok (.aload_n 0, 1) := by decide +kernel
theorem dX8_degrees_7 : decode cX8_degrees 7 = .ok (.iload_n 1, 1) := by decide +kernel
theorem dX8_degrees_8 : decode cX8_degrees 8 = .ok (.iconst 0, 1) := by decide +kernel
theorem dX8_degrees_9 : decode cX8_degrees 9 = .ok (.invokevirtual 58, 3) := by decide +kernel
theorem dX8_degrees_12 : decode cX8_degrees 12 = .ok (.idiv, 1) := by decide +kernel
theorem dX8_degrees_13 : decode cX8_degrees 13 = .ok (.ireturn, 1) := by decide +kernel
set_option maxRecDepth 20000 in
theorem ggX8_warmer_X8_of : GoodIn wsX8_warmer wsX8_of := goodIn_ca (goodIn_r _ [5, 6, 7, 8, 9, 10, 11, 12, 13, 14, 15, 16, 17, 18, 19, 20, 21, 22, 23, 24] (by decide +kernel) (by decide +kernel)) (goodIn_sub (fun _ h => List.mem_cons_of_mem _ (List.mem_append_right _ h)) (by decide +kernel))
set_option maxRecDepth 20000 in
theorem gX8_warmer_X8_of : GoodIn wsX8_warmer (wsV RX8 58 RX8 yX8_of wsX8_of) := goodIn_app (goodIn_of _ (by decide +kernel)) ggX8_warmer_X8_of
theorem dX8_warmer_0 : decode cX8_warmer 0 = .ok (.aload_n 0, 1) := by decide +kernel
theorem dX8_warmer_1 : decode cX8_warmer 1 = .ok (.iload_n 1, 1) := by decide +kernel
theorem dX8_warmer_2 : decode cX8_warmer 2 = .ok (.iconst 1, 1) := by decide +kernel
theorem dX8_warmer_3 : decode cX8_warmer 3 = .ok (.invokevirtual 58, 3) := by decide +kernel
theorem dX8_warmer_6 : decode cX8_warmer 6 = .ok (.aload_n 0, 1) := by decide +kernel
theorem dX8_warmer_7 : decode cX8_warmer 7 = .ok (.iload_n 2, 1) := by decide +kernel
theorem dX8_warmer_8 : decode cX8_warmer 8 = .ok (.iconst 0, 1) := by decide +kernel
theorem dX8_warmer_9 : decode cX8_warmer 9 = .ok (.invokevirtual 58, 3) := by decide +kernel
theorem dX8_warmer_12 : decode cX8_warmer 12 = .ok (.imul, 1) := by decide +kernel
theorem dX8_warmer_13 : decode cX8_warmer 13 = .ok (.aload_n 0, 1) := by decide +kernel
theorem dX8_warmer_14 : decode cX8_warmer 14 = .ok (.iload_n 2, 1) := by decide +kernel
theorem dX8_warmer_15 : decode cX8_warmer 15 = .ok (.iconst 1, 1) := by decide +kernel
theorem dX8_warmer_16 : decode cX8_warmer 16 = .ok (.invokevirtual 58, 3) := by decide +kernel
theorem dX8_warmer_19 : decode cX8_warmer 19 = .ok (.aload_n 0, 1) := by decide +kernel
theorem dX8_warmer_20 : decode cX8_warmer 20 = .ok (.iload_n 1, 1) := by decide +kernel
theorem dX8_warmer_21 : decode cX8_warmer 21 = .ok (.iconst 0, 1) := by decide +kernel
theorem dX8_warmer_22 : decode cX8_warmer 22 = .ok (.invokevirtual 58, 3) := by decide +kernel
theorem dX8_warmer_25 : decode cX8_warmer 25 = .ok (.imul, 1) := by decide +kernel
theorem dX8_warmer_26 : decode cX8_warmer 26 = .ok (.isub, 1) := by decide +kernel
theorem dX8_warmer_27 : decode cX8_warmer 27 = .ok (.ireturn, 1) := by decide +kernel
set_option maxRecDepth 20000 in
theorem ggX8_isPleased_X8_ofDuck : GoodIn wsX8_isPleased wsX8_ofDuck := goodIn_ca (goodIn_r _ [5, 6, 22, 23, 24, 25, 26, 27, 28, 29, 30, 31, 32, 33, 34, 35, 36, 37, 38, 39] (by decide +kernel) (by decide +kernel)) (goodIn_sub (fun _ h => List.mem_cons_of_mem _ (List.mem_append_left _ (List.mem_append_right _ h))) (by decide +kernel))
set_option maxRecDepth 20000 in
theorem gX8_isPleased_X8_ofDuck : GoodIn wsX8_isPleased (wsV RX8 62 RX8 yX8_ofDuck wsX8_ofDuck) := goodIn_app (goodIn_of _ (by decide +kernel)) ggX8_isPleased_X8_ofDuck
set_option maxRecDepth 20000 in
theorem ggX8_isPleased_X8_isWet : GoodIn wsX8_isPleased wsX8_isWet := goodIn_ca (goodIn_r _ [10, 11, 12, 13, 4, 14, 6, 22, 23, 24, 25, 26, 27, 28, 29, 30, 31, 32, 33, 34, 35, 36, 37, 38, 39] (by decide +kernel) (by decide +kernel)) (goodIn_sub (fun _ h => List.mem_cons_of_mem _ (List.mem_append_left _ (List.mem_append_right _ h))) (by decide +kernel))
set_option maxRecDepth 20000 in
theorem gX8_isPleased_X8_isWet : GoodIn wsX8_isPleased (wsV RX8 65 RX8 yX8_isWet wsX8_isWet) := goodIn_app (goodIn_of _ (by decide +kernel)) ggX8_isPleased_X8_isWet
set_option maxRecDepth 20000 in
theorem ggX8_isPleased_X8_degrees : GoodIn wsX8_isPleased wsX8_degrees := goodIn_ca (goodIn_ca (goodIn_r _ [18, 11, 12, 13, 4, 14, 6, 22, 23, 24, 25, 26, 27, 28, 29, 30, 31, 32, 33, 34, 35, 36, 37, 38, 39] (by decide +kernel) (by decide +kernel)) (goodIn_sub (fun _ h => List.mem_cons_of_mem _ (List.mem_append_right _ h)) (by decide +kernel))) (goodIn_sub (fun _ h => List.mem_cons_of_mem _ (List.mem_append_left _ (List.mem_append_right _ h))) (by decide +kernel))
set_option maxRecDepth 20000 in
theorem gX8_isPleased_X8_degrees : GoodIn wsX8_isPleased (wsV RX8 69 RX8 yX8_degrees wsX8_degrees) := goodIn_app (goodIn_of _ (by decide +kernel)) ggX8_isPleased_X8_degrees
set_option maxRecDepth 20000 in
theorem ggX8_isPleased_X8_in : GoodIn wsX8_isPleased wsX8_in := goodIn_r _ [21] (by decide +kernel) (by decide +kernel)
set_option maxRecDepth 20000 in
theorem gX8_isPleased_X8_in : GoodIn wsX8_isPleased (va_wsS RX8 54 yX8_in wsX8_in) := goodIn_app (goodIn_of _ (by decide +kernel)) ggX8_isPleased_X8_in
theorem dX8_isPleased_0 : decode cX8_isPleased 0 = .ok (.aload_n 0, 1) := by decide +kernel
theorem dX8_isPleased_1 : decode cX8_isPleased 1 = .ok (.iload_n 1, 1) := by decide +kernel
theorem dX8_isPleased_2 : decode cX8_isPleased 2 = .ok (.iconst 0, 1) := by decide +kernel
theorem dX8_isPleased_3 : decode cX8_isPleased 3 = .ok (.invokevirtual 62, 3) := by decide +kernel
theorem dX8_isPleased_6 : decode cX8_isPleased 6 = .ok (.istore_n 2, 1) := by decide +kernel
theorem dX8_isPleased_7 : decode cX8_isPleased 7 = .ok (.aload_n 0, 1) := by decide +kernel
theorem dX8_isPleased_8 : decode cX8_isPleased 8 = .ok (.iload_n 2, 1) := by decide +kernel
theorem dX8_isPleased_9 : decode cX8_isPleased 9 = .ok (.invokevirtual 65, 3) := by decide +kernel
theorem dX8_isPleased_12 : decode cX8_isPleased 12 = .ok (.ifCond .eq 30, 3) := by decide +kernel
theorem dX8_isPleased_15 : decode cX8_isPleased 15 = .ok (.aload_n 0, 1) := by decide +kernel
theorem dX8_isPleased_16 : decode cX8_isPleased 16 = .ok (.iload_n 2, 1) := by decide +kernel
theorem dX8_isPleased_17 : decode cX8_isPleased 17 = .ok (.invokevirtual 69, 3) := by decide +kernel
theorem dX8_isPleased_20 : decode cX8_isPleased 20 = .ok (.aload_n 0, 1) := by decide +kernel
theorem dX8_isPleased_21 : decode cX8_isPleased 21 = .ok (.iload_n 1, 1) := by decide +kernel
theorem dX8_isPleased_22 : decode cX8_isPleased 22 = .ok (.iconst 1, 1) := by decide +kernel
theorem dX8_isPleased_23 : decode cX8_isPleased 23 = .ok (.invokevirtual 62, 3) := by decide +kernel
theorem dX8_isPleased_26 : decode cX8_isPleased 26 = .ok (.aload_n 0, 1) := by decide +kernel
theorem dX8_isPleased_27 : decode cX8_isPleased 27 = .ok (.iload_n 1, 1) := by decide +kernel
theorem dX8_isPleased_28 : decode cX8_isPleased 28 = .ok (.iconst 2, 1) := by decide +kernel
theorem dX8_isPleased_29 : decode cX8_isPleased 29 = .ok (.invokevirtual 62, 3) := by decide +kernel
theorem dX8_isPleased_32 : decode cX8_isPleased 32 = .ok (.invokestatic 54, 3) := by decide +kernel
theorem dX8_isPleased_35 : decode cX8_isPleased 35 = .ok (.ifCond .eq 7, 3) := by decide +kernel
theorem dX8_isPleased_38 : decode cX8_isPleased 38 = .ok (.iconst 1, 1) := by decide +kernel
theorem dX8_isPleased_39 : decode cX8_isPleased 39 = .ok (.goto 4, 3) := by decide +kernel
theorem dX8_isPleased_42 : decode cX8_isPleased 42 = .ok (.iconst 0, 1) := by decide +kernel
theorem dX8_isPleased_43 : decode cX8_isPleased 43 = .ok (.ireturn, 1) := by decide +kernel
set_option maxRecDepth 20000 in
theorem ggX8_looks_X8_isPleased : GoodIn wsX8_looks wsX8_isPleased := goodIn_ca (goodIn_ca (goodIn_r _ [6, 7, 8, 9, 5, 10, 1, 11, 12, 13, 14, 15, 16, 17, 18, 19, 20, 21, 22, 23, 24, 25, 26, 27, 28, 29, 30, 31, 32, 33, 34, 35, 36, 37, 38, 39, 40, 41, 42, 43] (by decide +kernel) (by decide +kernel)) (goodIn_sub (fun _ h => List.mem_cons_of_mem _ (List.mem_append_left _ (List.mem_append_right _ h))) (by decide +kernel))) (goodIn_sub (fun _ h => List.mem_cons_of_mem _ (List.mem_append_right _ h)) (by decide +kernel))
set_option maxRecDepth 20000 in
theorem gX8_looks_X8_isPleased : GoodIn wsX8_looks (wsV RX8 73 RX8 yX8_isPleased wsX8_isPleased) := goodIn_app (goodIn_of _ (by decide +kernel)) ggX8_looks_X8_isPleased
theorem dX8_looks_0 : decode cX8_looks 0 = .ok (.iconst 0, 1) := by decide +kernel
theorem dX8_looks_1 : decode cX8_looks 1 = .ok (.istore_n 1, 1) := by decide +kernel
theorem dX8_looks_2 : decode cX8_looks 2 = .ok (.iload_n 1, 1) := by decide +kernel
theorem dX8_looks_3 : decode cX8_looks 3 = .ok (.aload_n 0, 1) := by decide +kernel
theorem dX8_looks_4 : decode cX8_looks 4 = .ok (.getfield 9, 3) := by decide +kernel
theorem dX8_looks_7 : decode cX8_looks 7 = .ok (.iconst 1, 1) := by decide +kernel
theorem dX8_looks_8 : decode cX8_looks 8 = .ok (.iaload, 1) := by decide +kernel
theorem dX8_looks_9 : decode cX8_looks 9 = .ok (.if_icmp .ge 71, 3) := by decide +kernel
theorem dX8_looks_12 : decode cX8_looks 12 = .ok (.bipush 29, 2) := by decide +kernel
theorem dX8_looks_14 : decode cX8_looks 14 = .ok (.iconst 5, 1) := by decide +kernel
theorem dX8_looks_15 : decode cX8_looks 15 = .ok (.iload_n 1, 1) := by decide +kernel
theorem dX8_looks_16 : decode cX8_looks 16 = .ok (.imul, 1) := by decide +kernel
theorem dX8_looks_17 : decode cX8_looks 17 = .ok (.iadd, 1) := by decide +kernel
theorem dX8_looks_18 : decode cX8_looks 18 = .ok (.istore_n 2, 1) := by decide +kernel
theorem dX8_looks_19 : decode cX8_looks 19 = .ok (.aload_n 0, 1) := by decide +kernel
theorem dX8_looks_20 : decode cX8_looks 20 = .ok (.iload_n 1, 1) := by decide +kernel
theorem dX8_looks_21 : decode cX8_looks 21 = .ok (.invokevirtual 73, 3) := by decide +kernel
theorem dX8_looks_24 : decode cX8_looks 24 = .ok (.istore_n 3, 1) := by decide +kernel
theorem dX8_looks_25 : decode cX8_looks 25 = .ok (.aload_n 0, 1) := by decide +kernel
theorem dX8_looks_26 : decode cX8_looks 26 = .ok (.getfield 9, 3) := by decide +kernel
theorem dX8_looks_29 : decode cX8_looks 29 = .ok (.iload_n 2, 1) := by decide +kernel
theorem dX8_looks_30 : decode cX8_looks 30 = .ok (.iconst 3, 1) := by decide +kernel
theorem dX8_looks_31 : decode cX8_looks 31 = .ok (.iadd, 1) := by decide +kernel
theorem dX8_looks_32 : decode cX8_looks 32 = .ok (.dup2, 1) := by decide +kernel
theorem dX8_looks_33 : decode cX8_looks 33 = .ok (.iaload, 1) := by decide +kernel
theorem dX8_looks_34 : decode cX8_looks 34 = .ok (.aload_n 0, 1) := by decide +kernel
theorem dX8_looks_35 : decode cX8_looks 35 = .ok (.getfield 9, 3) := by decide +kernel
theorem dX8_looks_38 : decode cX8_looks 38 = .ok (.iload_n 2, 1) := by decide +kernel
theorem dX8_looks_39 : decode cX8_looks 39 = .ok (.iconst 4, 1) := by decide +kernel
theorem dX8_looks_40 : decode cX8_looks 40 = .ok (.iadd, 1) := by decide +kernel
theorem dX8_looks_41 : decode cX8_looks 41 = .ok (.iaload, 1) := by decide +kernel
theorem dX8_looks_42 : decode cX8_looks 42 = .ok (.iconst 1, 1) := by decide +kernel
theorem dX8_looks_43 : decode cX8_looks 43 = .ok (.if_icmp .ne 11, 3) := by decide +kernel
theorem dX8_looks_46 : decode cX8_looks 46 = .ok (.iload_n 3, 1) := by decide +kernel
theorem dX8_looks_47 : decode cX8_looks 47 = .ok (.ifCond .ne 7, 3) := by decide +kernel
theorem dX8_looks_50 : decode cX8_looks 50 = .ok (.iconst 1, 1) := by decide +kernel
theorem dX8_looks_51 : decode cX8_looks 51 = .ok (.goto 4, 3) := by decide +kernel
theorem dX8_looks_54 : decode cX8_looks 54 = .ok (.iconst 0, 1) := by decide +kernel
theorem dX8_looks_55 : decode cX8_looks 55 = .ok (.iadd, 1) := by decide +kernel
theorem dX8_looks_56 : decode cX8_looks 56 = .ok (.iastore, 1) := by decide +kernel
theorem dX8_looks_57 : decode cX8_looks 57 = .ok (.aload_n 0, 1) := by decide +kernel
theorem dX8_looks_58 : decode cX8_looks 58 = .ok (.getfield 9, 3) := by decide +kernel
theorem dX8_looks_61 : decode cX8_looks 61 = .ok (.iload_n 2, 1) := by decide +kernel
theorem dX8_looks_62 : decode cX8_looks 62 = .ok (.iconst 4, 1) := by decide +kernel
theorem dX8_looks_63 : decode cX8_looks 63 = .ok (.iadd, 1) := by decide +kernel
theorem dX8_looks_64 : decode cX8_looks 64 = .ok (.iload_n 3, 1) := by decide +kernel
theorem dX8_looks_65 : decode cX8_looks 65 = .ok (.ifCond .eq 7, 3) := by decide +kernel
theorem dX8_looks_68 : decode cX8_looks 68 = .ok (.iconst 1, 1) := by decide +kernel
theorem dX8_looks_69 : decode cX8_looks 69 = .ok (.goto 4, 3) := by decide +kernel
theorem dX8_looks_72 : decode cX8_looks 72 = .ok (.iconst 0, 1) := by decide +kernel
theorem dX8_looks_73 : decode cX8_looks 73 = .ok (.iastore, 1) := by decide +kernel
theorem dX8_looks_74 : decode cX8_looks 74 = .ok (.iinc 1 1, 3) := by decide +kernel
theorem dX8_looks_77 : decode cX8_looks 77 = .ok (.goto (-75), 3) := by decide +kernel
theorem dX8_looks_80 : decode cX8_looks 80 = .ok (.return_, 1) := by decide +kernel
theorem dX8_happens_0 : decode cX8_happens 0 = .ok (.aload_n 0, 1) := by decide +kernel
theorem dX8_happens_1 : decode cX8_happens 1 = .ok (.getfield 9, 3) := by decide +kernel
theorem dX8_happens_4 : decode cX8_happens 4 = .ok (.bipush 59, 2) := by decide +kernel
theorem dX8_happens_6 : decode cX8_happens 6 = .ok (.aload_n 0, 1) := by decide +kernel
theorem dX8_happens_7 : decode cX8_happens 7 = .ok (.getfield 9, 3) := by decide +kernel
theorem dX8_happens_10 : decode cX8_happens 10 = .ok (.bipush 62, 2) := by decide +kernel
theorem dX8_happens_12 : decode cX8_happens 12 = .ok (.bipush 27, 2) := by decide +kernel
theorem dX8_happens_14 : decode cX8_happens 14 = .ok (.invokestatic 45, 3) := by decide +kernel
theorem dX8_happens_17 : decode cX8_happens 17 = .ok (.aload_n 0, 1) := by decide +kernel
theorem dX8_happens_18 : decode cX8_happens 18 = .ok (.getfield 9, 3) := by decide +kernel
theorem dX8_happens_21 : decode cX8_happens 21 = .ok (.bipush 59, 2) := by decide +kernel
theorem dX8_happens_23 : decode cX8_happens 23 = .ok (.iload_n 1, 1) := by decide +kernel
theorem dX8_happens_24 : decode cX8_happens 24 = .ok (.iastore, 1) := by decide +kernel
theorem dX8_happens_25 : decode cX8_happens 25 = .ok (.aload_n 0, 1) := by decide +kernel
theorem dX8_happens_26 : decode cX8_happens 26 = .ok (.getfield 9, 3) := by decide +kernel
theorem dX8_happens_29 : decode cX8_happens 29 = .ok (.bipush 60, 2) := by decide +kernel
theorem dX8_happens_31 : decode cX8_happens 31 = .ok (.iload_n 2, 1) := by decide +kernel
theorem dX8_happens_32 : decode cX8_happens 32 = .ok (.iastore, 1) := by decide +kernel
theorem dX8_happens_33 : decode cX8_happens 33 = .ok (.aload_n 0, 1) := by decide +kernel
theorem dX8_happens_34 : decode cX8_happens 34 = .ok (.getfield 9, 3) := by decide +kernel
theorem dX8_happens_37 : decode cX8_happens 37 = .ok (.bipush 61, 2) := by decide +kernel
theorem dX8_happens_39 : decode cX8_happens 39 = .ok (.iload_n 3, 1) := by decide +kernel
theorem dX8_happens_40 : decode cX8_happens 40 = .ok (.iastore, 1) := by decide +kernel
theorem dX8_happens_41 : decode cX8_happens 41 = .ok (.aload_n 0, 1) := by decide +kernel
theorem dX8_happens_42 : decode cX8_happens 42 = .ok (.getfield 9, 3) := by decide +kernel
theorem dX8_happens_45 : decode cX8_happens 45 = .ok (.iconst 2, 1) := by decide +kernel
theorem dX8_happens_46 : decode cX8_happens 46 = .ok (.bipush 10, 2) := by decide +kernel
theorem dX8_happens_48 : decode cX8_happens 48 = .ok (.aload_n 0, 1) := by decide +kernel
theorem dX8_happens_49 : decode cX8_happens 49 = .ok (.getfield 9, 3) := by decide +kernel
theorem dX8_happens_52 : decode cX8_happens 52 = .ok (.iconst 2, 1) := by decide +kernel
theorem dX8_happens_53 : decode cX8_happens 53 = .ok (.iaload, 1) := by decide +kernel
theorem dX8_happens_54 : decode cX8_happens 54 = .ok (.iconst 1, 1) := by decide +kernel
theorem dX8_happens_55 : decode cX8_happens 55 = .ok (.iadd, 1) := by decide +kernel
theorem dX8_happens_56 : decode cX8_happens 56 = .ok (.invokestatic 76, 3) := by decide +kernel
theorem dX8_happens_59 : decode cX8_happens 59 = .ok (.iastore, 1) := by decide +kernel
theorem dX8_happens_60 : decode cX8_happens 60 = .ok (.return_, 1) := by decide +kernel
set_option maxRecDepth 20000 in
theorem ggX8_doAddBath_X8_fails : GoodIn wsX8_doAddBath wsX8_fails := goodIn_r _ [6, 7, 12, 13, 14, 15, 16, 17, 18, 19, 20, 21, 22, 23, 24, 25, 26, 27, 28, 29] (by decide +kernel) (by decide +kernel)
set_option maxRecDepth 20000 in
theorem gX8_doAddBath_X8_fails : GoodIn wsX8_doAddBath (wsV RX8 81 RX8 yX8_fails wsX8_fails) := goodIn_app (goodIn_of _ (by decide +kernel)) ggX8_doAddBath_X8_fails
set_option maxRecDepth 20000 in
theorem ggX8_doAddBath_X8_sets : GoodIn wsX8_doAddBath wsX8_sets := goodIn_ca (goodIn_r _ [11, 1, 12, 13, 14, 15, 16, 17, 18, 19, 20, 21, 22, 23, 24, 25, 26, 27, 28, 29] (by decide +kernel) (by decide +kernel)) (goodIn_sub (fun _ h => List.mem_cons_of_mem _ (List.mem_append_right _ h)) (by decide +kernel))
set_option maxRecDepth 20000 in
theorem gX8_doAddBath_X8_sets : GoodIn wsX8_doAddBath (wsV RX8 84 RX8 yX8_sets wsX8_sets) := goodIn_app (goodIn_of _ (by decide +kernel)) ggX8_doAddBath_X8_sets
theorem dX8_doAddBath_0 : decode cX8_doAddBath 0 = .ok (.aload_n 0, 1) := by decide +kernel
theorem dX8_doAddBath_1 : decode cX8_doAddBath 1 = .ok (.getfield 9, 3) := by decide +kernel
theorem dX8_doAddBath_4 : decode cX8_doAddBath 4 = .ok (.iconst 0, 1) := by decide +kernel
theorem dX8_doAddBath_5 : decode cX8_doAddBath 5 = .ok (.iaload, 1) := by decide +kernel
theorem dX8_doAddBath_6 : decode cX8_doAddBath 6 = .ok (.istore_n 1, 1) := by decide +kernel
theorem dX8_doAddBath_7 : decode cX8_doAddBath 7 = .ok (.iload_n 1, 1) := by decide +kernel
theorem dX8_doAddBath_8 : decode cX8_doAddBath 8 = .ok (.iconst 5, 1) := by decide +kernel
theorem dX8_doAddBath_9 : decode cX8_doAddBath 9 = .ok (.if_icmp .ne 9, 3) := by decide +kernel
theorem dX8_doAddBath_12 : decode cX8_doAddBath 12 = .ok (.aload_n 0, 1) := by decide +kernel
theorem dX8_doAddBath_13 : decode cX8_doAddBath 13 = .ok (.iconst 1, 1) := by decide +kernel
theorem dX8_doAddBath_14 : decode cX8_doAddBath 14 = .ok (.invokevirtual 81, 3) := by decide +kernel
theorem dX8_doAddBath_17 : decode cX8_doAddBath 17 = .ok (.ireturn, 1) := by decide +kernel
theorem dX8_doAddBath_18 : decode cX8_doAddBath 18 = .ok (.iconst 0, 1) := by decide +kernel
theorem dX8_doAddBath_19 : decode cX8_doAddBath 19 = .ok (.istore_n 2, 1) := by decide +kernel
theorem dX8_doAddBath_20 : decode cX8_doAddBath 20 = .ok (.iload_n 2, 1) := by decide +kernel
theorem dX8_doAddBath_21 : decode cX8_doAddBath 21 = .ok (.iconst 4, 1) := by decide +kernel
theorem dX8_doAddBath_22 : decode cX8_doAddBath 22 = .ok (.if_icmp .ge 16, 3) := by decide +kernel
theorem dX8_doAddBath_25 : decode cX8_doAddBath 25 = .ok (.aload_n 0, 1) := by decide +kernel
theorem dX8_doAddBath_26 : decode cX8_doAddBath 26 = .ok (.iload_n 1, 1) := by decide +kernel
theorem dX8_doAddBath_27 : decode cX8_doAddBath 27 = .ok (.iload_n 2, 1) := by decide +kernel
theorem dX8_doAddBath_28 : decode cX8_doAddBath 28 = .ok (.iconst 0, 1) := by decide +kernel
theorem dX8_doAddBath_29 : decode cX8_doAddBath 29 = .ok (.invokevirtual 84, 3) := by decide +kernel
theorem dX8_doAddBath_32 : decode cX8_doAddBath 32 = .ok (.iinc 2 1, 3) := by decide +kernel
theorem dX8_doAddBath_35 : decode cX8_doAddBath 35 = .ok (.goto (-15), 3) := by decide +kernel
theorem dX8_doAddBath_38 : decode cX8_doAddBath 38 = .ok (.aload_n 0, 1) := by decide +kernel
theorem dX8_doAddBath_39 : decode cX8_doAddBath 39 = .ok (.getfield 9, 3) := by decide +kernel
theorem dX8_doAddBath_42 : decode cX8_doAddBath 42 = .ok (.iconst 0, 1) := by decide +kernel
theorem dX8_doAddBath_43 : decode cX8_doAddBath 43 = .ok (.dup2, 1) := by decide +kernel
theorem dX8_doAddBath_44 : decode cX8_doAddBath 44 = .ok (.iaload, 1) := by decide +kernel
theorem dX8_doAddBath_45 : decode cX8_doAddBath 45 = .ok (.iconst 1, 1) := by decide +kernel
theorem dX8_doAddBath_46 : decode cX8_doAddBath 46 = .ok (.iadd, 1) := by decide +kernel
theorem dX8_doAddBath_47 : decode cX8_doAddBath 47 = .ok (.iastore, 1) := by decide +kernel
theorem dX8_doAddBath_48 : decode cX8_doAddBath 48 = .ok (.iload_n 1, 1) := by decide +kernel
theorem dX8_doAddBath_49 : decode cX8_doAddBath 49 = .ok (.ireturn, 1) := by decide +kernel
set_option maxRecDepth 20000 in
theorem ggX8_addBath_X8_keep : GoodIn wsX8_addBath wsX8_keep := goodIn_r _ [5, 6, 7, 8, 9, 10, 11, 12, 31, 32, 33, 34, 35, 36, 37, 38, 39, 40, 41, 42, 43, 44, 45, 46, 47, 48] (by decide +kernel) (by decide +kernel)
set_option maxRecDepth 20000 in
theorem gX8_addBath_X8_keep : GoodIn wsX8_addBath (wsV RX8 88 RX8 yX8_keep wsX8_keep) := goodIn_app (goodIn_of _ (by decide +kernel)) ggX8_addBath_X8_keep
set_option maxRecDepth 20000 in
theorem ggX8_addBath_X8_doAddBath : GoodIn wsX8_addBath wsX8_doAddBath := goodIn_ca (goodIn_r _ [16, 7, 17, 18, 19, 4, 20, 6, 21, 22, 23, 24, 31, 32, 33, 34, 35, 36, 37, 38, 39, 40, 41, 42, 43, 44, 45, 46, 47, 48] (by decide +kernel) (by decide +kernel)) (goodIn_sub (fun _ h => List.mem_cons_of_mem _ (List.mem_append_right _ h)) (by decide +kernel))
set_option maxRecDepth 20000 in
theorem gX8_addBath_X8_doAddBath : GoodIn wsX8_addBath (wsV RX8 91 RX8 yX8_doAddBath wsX8_doAddBath) := goodIn_app (goodIn_of _ (by decide +kernel)) ggX8_addBath_X8_doAddBath
set_option maxRecDepth 20000 in
theorem ggX8_addBath_X8_ends : GoodIn wsX8_addBath wsX8_ends := goodIn_r _ [28, 6, 8, 7, 9, 10, 11, 12, 29, 30, 31, 32, 33, 34, 35, 36, 37, 38, 39, 40, 41, 42, 43, 44, 45, 46, 47, 48] (by decide +kernel) (by decide +kernel)
set_option maxRecDepth 20000 in
theorem gX8_addBath_X8_ends : GoodIn wsX8_addBath (wsV RX8 95 RX8 yX8_ends wsX8_ends) := goodIn_app (goodIn_of _ (by decide +kernel)) ggX8_addBath_X8_ends
theorem dX8_addBath_0 : decode cX8_addBath 0 = .ok (.aload_n 0, 1) := by decide +kernel
theorem dX8_addBath_1 : decode cX8_addBath 1 = .ok (.invokevirtual 88, 3) := by decide +kernel
theorem dX8_addBath_4 : decode cX8_addBath 4 = .ok (.aload_n 0, 1) := by decide +kernel
theorem dX8_addBath_5 : decode cX8_addBath 5 = .ok (.aload_n 0, 1) := by decide +kernel
theorem dX8_addBath_6 : decode cX8_addBath 6 = .ok (.invokevirtual 91, 3) := by decide +kernel
theorem dX8_addBath_9 : decode cX8_addBath 9 = .ok (.invokevirtual 95, 3) := by decide +kernel
theorem dX8_addBath_12 : decode cX8_addBath 12 = .ok (.ireturn, 1) := by decide +kernel
theorem dX8_tapDegrees_0 : decode cX8_tapDegrees 0 = .ok (.bipush 10, 2) := by decide +kernel
theorem dX8_tapDegrees_2 : decode cX8_tapDegrees 2 = .ok (.bipush 30, 2) := by decide +kernel
theorem dX8_tapDegrees_4 : decode cX8_tapDegrees 4 = .ok (.iload_n 0, 1) := by decide +kernel
theorem dX8_tapDegrees_5 : decode cX8_tapDegrees 5 = .ok (.imul, 1) := by decide +kernel
theorem dX8_tapDegrees_6 : decode cX8_tapDegrees 6 = .ok (.iadd, 1) := by decide +kernel
theorem dX8_tapDegrees_7 : decode cX8_tapDegrees 7 = .ok (.ireturn, 1) := by decide +kernel
set_option maxRecDepth 20000 in
theorem ggX8_doRunTap_X8_isBath : GoodIn wsX8_doRunTap wsX8_isBath := goodIn_ca (goodIn_r _ [6, 1, 7, 8, 5, 9, 58, 59, 60, 61, 62, 63, 64, 65, 66, 67, 68, 69, 70, 71, 72, 73, 74, 75] (by decide +kernel) (by decide +kernel)) (goodIn_sub (fun _ h => List.mem_cons_of_mem _ (List.mem_append_left _ (List.mem_append_right _ h))) (by decide +kernel))
set_option maxRecDepth 20000 in
theorem gX8_doRunTap_X8_isBath : GoodIn wsX8_doRunTap (wsV RX8 98 RX8 yX8_isBath wsX8_isBath) := goodIn_app (goodIn_of _ (by decide +kernel)) ggX8_doRunTap_X8_isBath
set_option maxRecDepth 20000 in
theorem ggX8_doRunTap_X8_fails : GoodIn wsX8_doRunTap wsX8_fails := goodIn_r _ [13, 14, 58, 59, 60, 61, 62, 63, 64, 65, 66, 67, 68, 69, 70, 71, 72, 73, 74, 75] (by decide +kernel) (by decide +kernel)
set_option maxRecDepth 20000 in
theorem gX8_doRunTap_X8_fails : GoodIn wsX8_doRunTap (wsV RX8 81 RX8 yX8_fails wsX8_fails) := goodIn_app (goodIn_of _ (by decide +kernel)) ggX8_doRunTap_X8_fails
set_option maxRecDepth 20000 in
theorem ggX8_doRunTap_X8_in : GoodIn wsX8_doRunTap wsX8_in := goodIn_r _ [9] (by decide +kernel) (by decide +kernel)
set_option maxRecDepth 20000 in
theorem gX8_doRunTap_X8_in : GoodIn wsX8_doRunTap (va_wsS RX8 54 yX8_in wsX8_in) := goodIn_app (goodIn_of _ (by decide +kernel)) ggX8_doRunTap_X8_in
set_option maxRecDepth 20000 in
theorem ggX8_doRunTap_X8_of : GoodIn wsX8_doRunTap wsX8_of := goodIn_ca (goodIn_r _ [18, 1, 58, 59, 60, 61, 62, 63, 64, 65, 66, 67, 68, 69, 70, 71, 72, 73, 74, 75] (by decide +kernel) (by decide +kernel)) (goodIn_sub (fun _ h => List.mem_cons_of_mem _ (List.mem_append_left _ (List.mem_append_right _ h))) (by decide +kernel))
set_option maxRecDepth 20000 in
theorem gX8_doRunTap_X8_of : GoodIn wsX8_doRunTap (wsV RX8 58 RX8 yX8_of wsX8_of) := goodIn_app (goodIn_of _ (by decide +kernel)) ggX8_doRunTap_X8_of
set_option maxRecDepth 20000 in
theorem ggX8_doRunTap_X8_tapDegrees : GoodIn wsX8_doRunTap wsX8_tapDegrees := goodIn_r _ [21] (by decide +kernel) (by decide +kernel)
set_option maxRecDepth 20000 in
theorem gX8_doRunTap_X8_tapDegrees : GoodIn wsX8_doRunTap (va_wsS RX8 101 yX8_tapDegrees wsX8_tapDegrees) := goodIn_app (goodIn_of _ (by decide +kernel)) ggX8_doRunTap_X8_tapDegrees
set_option maxRecDepth 20000 in
theorem ggX8_doRunTap_X8_sets : GoodIn wsX8_doRunTap wsX8_sets := goodIn_ca (goodIn_r _ [25, 1, 58, 59, 60, 61, 62, 63, 64, 65, 66, 67, 68, 69, 70, 71, 72, 73, 74, 75] (by decide +kernel) (by decide +kernel)) (goodIn_sub (fun _ h => List.mem_cons_of_mem _ (List.mem_append_left _ (List.mem_append_right _ h))) (by decide +kernel))
set_option maxRecDepth 20000 in
theorem gX8_doRunTap_X8_sets : GoodIn wsX8_doRunTap (wsV RX8 84 RX8 yX8_sets wsX8_sets) := goodIn_app (goodIn_of _ (by decide +kernel)) ggX8_doRunTap_X8_sets
set_option maxRecDepth 20000 in
theorem ggX8_doRunTap_X8_happens : GoodIn wsX8_doRunTap wsX8_happens := goodIn_ca (goodIn_r _ [29, 1, 30, 31, 32, 33, 34, 35, 36, 37, 58, 59, 60, 61, 62, 63, 64, 65, 66, 67, 68, 69, 70, 71, 72, 73, 74, 75] (by decide +kernel) (by decide +kernel)) (goodIn_sub (fun _ h => List.mem_cons_of_mem _ (List.mem_append_left _ (List.mem_append_right _ h))) (by decide +kernel))
set_option maxRecDepth 20000 in
theorem gX8_doRunTap_X8_happens : GoodIn wsX8_doRunTap (wsV RX8 104 RX8 yX8_happens wsX8_happens) := goodIn_app (goodIn_of _ (by decide +kernel)) ggX8_doRunTap_X8_happens
set_option maxRecDepth 20000 in
theorem ggX8_doRunTap_X8_looks : GoodIn wsX8_doRunTap wsX8_looks := goodIn_ca (goodIn_ca (goodIn_r _ [41, 1, 42, 43, 44, 5, 45, 46, 47, 48, 49, 50, 51, 52, 53, 15, 16, 17, 18, 54, 55, 56, 57, 7, 8, 9, 58, 59, 60, 61, 62, 63, 64, 65, 66, 67, 68, 69, 70, 71, 72, 73, 74, 75] (by decide +kernel) (by decide +kernel)) (goodIn_sub (fun _ h => List.mem_cons_of_mem _ (List.mem_append_left _ (List.mem_append_right _ h))) (by decide +kernel))) (goodIn_sub (fun _ h => List.mem_cons_of_mem _ (List.mem_append_right _ h)) (by decide +kernel))
set_option maxRecDepth 20000 in
theorem gX8_doRunTap_X8_looks : GoodIn wsX8_doRunTap (wsV RX8 108 RX8 yX8_looks wsX8_looks) := goodIn_app (goodIn_of _ (by decide +kernel)) ggX8_doRunTap_X8_looks
theorem dX8_doRunTap_0 : decode cX8_doRunTap 0 = .ok (.aload_n 0, 1) := by decide +kernel
theorem dX8_doRunTap_1 : decode cX8_doRunTap 1 = .ok (.iload_n 1, 1) := by decide +kernel
theorem dX8_doRunTap_2 : decode cX8_doRunTap 2 = .ok (.invokevirtual 98, 3) := by decide +kernel
theorem dX8_doRunTap_5 : decode cX8_doRunTap 5 = .ok (.ifCond .ne 9, 3) := by decide +kernel
theorem dX8_doRunTap_8 : decode cX8_doRunTap 8 = .ok (.aload_n 0, 1) := by decide +kernel
theorem dX8_doRunTap_9 : decode cX8_doRunTap 9 = .ok (.iconst 1, 1) := by decide +kernel
theorem dX8_doRunTap_10 : decode cX8_doRunTap 10 = .ok (.invokevirtual 81, 3) := by decide +kernel
theorem dX8_doRunTap_13 : decode cX8_doRunTap 13 = .ok (.ireturn, 1) := by decide +kernel
theorem dX8_doRunTap_14 : decode cX8_doRunTap 14 = .ok (.iload_n 2, 1) := by decide +kernel
theorem dX8_doRunTap_15 : decode cX8_doRunTap 15 = .ok (.iconst 0, 1) := by decide +kernel
theorem dX8_doRunTap_16 : decode cX8_doRunTap 16 = .ok (.iconst 2, 1) := by decide +kernel
theorem dX8_doRunTap_17 : decode cX8_doRunTap 17 = .ok (.invokestatic 54, 3) := by decide +kernel
theorem dX8_doRunTap_20 : decode cX8_doRunTap 20 = .ok (.ifCond .eq 13, 3) := by decide +kernel
theorem dX8_doRunTap_23 : decode cX8_doRunTap 23 = .ok (.iload_n 3, 1) := by decide +kernel
theorem dX8_doRunTap_24 : decode cX8_doRunTap 24 = .ok (.iconst 1, 1) := by decide +kernel
theorem dX8_doRunTap_25 : decode cX8_doRunTap 25 = .ok (.bipush 20, 2) := by decide +kernel
theorem dX8_doRunTap_27 : decode cX8_doRunTap 27 = .ok (.invokestatic 54, 3) := by decide +kernel
theorem dX8_doRunTap_30 : decode cX8_doRunTap 30 = .ok (.ifCond .ne 9, 3) := by decide +kernel
theorem dX8_doRunTap_33 : decode cX8_doRunTap 33 = .ok (.aload_n 0, 1) := by decide +kernel
theorem dX8_doRunTap_34 : decode cX8_doRunTap 34 = .ok (.iconst 2, 1) := by decide +kernel
theorem dX8_doRunTap_35 : decode cX8_doRunTap 35 = .ok (.invokevirtual 81, 3) := by decide +kernel
theorem dX8_doRunTap_38 : decode cX8_doRunTap 38 = .ok (.ireturn, 1) := by decide +kernel
theorem dX8_doRunTap_39 : decode cX8_doRunTap 39 = .ok (.aload_n 0, 1) := by decide +kernel
theorem dX8_doRunTap_40 : decode cX8_doRunTap 40 = .ok (.iload_n 1, 1) := by decide +kernel
theorem dX8_doRunTap_41 : decode cX8_doRunTap 41 = .ok (.iconst 0, 1) := by decide +kernel
theorem dX8_doRunTap_42 : decode cX8_doRunTap 42 = .ok (.invokevirtual 58, 3) := by decide +kernel
theorem dX8_doRunTap_45 : decode cX8_doRunTap 45 = .ok (.iload_n 3, 1) := by decide +kernel
theorem dX8_doRunTap_46 : decode cX8_doRunTap 46 = .ok (.iadd, 1) := by decide +kernel
theorem dX8_doRunTap_47 : decode cX8_doRunTap 47 = .ok (.bipush 100, 2) := by decide +kernel
theorem dX8_doRunTap_49 : decode cX8_doRunTap 49 = .ok (.if_icmp .le 9, 3) := by decide +kernel
theorem dX8_doRunTap_52 : decode cX8_doRunTap 52 = .ok (.aload_n 0, 1) := by decide +kernel
theorem dX8_doRunTap_53 : decode cX8_doRunTap 53 = .ok (.iconst 3, 1) := by decide +kernel
theorem dX8_doRunTap_54 : decode cX8_doRunTap 54 = .ok (.invokevirtual 81, 3) := by decide +kernel
theorem dX8_doRunTap_57 : decode cX8_doRunTap 57 = .ok (.ireturn, 1) := by decide +kernel
theorem dX8_doRunTap_58 : decode cX8_doRunTap 58 = .ok (.iload_n 3, 1) := by decide +kernel
theorem dX8_doRunTap_59 : decode cX8_doRunTap 59 = .ok (.iload_n 2, 1) := by decide +kernel
theorem dX8_doRunTap_60 : decode cX8_doRunTap 60 = .ok (.invokestatic 101, 3) := by decide +kernel
theorem dX8_doRunTap_63 : decode cX8_doRunTap 63 = .ok (.imul, 1) := by decide +kernel
theorem dX8_doRunTap_64 : decode cX8_doRunTap 64 = .ok (.istore 4, 2) := by decide +kernel
theorem dX8_doRunTap_66 : decode cX8_doRunTap 66 = .ok (.aload_n 0, 1) := by decide +kernel
theorem dX8_doRunTap_67 : decode cX8_doRunTap 67 = .ok (.iload_n 1, 1) := by decide +kernel
theorem dX8_doRunTap_68 : decode cX8_doRunTap 68 = .ok (.iconst 0, 1) := by decide +kernel
theorem dX8_doRunTap_69 : decode cX8_doRunTap 69 = .ok (.aload_n 0, 1) := by decide +kernel
theorem dX8_doRunTap_70 : decode cX8_doRunTap 70 = .ok (.iload_n 1, 1) := by decide +kernel
theorem dX8_doRunTap_71 : decode cX8_doRunTap 71 = .ok (.iconst 0, 1) := by decide +kernel
theorem dX8_doRunTap_72 : decode cX8_doRunTap 72 = .ok (.invokevirtual 58, 3) := by decide +kernel
theorem dX8_doRunTap_75 : decode cX8_doRunTap 75 = .ok (.iload_n 3, 1) := by decide +kernel
theorem dX8_doRunTap_76 : decode cX8_doRunTap 76 = .ok (.iadd, 1) := by decide +kernel
theorem dX8_doRunTap_77 : decode cX8_doRunTap 77 = .ok (.invokevirtual 84, 3) := by decide +kernel
theorem dX8_doRunTap_80 : decode cX8_doRunTap 80 = .ok (.aload_n 0, 1) := by decide +kernel
theorem dX8_doRunTap_81 : decode cX8_doRunTap 81 = .ok (.iload_n 1, 1) := by decide +kernel
theorem dX8_doRunTap_82 : decode cX8_doRunTap 82 = .ok (.iconst 1, 1) := by decide +kernel
theorem dX8_doRunTap_83 : decode cX8_doRunTap 83 = .ok (.aload_n 0, 1) := by decide +kernel
theorem dX8_doRunTap_84 : decode cX8_doRunTap 84 = .ok (.iload_n 1, 1) := by decide +kernel
theorem dX8_doRunTap_85 : decode cX8_doRunTap 85 = .ok (.iconst 1, 1) := by decide +kernel
theorem dX8_doRunTap_86 : decode cX8_doRunTap 86 = .ok (.invokevirtual 58, 3) := by decide +kernel
theorem dX8_doRunTap_89 : decode cX8_doRunTap 89 = .ok (.iload 4, 2) := by decide +kernel
theorem dX8_doRunTap_91 : decode cX8_doRunTap 91 = .ok (.iadd, 1) := by decide +kernel
theorem dX8_doRunTap_92 : decode cX8_doRunTap 92 = .ok (.invokevirtual 84, 3) := by decide +kernel
theorem dX8_doRunTap_95 : decode cX8_doRunTap 95 = .ok (.aload_n 0, 1) := by decide +kernel
theorem dX8_doRunTap_96 : decode cX8_doRunTap 96 = .ok (.getfield 9, 3) := by decide +kernel
theorem dX8_doRunTap_99 : decode cX8_doRunTap 99 = .ok (.iconst 5, 1) := by decide +kernel
theorem dX8_doRunTap_100 : decode cX8_doRunTap 100 = .ok (.dup2, 1) := by decide +kernel
theorem dX8_doRunTap_101 : decode cX8_doRunTap 101 = .ok (.iaload, 1) := by decide +kernel
theorem dX8_doRunTap_102 : decode cX8_doRunTap 102 = .ok (.iload_n 3, 1) := by decide +kernel
theorem dX8_doRunTap_103 : decode cX8_doRunTap 103 = .ok (.iadd, 1) := by decide +kernel
theorem dX8_doRunTap_104 : decode cX8_doRunTap 104 = .ok (.iastore, 1) := by decide +kernel
theorem dX8_doRunTap_105 : decode cX8_doRunTap 105 = .ok (.aload_n 0, 1) := by decide +kernel
theorem dX8_doRunTap_106 : decode cX8_doRunTap 106 = .ok (.getfield 9, 3) := by decide +kernel
theorem dX8_doRunTap_109 : decode cX8_doRunTap 109 = .ok (.bipush 7, 2) := by decide +kernel
theorem dX8_doRunTap_111 : decode cX8_doRunTap 111 = .ok (.dup2, 1) := by decide +kernel
theorem dX8_doRunTap_112 : decode cX8_doRunTap 112 = .ok (.iaload, 1) := by decide +kernel
theorem dX8_doRunTap_113 : decode cX8_doRunTap 113 = .ok (.iload 4, 2) := by decide +kernel
theorem dX8_doRunTap_115 : decode cX8_doRunTap 115 = .ok (.iadd, 1) := by decide +kernel
theorem dX8_doRunTap_116 : decode cX8_doRunTap 116 = .ok (.iastore, 1) := by decide +kernel
theorem dX8_doRunTap_117 : decode cX8_doRunTap 117 = .ok (.aload_n 0, 1) := by decide +kernel
theorem dX8_doRunTap_118 : decode cX8_doRunTap 118 = .ok (.bipush 116, 2) := by decide +kernel
theorem dX8_doRunTap_120 : decode cX8_doRunTap 120 = .ok (.iload_n 1, 1) := by decide +kernel
theorem dX8_doRunTap_121 : decode cX8_doRunTap 121 = .ok (.iload_n 3, 1) := by decide +kernel
theorem dX8_doRunTap_122 : decode cX8_doRunTap 122 = .ok (.invokevirtual 104, 3) := by decide +kernel
theorem dX8_doRunTap_125 : decode cX8_doRunTap 125 = .ok (.aload_n 0, 1) := by decide +kernel
theorem dX8_doRunTap_126 : decode cX8_doRunTap 126 = .ok (.invokevirtual 108, 3) := by decide +kernel
theorem dX8_doRunTap_129 : decode cX8_doRunTap 129 = .ok (.aload_n 0, 1) := by decide +kernel
theorem dX8_doRunTap_130 : decode cX8_doRunTap 130 = .ok (.iload_n 1, 1) := by decide +kernel
theorem dX8_doRunTap_131 : decode cX8_doRunTap 131 = .ok (.iconst 0, 1) := by decide +kernel
theorem dX8_doRunTap_132 : decode cX8_doRunTap 132 = .ok (.invokevirtual 58, 3) := by decide +kernel
theorem dX8_doRunTap_135 : decode cX8_doRunTap 135 = .ok (.ireturn, 1) := by decide +kernel
set_option maxRecDepth 20000 in
theorem ggX8_runTap_X8_keep : GoodIn wsX8_runTap wsX8_keep := goodIn_r _ [5, 6, 7, 8, 9, 10, 11, 12, 73, 74, 75, 76, 77, 78, 79, 80, 81, 82, 83, 84, 85, 86, 87, 88, 89, 90] (by decide +kernel) (by decide +kernel)
set_option maxRecDepth 20000 in
theorem gX8_runTap_X8_keep : GoodIn wsX8_runTap (wsV RX8 88 RX8 yX8_keep wsX8_keep) := goodIn_app (goodIn_of _ (by decide +kernel)) ggX8_runTap_X8_keep
set_option maxRecDepth 20000 in
theorem ggX8_runTap_X8_doRunTap : GoodIn wsX8_runTap wsX8_doRunTap := goodIn_ca (goodIn_ca (goodIn_r _ [16, 7, 17, 18, 19, 4, 20, 21, 22, 23, 24, 25, 26, 27, 6, 28, 29, 30, 31, 32, 33, 34, 35, 36, 37, 38, 39, 40, 41, 42, 9, 10, 11, 12, 43, 44, 45, 46, 47, 48, 49, 50, 51, 52, 53, 54, 55, 56, 57, 58, 59, 60, 61, 62, 63, 64, 65, 66, 73, 74, 75, 76, 77, 78, 79, 80, 81, 82, 83, 84, 85, 86, 87, 88, 89, 90] (by decide +kernel) (by decide +kernel)) (goodIn_sub (fun _ h => List.mem_cons_of_mem _ (List.mem_append_left _ (List.mem_append_right _ h))) (by decide +kernel))) (goodIn_sub (fun _ h => List.mem_cons_of_mem _ (List.mem_append_right _ h)) (by decide +kernel))
set_option maxRecDepth 20000 in
theorem gX8_runTap_X8_doRunTap : GoodIn wsX8_runTap (wsV RX8 111 RX8 yX8_doRunTap wsX8_doRunTap) := goodIn_app (goodIn_of _ (by decide +kernel)) ggX8_runTap_X8_doRunTap
set_option maxRecDepth 20000 in
theorem ggX8_runTap_X8_ends : GoodIn wsX8_runTap wsX8_ends := goodIn_r _ [70, 6, 8, 7, 9, 10, 11, 12, 71, 72, 73, 74, 75, 76, 77, 78, 79, 80, 81, 82, 83, 84, 85, 86, 87, 88, 89, 90] (by decide +kernel) (by decide +kernel)
set_option maxRecDepth 20000 in
theorem gX8_runTap_X8_ends : GoodIn wsX8_runTap (wsV RX8 95 RX8 yX8_ends wsX8_ends) := goodIn_app (goodIn_of _ (by decide +kernel)) ggX8_runTap_X8_ends
theorem dX8_runTap_0 : decode cX8_runTap 0 = .ok (.aload_n 0, 1) := by decide +kernel
theorem dX8_runTap_1 : decode cX8_runTap 1 = .ok (.invokevirtual 88, 3) := by decide +kernel
theorem dX8_runTap_4 : decode cX8_runTap 4 = .ok (.aload_n 0, 1) := by decide +kernel
theorem dX8_runTap_5 : decode cX8_runTap 5 = .ok (.aload_n 0, 1) := by decide +kernel
theorem dX8_runTap_6 : decode cX8_runTap 6 = .ok (.iload_n 1, 1) := by decide +kernel
theorem dX8_runTap_7 : decode cX8_runTap 7 = .ok (.iload_n 2, 1) := by decide +kernel
theorem dX8_runTap_8 : decode cX8_runTap 8 = .ok (.iload_n 3, 1) := by decide +kernel
theorem dX8_runTap_9 : decode cX8_runTap 9 = .ok (.invokevirtual 111, 3) := by decide +kernel
theorem dX8_runTap_12 : decode cX8_runTap 12 = .ok (.invokevirtual 95, 3) := by decide +kernel
theorem dX8_runTap_15 : decode cX8_runTap 15 = .ok (.ireturn, 1) := by decide +kernel
set_option maxRecDepth 20000 in
theorem ggX8_doSetPlug_X8_isBath : GoodIn wsX8_doSetPlug wsX8_isBath := goodIn_ca (goodIn_r _ [5, 6, 7, 8, 4, 9, 23, 24, 25, 26, 27, 28, 29, 30, 31, 32, 33, 34, 35, 36, 37, 38, 39, 40] (by decide +kernel) (by decide +kernel)) (goodIn_sub (fun _ h => List.mem_cons_of_mem _ (List.mem_append_right _ h)) (by decide +kernel))
set_option maxRecDepth 20000 in
theorem gX8_doSetPlug_X8_isBath : GoodIn wsX8_doSetPlug (wsV RX8 98 RX8 yX8_isBath wsX8_isBath) := goodIn_app (goodIn_of _ (by decide +kernel)) ggX8_doSetPlug_X8_isBath
set_option maxRecDepth 20000 in
theorem ggX8_doSetPlug_X8_fails : GoodIn wsX8_doSetPlug wsX8_fails := goodIn_r _ [13, 14, 23, 24, 25, 26, 27, 28, 29, 30, 31, 32, 33, 34, 35, 36, 37, 38, 39, 40] (by decide +kernel) (by decide +kernel)
set_option maxRecDepth 20000 in
theorem gX8_doSetPlug_X8_fails : GoodIn wsX8_doSetPlug (wsV RX8 81 RX8 yX8_fails wsX8_fails) := goodIn_app (goodIn_of _ (by decide +kernel)) ggX8_doSetPlug_X8_fails
set_option maxRecDepth 20000 in
theorem ggX8_doSetPlug_X8_of : GoodIn wsX8_doSetPlug wsX8_of := goodIn_ca (goodIn_r _ [18, 6, 23, 24, 25, 26, 27, 28, 29, 30, 31, 32, 33, 34, 35, 36, 37, 38, 39, 40] (by decide +kernel) (by decide +kernel)) (goodIn_sub (fun _ h => List.mem_cons_of_mem _ (List.mem_append_right _ h)) (by decide +kernel))
set_option maxRecDepth 20000 in
theorem gX8_doSetPlug_X8_of : GoodIn wsX8_doSetPlug (wsV RX8 58 RX8 yX8_of wsX8_of) := goodIn_app (goodIn_of _ (by decide +kernel)) ggX8_doSetPlug_X8_of
set_option maxRecDepth 20000 in
theorem ggX8_doSetPlug_X8_sets : GoodIn wsX8_doSetPlug wsX8_sets := goodIn_ca (goodIn_r _ [22, 6, 23, 24, 25, 26, 27, 28, 29, 30, 31, 32, 33, 34, 35, 36, 37, 38, 39, 40] (by decide +kernel) (by decide +kernel)) (goodIn_sub (fun _ h => List.mem_cons_of_mem _ (List.mem_append_right _ h)) (by decide +kernel))
set_option maxRecDepth 20000 in
theorem gX8_doSetPlug_X8_sets : GoodIn wsX8_doSetPlug (wsV RX8 84 RX8 yX8_sets wsX8_sets) := goodIn_app (goodIn_of _ (by decide +kernel)) ggX8_doSetPlug_X8_sets
theorem dX8_doSetPlug_0 : decode cX8_doSetPlug 0 = .ok (.aload_n 0, 1) := by decide +kernel
theorem dX8_doSetPlug_1 : decode cX8_doSetPlug 1 = .ok (.iload_n 1, 1) := by decide +kernel
theorem dX8_doSetPlug_2 : decode cX8_doSetPlug 2 = .ok (.invokevirtual 98, 3) := by decide +kernel
theorem dX8_doSetPlug_5 : decode cX8_doSetPlug 5 = .ok (.ifCond .ne 9, 3) := by decide +kernel
theorem dX8_doSetPlug_8 : decode cX8_doSetPlug 8 = .ok (.aload_n 0, 1) := by decide +kernel
theorem dX8_doSetPlug_9 : decode cX8_doSetPlug 9 = .ok (.iconst 1, 1) := by decide +kernel
theorem dX8_doSetPlug_10 : decode cX8_doSetPlug 10 = .ok (.invokevirtual 81, 3) := by decide +kernel
theorem dX8_doSetPlug_13 : decode cX8_doSetPlug 13 = .ok (.ireturn, 1) := by decide +kernel
theorem dX8_doSetPlug_14 : decode cX8_doSetPlug 14 = .ok (.aload_n 0, 1) := by decide +kernel
theorem dX8_doSetPlug_15 : decode cX8_doSetPlug 15 = .ok (.iload_n 1, 1) := by decide +kernel
theorem dX8_doSetPlug_16 : decode cX8_doSetPlug 16 = .ok (.iconst 2, 1) := by decide +kernel
theorem dX8_doSetPlug_17 : decode cX8_doSetPlug 17 = .ok (.invokevirtual 58, 3) := by decide +kernel
theorem dX8_doSetPlug_20 : decode cX8_doSetPlug 20 = .ok (.istore_n 3, 1) := by decide +kernel
theorem dX8_doSetPlug_21 : decode cX8_doSetPlug 21 = .ok (.aload_n 0, 1) := by decide +kernel
theorem dX8_doSetPlug_22 : decode cX8_doSetPlug 22 = .ok (.iload_n 1, 1) := by decide +kernel
theorem dX8_doSetPlug_23 : decode cX8_doSetPlug 23 = .ok (.iconst 2, 1) := by decide +kernel
theorem dX8_doSetPlug_24 : decode cX8_doSetPlug 24 = .ok (.iload_n 2, 1) := by decide +kernel
theorem dX8_doSetPlug_25 : decode cX8_doSetPlug 25 = .ok (.ifCond .eq 7, 3) := by decide +kernel
theorem dX8_doSetPlug_28 : decode cX8_doSetPlug 28 = .ok (.iconst 0, 1) := by decide +kernel
theorem dX8_doSetPlug_29 : decode cX8_doSetPlug 29 = .ok (.goto 4, 3) := by decide +kernel
theorem dX8_doSetPlug_32 : decode cX8_doSetPlug 32 = .ok (.iconst 1, 1) := by decide +kernel
theorem dX8_doSetPlug_33 : decode cX8_doSetPlug 33 = .ok (.invokevirtual 84, 3) := by decide +kernel
theorem dX8_doSetPlug_36 : decode cX8_doSetPlug 36 = .ok (.iconst 1, 1) := by decide +kernel
theorem dX8_doSetPlug_37 : decode cX8_doSetPlug 37 = .ok (.iload_n 3, 1) := by decide +kernel
theorem dX8_doSetPlug_38 : decode cX8_doSetPlug 38 = .ok (.isub, 1) := by decide +kernel
theorem dX8_doSetPlug_39 : decode cX8_doSetPlug 39 = .ok (.ireturn, 1) := by decide +kernel
set_option maxRecDepth 20000 in
theorem ggX8_setPlug_X8_keep : GoodIn wsX8_setPlug wsX8_keep := goodIn_r _ [5, 6, 7, 8, 9, 10, 11, 12, 42, 43, 44, 45, 46, 47, 48, 49, 50, 51, 52, 53, 54, 55, 56, 57, 58, 59] (by decide +kernel) (by decide +kernel)
set_option maxRecDepth 20000 in
theorem gX8_setPlug_X8_keep : GoodIn wsX8_setPlug (wsV RX8 88 RX8 yX8_keep wsX8_keep) := goodIn_app (goodIn_of _ (by decide +kernel)) ggX8_setPlug_X8_keep
set_option maxRecDepth 20000 in
theorem ggX8_setPlug_X8_doSetPlug : GoodIn wsX8_setPlug wsX8_doSetPlug := goodIn_ca (goodIn_r _ [16, 17, 18, 19, 4, 20, 7, 21, 22, 23, 24, 25, 26, 27, 6, 28, 29, 30, 31, 32, 33, 34, 35, 42, 43, 44, 45, 46, 47, 48, 49, 50, 51, 52, 53, 54, 55, 56, 57, 58, 59] (by decide +kernel) (by decide +kernel)) (goodIn_sub (fun _ h => List.mem_cons_of_mem _ (List.mem_append_right _ h)) (by decide +kernel))
set_option maxRecDepth 20000 in
theorem gX8_setPlug_X8_doSetPlug : GoodIn wsX8_setPlug (wsV RX8 115 RX8 yX8_doSetPlug wsX8_doSetPlug) := goodIn_app (goodIn_of _ (by decide +kernel)) ggX8_setPlug_X8_doSetPlug
set_option maxRecDepth 20000 in
theorem ggX8_setPlug_X8_ends : GoodIn wsX8_setPlug wsX8_ends := goodIn_r _ [39, 6, 8, 7, 9, 10, 11, 12, 40, 41, 42, 43, 44, 45, 46, 47, 48, 49, 50, 51, 52, 53, 54, 55, 56, 57, 58, 59] (by decide +kernel) (by decide +kernel)
set_option maxRecDepth 20000 in
theorem gX8_setPlug_X8_ends : GoodIn wsX8_setPlug (wsV RX8 95 RX8 yX8_ends wsX8_ends) := goodIn_app (goodIn_of _ (by decide +kernel)) ggX8_setPlug_X8_ends
theorem dX8_setPlug_0 : decode cX8_setPlug 0 = .ok (.aload_n 0, 1) := by decide +kernel
theorem dX8_setPlug_1 : decode cX8_setPlug 1 = .ok (.invokevirtual 88, 3) := by decide +kernel
theorem dX8_setPlug_4 : decode cX8_setPlug 4 = .ok (.aload_n 0, 1) := by decide +kernel
theorem dX8_setPlug_5 : decode cX8_setPlug 5 = .ok (.aload_n 0, 1) := by decide +kernel
theorem dX8_setPlug_6 : decode cX8_setPlug 6 = .ok (.iload_n 1, 1) := by decide +kernel
theorem dX8_setPlug_7 : decode cX8_setPlug 7 = .ok (.iload_n 2, 1) := by decide +kernel
theorem dX8_setPlug_8 : decode cX8_setPlug 8 = .ok (.invokevirtual 115, 3) := by decide +kernel
theorem dX8_setPlug_11 : decode cX8_setPlug 11 = .ok (.invokevirtual 95, 3) := by decide +kernel
theorem dX8_setPlug_14 : decode cX8_setPlug 14 = .ok (.iconst 1, 1) := by decide +kernel
theorem dX8_setPlug_15 : decode cX8_setPlug 15 = .ok (.if_icmp .ne 7, 3) := by decide +kernel
theorem dX8_setPlug_18 : decode cX8_setPlug 18 = .ok (.iconst 1, 1) := by decide +kernel
theorem dX8_setPlug_19 : decode cX8_setPlug 19 = .ok (.goto 4, 3) := by decide +kernel
theorem dX8_setPlug_22 : decode cX8_setPlug 22 = .ok (.iconst 0, 1) := by decide +kernel
theorem dX8_setPlug_23 : decode cX8_setPlug 23 = .ok (.ireturn, 1) := by decide +kernel
set_option maxRecDepth 20000 in
theorem ggX8_doPour_X8_isBath : GoodIn wsX8_doPour wsX8_isBath := goodIn_ca (goodIn_r _ [5, 6, 7, 8, 4, 9, 55, 56, 57, 58, 59, 60, 61, 62, 63, 64, 65, 66, 67, 68, 69, 70, 71, 72] (by decide +kernel) (by decide +kernel)) (goodIn_sub (fun _ h => List.mem_cons_of_mem _ (List.mem_append_right _ h)) (by decide +kernel))
set_option maxRecDepth 20000 in
theorem gX8_doPour_X8_isBath : GoodIn wsX8_doPour (wsV RX8 98 RX8 yX8_isBath wsX8_isBath) := goodIn_app (goodIn_of _ (by decide +kernel)) ggX8_doPour_X8_isBath
set_option maxRecDepth 20000 in
theorem ggX8_doPour_X8_fails : GoodIn wsX8_doPour wsX8_fails := goodIn_r _ [13, 14, 55, 56, 57, 58, 59, 60, 61, 62, 63, 64, 65, 66, 67, 68, 69, 70, 71, 72] (by decide +kernel) (by decide +kernel)
set_option maxRecDepth 20000 in
theorem gX8_doPour_X8_fails : GoodIn wsX8_doPour (wsV RX8 81 RX8 yX8_fails wsX8_fails) := goodIn_app (goodIn_of _ (by decide +kernel)) ggX8_doPour_X8_fails
set_option maxRecDepth 20000 in
theorem ggX8_doPour_X8_in : GoodIn wsX8_doPour wsX8_in := goodIn_r _ [9] (by decide +kernel) (by decide +kernel)
set_option maxRecDepth 20000 in
theorem gX8_doPour_X8_in : GoodIn wsX8_doPour (va_wsS RX8 54 yX8_in wsX8_in) := goodIn_app (goodIn_of _ (by decide +kernel)) ggX8_doPour_X8_in
set_option maxRecDepth 20000 in
theorem ggX8_doPour_X8_of : GoodIn wsX8_doPour wsX8_of := goodIn_ca (goodIn_r _ [18, 6, 55, 56, 57, 58, 59, 60, 61, 62, 63, 64, 65, 66, 67, 68, 69, 70, 71, 72] (by decide +kernel) (by decide +kernel)) (goodIn_sub (fun _ h => List.mem_cons_of_mem _ (List.mem_append_right _ h)) (by decide +kernel))
set_option maxRecDepth 20000 in
theorem gX8_doPour_X8_of : GoodIn wsX8_doPour (wsV RX8 58 RX8 yX8_of wsX8_of) := goodIn_app (goodIn_of _ (by decide +kernel)) ggX8_doPour_X8_of
set_option maxRecDepth 20000 in
theorem ggX8_doPour_X8_sets : GoodIn wsX8_doPour wsX8_sets := goodIn_ca (goodIn_r _ [22, 6, 55, 56, 57, 58, 59, 60, 61, 62, 63, 64, 65, 66, 67, 68, 69, 70, 71, 72] (by decide +kernel) (by decide +kernel)) (goodIn_sub (fun _ h => List.mem_cons_of_mem _ (List.mem_append_right _ h)) (by decide +kernel))
set_option maxRecDepth 20000 in
theorem gX8_doPour_X8_sets : GoodIn wsX8_doPour (wsV RX8 84 RX8 yX8_sets wsX8_sets) := goodIn_app (goodIn_of _ (by decide +kernel)) ggX8_doPour_X8_sets
set_option maxRecDepth 20000 in
theorem ggX8_doPour_X8_happens : GoodIn wsX8_doPour wsX8_happens := goodIn_ca (goodIn_r _ [26, 6, 27, 28, 29, 30, 31, 32, 33, 34, 55, 56, 57, 58, 59, 60, 61, 62, 63, 64, 65, 66, 67, 68, 69, 70, 71, 72] (by decide +kernel) (by decide +kernel)) (goodIn_sub (fun _ h => List.mem_cons_of_mem _ (List.mem_append_right _ h)) (by decide +kernel))
set_option maxRecDepth 20000 in
theorem gX8_doPour_X8_happens : GoodIn wsX8_doPour (wsV RX8 104 RX8 yX8_happens wsX8_happens) := goodIn_app (goodIn_of _ (by decide +kernel)) ggX8_doPour_X8_happens
set_option maxRecDepth 20000 in
theorem ggX8_doPour_X8_looks : GoodIn wsX8_doPour wsX8_looks := goodIn_ca (goodIn_ca (goodIn_r _ [38, 6, 39, 40, 41, 4, 42, 43, 44, 45, 46, 47, 48, 49, 50, 15, 16, 17, 18, 51, 52, 53, 54, 7, 8, 9, 55, 56, 57, 58, 59, 60, 61, 62, 63, 64, 65, 66, 67, 68, 69, 70, 71, 72] (by decide +kernel) (by decide +kernel)) (goodIn_sub (fun _ h => List.mem_cons_of_mem _ (List.mem_append_right _ h)) (by decide +kernel))) (goodIn_sub (fun _ h => List.mem_cons_of_mem _ (List.mem_append_left _ (List.mem_append_right _ h))) (by decide +kernel))
set_option maxRecDepth 20000 in
theorem gX8_doPour_X8_looks : GoodIn wsX8_doPour (wsV RX8 108 RX8 yX8_looks wsX8_looks) := goodIn_app (goodIn_of _ (by decide +kernel)) ggX8_doPour_X8_looks
theorem dX8_doPour_0 : decode cX8_doPour 0 = .ok (.aload_n 0, 1) := by decide +kernel
theorem dX8_doPour_1 : decode cX8_doPour 1 = .ok (.iload_n 1, 1) := by decide +kernel
theorem dX8_doPour_2 : decode cX8_doPour 2 = .ok (.invokevirtual 98, 3) := by decide +kernel
theorem dX8_doPour_5 : decode cX8_doPour 5 = .ok (.ifCond .eq 11, 3) := by decide +kernel
theorem dX8_doPour_8 : decode cX8_doPour 8 = .ok (.aload_n 0, 1) := by decide +kernel
theorem dX8_doPour_9 : decode cX8_doPour 9 = .ok (.iload_n 2, 1) := by decide +kernel
theorem dX8_doPour_10 : decode cX8_doPour 10 = .ok (.invokevirtual 98, 3) := by decide +kernel
theorem dX8_doPour_13 : decode cX8_doPour 13 = .ok (.ifCond .ne 9, 3) := by decide +kernel
theorem dX8_doPour_16 : decode cX8_doPour 16 = .ok (.aload_n 0, 1) := by decide +kernel
theorem dX8_doPour_17 : decode cX8_doPour 17 = .ok (.iconst 1, 1) := by decide +kernel
theorem dX8_doPour_18 : decode cX8_doPour 18 = .ok (.invokevirtual 81, 3) := by decide +kernel
theorem dX8_doPour_21 : decode cX8_doPour 21 = .ok (.ireturn, 1) := by decide +kernel
theorem dX8_doPour_22 : decode cX8_doPour 22 = .ok (.iload_n 1, 1) := by decide +kernel
theorem dX8_doPour_23 : decode cX8_doPour 23 = .ok (.iload_n 2, 1) := by decide +kernel
theorem dX8_doPour_24 : decode cX8_doPour 24 = .ok (.if_icmp .eq 13, 3) := by decide +kernel
theorem dX8_doPour_27 : decode cX8_doPour 27 = .ok (.iload_n 3, 1) := by decide +kernel
theorem dX8_doPour_28 : decode cX8_doPour 28 = .ok (.iconst 1, 1) := by decide +kernel
theorem dX8_doPour_29 : decode cX8_doPour 29 = .ok (.bipush 99, 2) := by decide +kernel
theorem dX8_doPour_31 : decode cX8_doPour 31 = .ok (.invokestatic 54, 3) := by decide +kernel
theorem dX8_doPour_34 : decode cX8_doPour 34 = .ok (.ifCond .ne 9, 3) := by decide +kernel
theorem dX8_doPour_37 : decode cX8_doPour 37 = .ok (.aload_n 0, 1) := by decide +kernel
theorem dX8_doPour_38 : decode cX8_doPour 38 = .ok (.iconst 2, 1) := by decide +kernel
theorem dX8_doPour_39 : decode cX8_doPour 39 = .ok (.invokevirtual 81, 3) := by decide +kernel
theorem dX8_doPour_42 : decode cX8_doPour 42 = .ok (.ireturn, 1) := by decide +kernel
theorem dX8_doPour_43 : decode cX8_doPour 43 = .ok (.aload_n 0, 1) := by decide +kernel
theorem dX8_doPour_44 : decode cX8_doPour 44 = .ok (.iload_n 1, 1) := by decide +kernel
theorem dX8_doPour_45 : decode cX8_doPour 45 = .ok (.iconst 0, 1) := by decide +kernel
theorem dX8_doPour_46 : decode cX8_doPour 46 = .ok (.invokevirtual 58, 3) := by decide +kernel
theorem dX8_doPour_49 : decode cX8_doPour 49 = .ok (.iload_n 3, 1) := by decide +kernel
theorem dX8_doPour_50 : decode cX8_doPour 50 = .ok (.if_icmp .ge 9, 3) := by decide +kernel
theorem dX8_doPour_53 : decode cX8_doPour 53 = .ok (.aload_n 0, 1) := by decide +kernel
theorem dX8_doPour_54 : decode cX8_doPour 54 = .ok (.iconst 3, 1) := by decide +kernel
theorem dX8_doPour_55 : decode cX8_doPour 55 = .ok (.invokevirtual 81, 3) := by decide +kernel
theorem dX8_doPour_58 : decode cX8_doPour 58 = .ok (.ireturn, 1) := by decide +kernel
theorem dX8_doPour_59 : decode cX8_doPour 59 = .ok (.aload_n 0, 1) := by decide +kernel
theorem dX8_doPour_60 : decode cX8_doPour 60 = .ok (.iload_n 2, 1) := by decide +kernel
theorem dX8_doPour_61 : decode cX8_doPour 61 = .ok (.iconst 0, 1) := by decide +kernel
theorem dX8_doPour_62 : decode cX8_doPour 62 = .ok (.invokevirtual 58, 3) := by decide +kernel
theorem dX8_doPour_65 : decode cX8_doPour 65 = .ok (.iload_n 3, 1) := by decide +kernel
theorem dX8_doPour_66 : decode cX8_doPour 66 = .ok (.iadd, 1) := by decide +kernel
theorem dX8_doPour_67 : decode cX8_doPour 67 = .ok (.bipush 100, 2) := by decide +kernel
theorem dX8_doPour_69 : decode cX8_doPour 69 = .ok (.if_icmp .le 9, 3) := by decide +kernel
theorem dX8_doPour_72 : decode cX8_doPour 72 = .ok (.aload_n 0, 1) := by decide +kernel
theorem dX8_doPour_73 : decode cX8_doPour 73 = .ok (.iconst 4, 1) := by decide +kernel
theorem dX8_doPour_74 : decode cX8_doPour 74 = .ok (.invokevirtual 81, 3) := by decide +kernel
theorem dX8_doPour_77 : decode cX8_doPour 77 = .ok (.ireturn, 1) := by decide +kernel
theorem dX8_doPour_78 : decode cX8_doPour 78 = .ok (.aload_n 0, 1) := by decide +kernel
theorem dX8_doPour_79 : decode cX8_doPour 79 = .ok (.iload_n 1, 1) := by decide +kernel
theorem dX8_doPour_80 : decode cX8_doPour 80 = .ok (.iconst 1, 1) := by decide +kernel
theorem dX8_doPour_81 : decode cX8_doPour 81 = .ok (.invokevirtual 58, 3) := by decide +kernel
theorem dX8_doPour_84 : decode cX8_doPour 84 = .ok (.iload_n 3, 1) := by decide +kernel
theorem dX8_doPour_85 : decode cX8_doPour 85 = .ok (.imul, 1) := by decide +kernel
theorem dX8_doPour_86 : decode cX8_doPour 86 = .ok (.aload_n 0, 1) := by decide +kernel
theorem dX8_doPour_87 : decode cX8_doPour 87 = .ok (.iload_n 1, 1) := by decide +kernel
theorem dX8_doPour_88 : decode cX8_doPour 88 = .ok (.iconst 0, 1) := by decide +kernel
theorem dX8_doPour_89 : decode cX8_doPour 89 = .ok (.invokevirtual 58, 3) := by decide +kernel
theorem dX8_doPour_92 : decode cX8_doPour 92 = .ok (.idiv, 1) := by decide +kernel
theorem dX8_doPour_93 : decode cX8_doPour 93 = .ok (.istore 4, 2) := by decide +kernel
theorem dX8_doPour_95 : decode cX8_doPour 95 = .ok (.aload_n 0, 1) := by decide +kernel
theorem dX8_doPour_96 : decode cX8_doPour 96 = .ok (.iload_n 1, 1) := by decide +kernel
theorem dX8_doPour_97 : decode cX8_doPour 97 = .ok (.iconst 0, 1) := by decide +kernel
theorem dX8_doPour_98 : decode cX8_doPour 98 = .ok (.aload_n 0, 1) := by decide +kernel
theorem dX8_doPour_99 : decode cX8_doPour 99 = .ok (.iload_n 1, 1) := by decide +kernel
theorem dX8_doPour_100 : decode cX8_doPour 100 = .ok (.iconst 0, 1) := by decide +kernel
theorem dX8_doPour_101 : decode cX8_doPour 101 = .ok (.invokevirtual 58, 3) := by decide +kernel
theorem dX8_doPour_104 : decode cX8_doPour 104 = .ok (.iload_n 3, 1) := by decide +kernel
theorem dX8_doPour_105 : decode cX8_doPour 105 = .ok (.isub, 1) := by decide +kernel
theorem dX8_doPour_106 : decode cX8_doPour 106 = .ok (.invokevirtual 84, 3) := by decide +kernel
theorem dX8_doPour_109 : decode cX8_doPour 109 = .ok (.aload_n 0, 1) := by decide +kernel
theorem dX8_doPour_110 : decode cX8_doPour 110 = .ok (.iload_n 1, 1) := by decide +kernel
theorem dX8_doPour_111 : decode cX8_doPour 111 = .ok (.iconst 1, 1) := by decide +kernel
theorem dX8_doPour_112 : decode cX8_doPour 112 = .ok (.aload_n 0, 1) := by decide +kernel
theorem dX8_doPour_113 : decode cX8_doPour 113 = .ok (.iload_n 1, 1) := by decide +kernel
theorem dX8_doPour_114 : decode cX8_doPour 114 = .ok (.iconst 1, 1) := by decide +kernel
theorem dX8_doPour_115 : decode cX8_doPour 115 = .ok (.invokevirtual 58, 3) := by decide +kernel
theorem dX8_doPour_118 : decode cX8_doPour 118 = .ok (.iload 4, 2) := by decide +kernel
theorem dX8_doPour_120 : decode cX8_doPour 120 = .ok (.isub, 1) := by decide +kernel
theorem dX8_doPour_121 : decode cX8_doPour 121 = .ok (.invokevirtual 84, 3) := by decide +kernel
theorem dX8_doPour_124 : decode cX8_doPour 124 = .ok (.aload_n 0, 1) := by decide +kernel
theorem dX8_doPour_125 : decode cX8_doPour 125 = .ok (.iload_n 2, 1) := by decide +kernel
theorem dX8_doPour_126 : decode cX8_doPour 126 = .ok (.iconst 0, 1) := by decide +kernel
theorem dX8_doPour_127 : decode cX8_doPour 127 = .ok (.aload_n 0, 1) := by decide +kernel
theorem dX8_doPour_128 : decode cX8_doPour 128 = .ok (.iload_n 2, 1) := by decide +kernel
theorem dX8_doPour_129 : decode cX8_doPour 129 = .ok (.iconst 0, 1) := by decide +kernel
theorem dX8_doPour_130 : decode cX8_doPour 130 = .ok (.invokevirtual 58, 3) := by decide +kernel
theorem dX8_doPour_133 : decode cX8_doPour 133 = .ok (.iload_n 3, 1) := by decide +kernel
theorem dX8_doPour_134 : decode cX8_doPour 134 = .ok (.iadd, 1) := by decide +kernel
theorem dX8_doPour_135 : decode cX8_doPour 135 = .ok (.invokevirtual 84, 3) := by decide +kernel
theorem dX8_doPour_138 : decode cX8_doPour 138 = .ok (.aload_n 0, 1) := by decide +kernel
theorem dX8_doPour_139 : decode cX8_doPour 139 = .ok (.iload_n 2, 1) := by decide +kernel
theorem dX8_doPour_140 : decode cX8_doPour 140 = .ok (.iconst 1, 1) := by decide +kernel
theorem dX8_doPour_141 : decode cX8_doPour 141 = .ok (.aload_n 0, 1) := by decide +kernel
theorem dX8_doPour_142 : decode cX8_doPour 142 = .ok (.iload_n 2, 1) := by decide +kernel
theorem dX8_doPour_143 : decode cX8_doPour 143 = .ok (.iconst 1, 1) := by decide +kernel
theorem dX8_doPour_144 : decode cX8_doPour 144 = .ok (.invokevirtual 58, 3) := by decide +kernel
theorem dX8_doPour_147 : decode cX8_doPour 147 = .ok (.iload 4, 2) := by decide +kernel
theorem dX8_doPour_149 : decode cX8_doPour 149 = .ok (.iadd, 1) := by decide +kernel
theorem dX8_doPour_150 : decode cX8_doPour 150 = .ok (.invokevirtual 84, 3) := by decide +kernel
theorem dX8_doPour_153 : decode cX8_doPour 153 = .ok (.aload_n 0, 1) := by decide +kernel
theorem dX8_doPour_154 : decode cX8_doPour 154 = .ok (.bipush 112, 2) := by decide +kernel
theorem dX8_doPour_156 : decode cX8_doPour 156 = .ok (.iload_n 1, 1) := by decide +kernel
theorem dX8_doPour_157 : decode cX8_doPour 157 = .ok (.iload_n 3, 1) := by decide +kernel
theorem dX8_doPour_158 : decode cX8_doPour 158 = .ok (.invokevirtual 104, 3) := by decide +kernel
theorem dX8_doPour_161 : decode cX8_doPour 161 = .ok (.aload_n 0, 1) := by decide +kernel
theorem dX8_doPour_162 : decode cX8_doPour 162 = .ok (.invokevirtual 108, 3) := by decide +kernel
theorem dX8_doPour_165 : decode cX8_doPour 165 = .ok (.iload 4, 2) := by decide +kernel
theorem dX8_doPour_167 : decode cX8_doPour 167 = .ok (.ireturn, 1) := by decide +kernel
set_option maxRecDepth 20000 in
theorem ggX8_pour_X8_keep : GoodIn wsX8_pour wsX8_keep := goodIn_r _ [5, 6, 7, 8, 9, 10, 11, 12, 70, 71, 72, 73, 74, 75, 76, 77, 78, 79, 80, 81, 82, 83, 84, 85, 86, 87] (by decide +kernel) (by decide +kernel)
set_option maxRecDepth 20000 in
theorem gX8_pour_X8_keep : GoodIn wsX8_pour (wsV RX8 88 RX8 yX8_keep wsX8_keep) := goodIn_app (goodIn_of _ (by decide +kernel)) ggX8_pour_X8_keep
set_option maxRecDepth 20000 in
theorem ggX8_pour_X8_doPour : GoodIn wsX8_pour wsX8_doPour := goodIn_ca (goodIn_ca (goodIn_r _ [16, 17, 18, 19, 4, 20, 7, 21, 22, 23, 24, 25, 26, 27, 6, 28, 29, 30, 31, 32, 33, 34, 35, 36, 37, 38, 39, 9, 10, 11, 12, 40, 41, 42, 43, 44, 45, 46, 47, 48, 49, 50, 51, 52, 53, 54, 55, 56, 57, 58, 59, 60, 61, 62, 63, 70, 71, 72, 73, 74, 75, 76, 77, 78, 79, 80, 81, 82, 83, 84, 85, 86, 87] (by decide +kernel) (by decide +kernel)) (goodIn_sub (fun _ h => List.mem_cons_of_mem _ (List.mem_append_left _ (List.mem_append_right _ h))) (by decide +kernel))) (goodIn_sub (fun _ h => List.mem_cons_of_mem _ (List.mem_append_right _ h)) (by decide +kernel))
set_option maxRecDepth 20000 in
theorem gX8_pour_X8_doPour : GoodIn wsX8_pour (wsV RX8 119 RX8 yX8_doPour wsX8_doPour) := goodIn_app (goodIn_of _ (by decide +kernel)) ggX8_pour_X8_doPour
set_option maxRecDepth 20000 in
theorem ggX8_pour_X8_ends : GoodIn wsX8_pour wsX8_ends := goodIn_r _ [67, 6, 8, 7, 9, 10, 11, 12, 68, 69, 70, 71, 72, 73, 74, 75, 76, 77, 78, 79, 80, 81, 82, 83, 84, 85, 86, 87] (by decide +kernel) (by decide +kernel)
set_option maxRecDepth 20000 in
theorem gX8_pour_X8_ends : GoodIn wsX8_pour (wsV RX8 95 RX8 yX8_ends wsX8_ends) := goodIn_app (goodIn_of _ (by decide +kernel)) ggX8_pour_X8_ends
theorem dX8_pour_0 : decode cX8_pour 0 = .ok (.aload_n 0, 1) := by decide +kernel
theorem dX8_pour_1 : decode cX8_pour 1 = .ok (.invokevirtual 88, 3) := by decide +kernel
theorem dX8_pour_4 : decode cX8_pour 4 = .ok (.aload_n 0, 1) := by decide +kernel
theorem dX8_pour_5 : decode cX8_pour 5 = .ok (.aload_n 0, 1) := by decide +kernel
theorem dX8_pour_6 : decode cX8_pour 6 = .ok (.iload_n 1, 1) := by decide +kernel
theorem dX8_pour_7 : decode cX8_pour 7 = .ok (.iload_n 2, 1) := by decide +kernel
theorem dX8_pour_8 : decode cX8_pour 8 = .ok (.iload_n 3, 1) := by decide +kernel
theorem dX8_pour_9 : decode cX8_pour 9 = .ok (.invokevirtual 119, 3) := by decide +kernel
theorem dX8_pour_12 : decode cX8_pour 12 = .ok (.invokevirtual 95, 3) := by decide +kernel
theorem dX8_pour_15 : decode cX8_pour 15 = .ok (.ireturn, 1) := by decide +kernel
set_option maxRecDepth 20000 in
theorem ggX8_doAddDuck_X8_isBath : GoodIn wsX8_doAddDuck wsX8_isBath := goodIn_ca (goodIn_r _ [6, 1, 7, 8, 5, 9, 35, 36, 37, 38, 39, 40, 41, 42, 43, 44, 45, 46, 47, 48, 49, 50, 51, 52] (by decide +kernel) (by decide +kernel)) (goodIn_sub (fun _ h => List.mem_cons_of_mem _ (List.mem_append_left _ (List.mem_append_right _ h))) (by decide +kernel))
set_option maxRecDepth 20000 in
theorem gX8_doAddDuck_X8_isBath : GoodIn wsX8_doAddDuck (wsV RX8 98 RX8 yX8_isBath wsX8_isBath) := goodIn_app (goodIn_of _ (by decide +kernel)) ggX8_doAddDuck_X8_isBath
set_option maxRecDepth 20000 in
theorem ggX8_doAddDuck_X8_fails : GoodIn wsX8_doAddDuck wsX8_fails := goodIn_r _ [13, 14, 35, 36, 37, 38, 39, 40, 41, 42, 43, 44, 45, 46, 47, 48, 49, 50, 51, 52] (by decide +kernel) (by decide +kernel)
set_option maxRecDepth 20000 in
theorem gX8_doAddDuck_X8_fails : GoodIn wsX8_doAddDuck (wsV RX8 81 RX8 yX8_fails wsX8_fails) := goodIn_app (goodIn_of _ (by decide +kernel)) ggX8_doAddDuck_X8_fails
set_option maxRecDepth 20000 in
theorem ggX8_doAddDuck_X8_in : GoodIn wsX8_doAddDuck wsX8_in := goodIn_r _ [9] (by decide +kernel) (by decide +kernel)
set_option maxRecDepth 20000 in
theorem gX8_doAddDuck_X8_in : GoodIn wsX8_doAddDuck (va_wsS RX8 54 yX8_in wsX8_in) := goodIn_app (goodIn_of _ (by decide +kernel)) ggX8_doAddDuck_X8_in
set_option maxRecDepth 20000 in
theorem ggX8_doAddDuck_X8_isPleased : GoodIn wsX8_doAddDuck wsX8_isPleased := goodIn_ca (goodIn_ca (goodIn_r _ [18, 19, 20, 21, 5, 22, 1, 23, 24, 25, 26, 27, 28, 29, 30, 31, 32, 33, 34, 7, 8, 9, 35, 36, 37, 38, 39, 40, 41, 42, 43, 44, 45, 46, 47, 48, 49, 50, 51, 52] (by decide +kernel) (by decide +kernel)) (goodIn_sub (fun _ h => List.mem_cons_of_mem _ (List.mem_append_left _ (List.mem_append_right _ h))) (by decide +kernel))) (goodIn_sub (fun _ h => List.mem_cons_of_mem _ (List.mem_append_right _ h)) (by decide +kernel))
set_option maxRecDepth 20000 in
theorem gX8_doAddDuck_X8_isPleased : GoodIn wsX8_doAddDuck (wsV RX8 73 RX8 yX8_isPleased wsX8_isPleased) := goodIn_app (goodIn_of _ (by decide +kernel)) ggX8_doAddDuck_X8_isPleased
theorem dX8_doAddDuck_0 : decode cX8_doAddDuck 0 = .ok (.aload_n 0, 1) := by decide +kernel
theorem dX8_doAddDuck_1 : decode cX8_doAddDuck 1 = .ok (.getfield 9, 3) := by decide +kernel
theorem dX8_doAddDuck_4 : decode cX8_doAddDuck 4 = .ok (.iconst 1, 1) := by decide +kernel
theorem dX8_doAddDuck_5 : decode cX8_doAddDuck 5 = .ok (.iaload, 1) := by decide +kernel
theorem dX8_doAddDuck_6 : decode cX8_doAddDuck 6 = .ok (.istore 4, 2) := by decide +kernel
theorem dX8_doAddDuck_8 : decode cX8_doAddDuck 8 = .ok (.aload_n 0, 1) := by decide +kernel
theorem dX8_doAddDuck_9 : decode cX8_doAddDuck 9 = .ok (.iload_n 1, 1) := by decide +kernel
theorem dX8_doAddDuck_10 : decode cX8_doAddDuck 10 = .ok (.invokevirtual 98, 3) := by decide +kernel
theorem dX8_doAddDuck_13 : decode cX8_doAddDuck 13 = .ok (.ifCond .ne 9, 3) := by decide +kernel
theorem dX8_doAddDuck_16 : decode cX8_doAddDuck 16 = .ok (.aload_n 0, 1) := by decide +kernel
theorem dX8_doAddDuck_17 : decode cX8_doAddDuck 17 = .ok (.iconst 1, 1) := by decide +kernel
theorem dX8_doAddDuck_18 : decode cX8_doAddDuck 18 = .ok (.invokevirtual 81, 3) := by decide +kernel
theorem dX8_doAddDuck_21 : decode cX8_doAddDuck 21 = .ok (.ireturn, 1) := by decide +kernel
theorem dX8_doAddDuck_22 : decode cX8_doAddDuck 22 = .ok (.iload_n 2, 1) := by decide +kernel
theorem dX8_doAddDuck_23 : decode cX8_doAddDuck 23 = .ok (.iconst 0, 1) := by decide +kernel
theorem dX8_doAddDuck_24 : decode cX8_doAddDuck 24 = .ok (.bipush 99, 2) := by decide +kernel
theorem dX8_doAddDuck_26 : decode cX8_doAddDuck 26 = .ok (.invokestatic 54, 3) := by decide +kernel
theorem dX8_doAddDuck_29 : decode cX8_doAddDuck 29 = .ok (.ifCond .eq 13, 3) := by decide +kernel
theorem dX8_doAddDuck_32 : decode cX8_doAddDuck 32 = .ok (.iload_n 3, 1) := by decide +kernel
theorem dX8_doAddDuck_33 : decode cX8_doAddDuck 33 = .ok (.iload_n 2, 1) := by decide +kernel
theorem dX8_doAddDuck_34 : decode cX8_doAddDuck 34 = .ok (.bipush 99, 2) := by decide +kernel
theorem dX8_doAddDuck_36 : decode cX8_doAddDuck 36 = .ok (.invokestatic 54, 3) := by decide +kernel
theorem dX8_doAddDuck_39 : decode cX8_doAddDuck 39 = .ok (.ifCond .ne 9, 3) := by decide +kernel
theorem dX8_doAddDuck_42 : decode cX8_doAddDuck 42 = .ok (.aload_n 0, 1) := by decide +kernel
theorem dX8_doAddDuck_43 : decode cX8_doAddDuck 43 = .ok (.iconst 2, 1) := by decide +kernel
theorem dX8_doAddDuck_44 : decode cX8_doAddDuck 44 = .ok (.invokevirtual 81, 3) := by decide +kernel
theorem dX8_doAddDuck_47 : decode cX8_doAddDuck 47 = .ok (.ireturn, 1) := by decide +kernel
theorem dX8_doAddDuck_48 : decode cX8_doAddDuck 48 = .ok (.iload 4, 2) := by decide +kernel
theorem dX8_doAddDuck_50 : decode cX8_doAddDuck 50 = .ok (.bipush 6, 2) := by decide +kernel
theorem dX8_doAddDuck_52 : decode cX8_doAddDuck 52 = .ok (.if_icmp .ne 9, 3) := by decide +kernel
theorem dX8_doAddDuck_55 : decode cX8_doAddDuck 55 = .ok (.aload_n 0, 1) := by decide +kernel
theorem dX8_doAddDuck_56 : decode cX8_doAddDuck 56 = .ok (.iconst 3, 1) := by decide +kernel
theorem dX8_doAddDuck_57 : decode cX8_doAddDuck 57 = .ok (.invokevirtual 81, 3) := by decide +kernel
theorem dX8_doAddDuck_60 : decode cX8_doAddDuck 60 = .ok (.ireturn, 1) := by decide +kernel
theorem dX8_doAddDuck_61 : decode cX8_doAddDuck 61 = .ok (.bipush 29, 2) := by decide +kernel
theorem dX8_doAddDuck_63 : decode cX8_doAddDuck 63 = .ok (.iconst 5, 1) := by decide +kernel
theorem dX8_doAddDuck_64 : decode cX8_doAddDuck 64 = .ok (.iload 4, 2) := by decide +kernel
theorem dX8_doAddDuck_66 : decode cX8_doAddDuck 66 = .ok (.imul, 1) := by decide +kernel
theorem dX8_doAddDuck_67 : decode cX8_doAddDuck 67 = .ok (.iadd, 1) := by decide +kernel
theorem dX8_doAddDuck_68 : decode cX8_doAddDuck 68 = .ok (.istore 5, 2) := by decide +kernel
theorem dX8_doAddDuck_70 : decode cX8_doAddDuck 70 = .ok (.aload_n 0, 1) := by decide +kernel
theorem dX8_doAddDuck_71 : decode cX8_doAddDuck 71 = .ok (.getfield 9, 3) := by decide +kernel
theorem dX8_doAddDuck_74 : decode cX8_doAddDuck 74 = .ok (.iload 5, 2) := by decide +kernel
theorem dX8_doAddDuck_76 : decode cX8_doAddDuck 76 = .ok (.iload_n 1, 1) := by decide +kernel
theorem dX8_doAddDuck_77 : decode cX8_doAddDuck 77 = .ok (.iastore, 1) := by decide +kernel
theorem dX8_doAddDuck_78 : decode cX8_doAddDuck 78 = .ok (.aload_n 0, 1) := by decide +kernel
theorem dX8_doAddDuck_79 : decode cX8_doAddDuck 79 = .ok (.getfield 9, 3) := by decide +kernel
theorem dX8_doAddDuck_82 : decode cX8_doAddDuck 82 = .ok (.iload 5, 2) := by decide +kernel
theorem dX8_doAddDuck_84 : decode cX8_doAddDuck 84 = .ok (.iconst 1, 1) := by decide +kernel
theorem dX8_doAddDuck_85 : decode cX8_doAddDuck 85 = .ok (.iadd, 1) := by decide +kernel
theorem dX8_doAddDuck_86 : decode cX8_doAddDuck 86 = .ok (.iload_n 2, 1) := by decide +kernel
theorem dX8_doAddDuck_87 : decode cX8_doAddDuck 87 = .ok (.iastore, 1) := by decide +kernel
theorem dX8_doAddDuck_88 : decode cX8_doAddDuck 88 = .ok (.aload_n 0, 1) := by decide +kernel
theorem dX8_doAddDuck_89 : decode cX8_doAddDuck 89 = .ok (.getfield 9, 3) := by decide +kernel
theorem dX8_doAddDuck_92 : decode cX8_doAddDuck 92 = .ok (.iload 5, 2) := by decide +kernel
theorem dX8_doAddDuck_94 : decode cX8_doAddDuck 94 = .ok (.iconst 2, 1) := by decide +kernel
theorem dX8_doAddDuck_95 : decode cX8_doAddDuck 95 = .ok (.iadd, 1) := by decide +kernel
theorem dX8_doAddDuck_96 : decode cX8_doAddDuck 96 = .ok (.iload_n 3, 1) := by decide +kernel
theorem dX8_doAddDuck_97 : decode cX8_doAddDuck 97 = .ok (.iastore, 1) := by decide +kernel
theorem dX8_doAddDuck_98 : decode cX8_doAddDuck 98 = .ok (.aload_n 0, 1) := by decide +kernel
theorem dX8_doAddDuck_99 : decode cX8_doAddDuck 99 = .ok (.getfield 9, 3) := by decide +kernel
theorem dX8_doAddDuck_102 : decode cX8_doAddDuck 102 = .ok (.iload 5, 2) := by decide +kernel
theorem dX8_doAddDuck_104 : decode cX8_doAddDuck 104 = .ok (.iconst 3, 1) := by decide +kernel
theorem dX8_doAddDuck_105 : decode cX8_doAddDuck 105 = .ok (.iadd, 1) := by decide +kernel
theorem dX8_doAddDuck_106 : decode cX8_doAddDuck 106 = .ok (.iconst 0, 1) := by decide +kernel
theorem dX8_doAddDuck_107 : decode cX8_doAddDuck 107 = .ok (.iastore, 1) := by decide +kernel
theorem dX8_doAddDuck_108 : decode cX8_doAddDuck 108 = .ok (.aload_n 0, 1) := by decide +kernel
theorem dX8_doAddDuck_109 : decode cX8_doAddDuck 109 = .ok (.getfield 9, 3) := by decide +kernel
theorem dX8_doAddDuck_112 : decode cX8_doAddDuck 112 = .ok (.iload 5, 2) := by decide +kernel
theorem dX8_doAddDuck_114 : decode cX8_doAddDuck 114 = .ok (.iconst 4, 1) := by decide +kernel
theorem dX8_doAddDuck_115 : decode cX8_doAddDuck 115 = .ok (.iadd, 1) := by decide +kernel
theorem dX8_doAddDuck_116 : decode cX8_doAddDuck 116 = .ok (.aload_n 0, 1) := by decide +kernel
theorem dX8_doAddDuck_117 : decode cX8_doAddDuck 117 = .ok (.iload 4, 2) := by decide +kernel
theorem dX8_doAddDuck_119 : decode cX8_doAddDuck 119 = .ok (.invokevirtual 73, 3) := by decide +kernel
theorem dX8_doAddDuck_122 : decode cX8_doAddDuck 122 = .ok (.ifCond .eq 7, 3) := by decide +kernel
theorem dX8_doAddDuck_125 : decode cX8_doAddDuck 125 = .ok (.iconst 1, 1) := by decide +kernel
theorem dX8_doAddDuck_126 : decode cX8_doAddDuck 126 = .ok (.goto 4, 3) := by decide +kernel
theorem dX8_doAddDuck_129 : decode cX8_doAddDuck 129 = .ok (.iconst 0, 1) := by decide +kernel
theorem dX8_doAddDuck_130 : decode cX8_doAddDuck 130 = .ok (.iastore, 1) := by decide +kernel
theorem dX8_doAddDuck_131 : decode cX8_doAddDuck 131 = .ok (.aload_n 0, 1) := by decide +kernel
theorem dX8_doAddDuck_132 : decode cX8_doAddDuck 132 = .ok (.getfield 9, 3) := by decide +kernel
theorem dX8_doAddDuck_135 : decode cX8_doAddDuck 135 = .ok (.iconst 1, 1) := by decide +kernel
theorem dX8_doAddDuck_136 : decode cX8_doAddDuck 136 = .ok (.dup2, 1) := by decide +kernel
theorem dX8_doAddDuck_137 : decode cX8_doAddDuck 137 = .ok (.iaload, 1) := by decide +kernel
theorem dX8_doAddDuck_138 : decode cX8_doAddDuck 138 = .ok (.iconst 1, 1) := by decide +kernel
theorem dX8_doAddDuck_139 : decode cX8_doAddDuck 139 = .ok (.iadd, 1) := by decide +kernel
theorem dX8_doAddDuck_140 : decode cX8_doAddDuck 140 = .ok (.iastore, 1) := by decide +kernel
theorem dX8_doAddDuck_141 : decode cX8_doAddDuck 141 = .ok (.iload 4, 2) := by decide +kernel
theorem dX8_doAddDuck_143 : decode cX8_doAddDuck 143 = .ok (.ireturn, 1) := by decide +kernel
set_option maxRecDepth 20000 in
theorem ggX8_addDuck_X8_keep : GoodIn wsX8_addDuck wsX8_keep := goodIn_r _ [5, 6, 7, 8, 9, 10, 11, 12, 54, 55, 56, 57, 58, 59, 60, 61, 62, 63, 64, 65, 66, 67, 68, 69, 70, 71] (by decide +kernel) (by decide +kernel)
set_option maxRecDepth 20000 in
theorem gX8_addDuck_X8_keep : GoodIn wsX8_addDuck (wsV RX8 88 RX8 yX8_keep wsX8_keep) := goodIn_app (goodIn_of _ (by decide +kernel)) ggX8_addDuck_X8_keep
set_option maxRecDepth 20000 in
theorem ggX8_addDuck_X8_doAddDuck : GoodIn wsX8_addDuck wsX8_doAddDuck := goodIn_ca (goodIn_ca (goodIn_r _ [16, 7, 17, 18, 19, 4, 20, 21, 22, 23, 24, 25, 26, 27, 6, 28, 29, 30, 31, 32, 33, 34, 35, 36, 37, 38, 39, 40, 41, 42, 43, 44, 45, 46, 47, 54, 55, 56, 57, 58, 59, 60, 61, 62, 63, 64, 65, 66, 67, 68, 69, 70, 71] (by decide +kernel) (by decide +kernel)) (goodIn_sub (fun _ h => List.mem_cons_of_mem _ (List.mem_append_left _ (List.mem_append_right _ h))) (by decide +kernel))) (goodIn_sub (fun _ h => List.mem_cons_of_mem _ (List.mem_append_right _ h)) (by decide +kernel))
set_option maxRecDepth 20000 in
theorem gX8_addDuck_X8_doAddDuck : GoodIn wsX8_addDuck (wsV RX8 122 RX8 yX8_doAddDuck wsX8_doAddDuck) := goodIn_app (goodIn_of _ (by decide +kernel)) ggX8_addDuck_X8_doAddDuck
set_option maxRecDepth 20000 in
theorem ggX8_addDuck_X8_ends : GoodIn wsX8_addDuck wsX8_ends := goodIn_r _ [51, 6, 8, 7, 9, 10, 11, 12, 52, 53, 54, 55, 56, 57, 58, 59, 60, 61, 62, 63, 64, 65, 66, 67, 68, 69, 70, 71] (by decide +kernel) (by decide +kernel)
set_option maxRecDepth 20000 in
theorem gX8_addDuck_X8_ends : GoodIn wsX8_addDuck (wsV RX8 95 RX8 yX8_ends wsX8_ends) := goodIn_app (goodIn_of _ (by decide +kernel)) ggX8_addDuck_X8_ends
theorem dX8_addDuck_0 : decode cX8_addDuck 0 = .ok (.aload_n 0, 1) := by decide +kernel
theorem dX8_addDuck_1 : decode cX8_addDuck 1 = .ok (.invokevirtual 88, 3) := by decide +kernel
theorem dX8_addDuck_4 : decode cX8_addDuck 4 = .ok (.aload_n 0, 1) := by decide +kernel
theorem dX8_addDuck_5 : decode cX8_addDuck 5 = .ok (.aload_n 0, 1) := by decide +kernel
theorem dX8_addDuck_6 : decode cX8_addDuck 6 = .ok (.iload_n 1, 1) := by decide +kernel
theorem dX8_addDuck_7 : decode cX8_addDuck 7 = .ok (.iload_n 2, 1) := by decide +kernel
theorem dX8_addDuck_8 : decode cX8_addDuck 8 = .ok (.iload_n 3, 1) := by decide +kernel
theorem dX8_addDuck_9 : decode cX8_addDuck 9 = .ok (.invokevirtual 122, 3) := by decide +kernel
theorem dX8_addDuck_12 : decode cX8_addDuck 12 = .ok (.invokevirtual 95, 3) := by decide +kernel
theorem dX8_addDuck_15 : decode cX8_addDuck 15 = .ok (.ireturn, 1) := by decide +kernel
set_option maxRecDepth 20000 in
theorem ggX8_members_X8_of : GoodIn wsX8_members wsX8_of := goodIn_ca (goodIn_r _ [6, 1, 7, 8, 9, 10, 11, 12, 13, 14, 15, 16, 17, 18, 19, 20, 21, 22, 23, 24] (by decide +kernel) (by decide +kernel)) (goodIn_sub (fun _ h => List.mem_cons_of_mem _ (List.mem_append_right _ h)) (by decide +kernel))
set_option maxRecDepth 20000 in
theorem gX8_members_X8_of : GoodIn wsX8_members (wsV RX8 58 RX8 yX8_of wsX8_of) := goodIn_app (goodIn_of _ (by decide +kernel)) ggX8_members_X8_of
theorem dX8_members_0 : decode cX8_members 0 = .ok (.iconst 0, 1) := by decide +kernel
theorem dX8_members_1 : decode cX8_members 1 = .ok (.istore_n 1, 1) := by decide +kernel
theorem dX8_members_2 : decode cX8_members 2 = .ok (.iconst 0, 1) := by decide +kernel
theorem dX8_members_3 : decode cX8_members 3 = .ok (.istore_n 2, 1) := by decide +kernel
theorem dX8_members_4 : decode cX8_members 4 = .ok (.iload_n 2, 1) := by decide +kernel
theorem dX8_members_5 : decode cX8_members 5 = .ok (.aload_n 0, 1) := by decide +kernel
theorem dX8_members_6 : decode cX8_members 6 = .ok (.getfield 9, 3) := by decide +kernel
theorem dX8_members_9 : decode cX8_members 9 = .ok (.iconst 0, 1) := by decide +kernel
theorem dX8_members_10 : decode cX8_members 10 = .ok (.iaload, 1) := by decide +kernel
theorem dX8_members_11 : decode cX8_members 11 = .ok (.if_icmp .ge 18, 3) := by decide +kernel
theorem dX8_members_14 : decode cX8_members 14 = .ok (.iload_n 1, 1) := by decide +kernel
theorem dX8_members_15 : decode cX8_members 15 = .ok (.aload_n 0, 1) := by decide +kernel
theorem dX8_members_16 : decode cX8_members 16 = .ok (.iload_n 2, 1) := by decide +kernel
theorem dX8_members_17 : decode cX8_members 17 = .ok (.iconst 3, 1) := by decide +kernel
theorem dX8_members_18 : decode cX8_members 18 = .ok (.invokevirtual 58, 3) := by decide +kernel
theorem dX8_members_21 : decode cX8_members 21 = .ok (.iadd, 1) := by decide +kernel
theorem dX8_members_22 : decode cX8_members 22 = .ok (.istore_n 1, 1) := by decide +kernel
theorem dX8_members_23 : decode cX8_members 23 = .ok (.iinc 2 1, 3) := by decide +kernel
theorem dX8_members_26 : decode cX8_members 26 = .ok (.goto (-22), 3) := by decide +kernel
theorem dX8_members_29 : decode cX8_members 29 = .ok (.iload_n 1, 1) := by decide +kernel
theorem dX8_members_30 : decode cX8_members 30 = .ok (.ireturn, 1) := by decide +kernel
set_option maxRecDepth 20000 in
theorem ggX8_doJoin_X8_isBath : GoodIn wsX8_doJoin wsX8_isBath := goodIn_ca (goodIn_r _ [5, 6, 7, 8, 4, 9, 47, 48, 49, 50, 51, 52, 53, 54, 55, 56, 57, 58, 59, 60, 61, 62, 63, 64] (by decide +kernel) (by decide +kernel)) (goodIn_sub (fun _ h => List.mem_cons_of_mem _ (List.mem_append_left _ (List.mem_append_right _ h))) (by decide +kernel))
set_option maxRecDepth 20000 in
theorem gX8_doJoin_X8_isBath : GoodIn wsX8_doJoin (wsV RX8 98 RX8 yX8_isBath wsX8_isBath) := goodIn_app (goodIn_of _ (by decide +kernel)) ggX8_doJoin_X8_isBath
set_option maxRecDepth 20000 in
theorem ggX8_doJoin_X8_fails : GoodIn wsX8_doJoin wsX8_fails := goodIn_r _ [13, 14, 47, 48, 49, 50, 51, 52, 53, 54, 55, 56, 57, 58, 59, 60, 61, 62, 63, 64] (by decide +kernel) (by decide +kernel)
set_option maxRecDepth 20000 in
theorem gX8_doJoin_X8_fails : GoodIn wsX8_doJoin (wsV RX8 81 RX8 yX8_fails wsX8_fails) := goodIn_app (goodIn_of _ (by decide +kernel)) ggX8_doJoin_X8_fails
set_option maxRecDepth 20000 in
theorem ggX8_doJoin_X8_of : GoodIn wsX8_doJoin wsX8_of := goodIn_ca (goodIn_r _ [18, 6, 47, 48, 49, 50, 51, 52, 53, 54, 55, 56, 57, 58, 59, 60, 61, 62, 63, 64] (by decide +kernel) (by decide +kernel)) (goodIn_sub (fun _ h => List.mem_cons_of_mem _ (List.mem_append_left _ (List.mem_append_right _ h))) (by decide +kernel))
set_option maxRecDepth 20000 in
theorem gX8_doJoin_X8_of : GoodIn wsX8_doJoin (wsV RX8 58 RX8 yX8_of wsX8_of) := goodIn_app (goodIn_of _ (by decide +kernel)) ggX8_doJoin_X8_of
set_option maxRecDepth 20000 in
theorem ggX8_doJoin_X8_isWet : GoodIn wsX8_doJoin wsX8_isWet := goodIn_ca (goodIn_r _ [22, 15, 16, 17, 4, 18, 6, 47, 48, 49, 50, 51, 52, 53, 54, 55, 56, 57, 58, 59, 60, 61, 62, 63, 64] (by decide +kernel) (by decide +kernel)) (goodIn_sub (fun _ h => List.mem_cons_of_mem _ (List.mem_append_left _ (List.mem_append_right _ h))) (by decide +kernel))
set_option maxRecDepth 20000 in
theorem gX8_doJoin_X8_isWet : GoodIn wsX8_doJoin (wsV RX8 65 RX8 yX8_isWet wsX8_isWet) := goodIn_app (goodIn_of _ (by decide +kernel)) ggX8_doJoin_X8_isWet
set_option maxRecDepth 20000 in
theorem ggX8_doJoin_X8_degrees : GoodIn wsX8_doJoin wsX8_degrees := goodIn_ca (goodIn_ca (goodIn_r _ [26, 15, 16, 17, 4, 18, 6, 47, 48, 49, 50, 51, 52, 53, 54, 55, 56, 57, 58, 59, 60, 61, 62, 63, 64] (by decide +kernel) (by decide +kernel)) (goodIn_sub (fun _ h => List.mem_cons_of_mem _ (List.mem_append_right _ h)) (by decide +kernel))) (goodIn_sub (fun _ h => List.mem_cons_of_mem _ (List.mem_append_left _ (List.mem_append_right _ h))) (by decide +kernel))
set_option maxRecDepth 20000 in
theorem gX8_doJoin_X8_degrees : GoodIn wsX8_doJoin (wsV RX8 69 RX8 yX8_degrees wsX8_degrees) := goodIn_app (goodIn_of _ (by decide +kernel)) ggX8_doJoin_X8_degrees
set_option maxRecDepth 20000 in
theorem ggX8_doJoin_X8_in : GoodIn wsX8_doJoin wsX8_in := goodIn_r _ [9] (by decide +kernel) (by decide +kernel)
set_option maxRecDepth 20000 in
theorem gX8_doJoin_X8_in : GoodIn wsX8_doJoin (va_wsS RX8 54 yX8_in wsX8_in) := goodIn_app (goodIn_of _ (by decide +kernel)) ggX8_doJoin_X8_in
set_option maxRecDepth 20000 in
theorem ggX8_doJoin_X8_sets : GoodIn wsX8_doJoin wsX8_sets := goodIn_ca (goodIn_r _ [30, 6, 47, 48, 49, 50, 51, 52, 53, 54, 55, 56, 57, 58, 59, 60, 61, 62, 63, 64] (by decide +kernel) (by decide +kernel)) (goodIn_sub (fun _ h => List.mem_cons_of_mem _ (List.mem_append_left _ (List.mem_append_right _ h))) (by decide +kernel))
set_option maxRecDepth 20000 in
theorem gX8_doJoin_X8_sets : GoodIn wsX8_doJoin (wsV RX8 84 RX8 yX8_sets wsX8_sets) := goodIn_app (goodIn_of _ (by decide +kernel)) ggX8_doJoin_X8_sets
set_option maxRecDepth 20000 in
theorem ggX8_doJoin_X8_happens : GoodIn wsX8_doJoin wsX8_happens := goodIn_ca (goodIn_r _ [34, 6, 35, 36, 37, 38, 39, 40, 41, 42, 47, 48, 49, 50, 51, 52, 53, 54, 55, 56, 57, 58, 59, 60, 61, 62, 63, 64] (by decide +kernel) (by decide +kernel)) (goodIn_sub (fun _ h => List.mem_cons_of_mem _ (List.mem_append_left _ (List.mem_append_right _ h))) (by decide +kernel))
set_option maxRecDepth 20000 in
theorem gX8_doJoin_X8_happens : GoodIn wsX8_doJoin (wsV RX8 104 RX8 yX8_happens wsX8_happens) := goodIn_app (goodIn_of _ (by decide +kernel)) ggX8_doJoin_X8_happens
set_option maxRecDepth 20000 in
theorem ggX8_doJoin_X8_members : GoodIn wsX8_doJoin wsX8_members := goodIn_ca (goodIn_r _ [46, 6, 15, 16, 17, 4, 18, 47, 48, 49, 50, 51, 52, 53, 54, 55, 56, 57, 58, 59, 60, 61, 62, 63, 64] (by decide +kernel) (by decide +kernel)) (goodIn_sub (fun _ h => List.mem_cons_of_mem _ (List.mem_append_left _ (List.mem_append_right _ h))) (by decide +kernel))
set_option maxRecDepth 20000 in
theorem gX8_doJoin_X8_members : GoodIn wsX8_doJoin (wsV RX8 125 RX8 yX8_members wsX8_members) := goodIn_app (goodIn_of _ (by decide +kernel)) ggX8_doJoin_X8_members
theorem dX8_doJoin_0 : decode cX8_doJoin 0 = .ok (.aload_n 0, 1) := by decide +kernel
theorem dX8_doJoin_1 : decode cX8_doJoin 1 = .ok (.iload_n 1, 1) := by decide +kernel
theorem dX8_doJoin_2 : decode cX8_doJoin 2 = .ok (.invokevirtual 98, 3) := by decide +kernel
theorem dX8_doJoin_5 : decode cX8_doJoin 5 = .ok (.ifCond .ne 9, 3) := by decide +kernel
theorem dX8_doJoin_8 : decode cX8_doJoin 8 = .ok (.aload_n 0, 1) := by decide +kernel
theorem dX8_doJoin_9 : decode cX8_doJoin 9 = .ok (.iconst 1, 1) := by decide +kernel
theorem dX8_doJoin_10 : decode cX8_doJoin 10 = .ok (.invokevirtual 81, 3) := by decide +kernel
theorem dX8_doJoin_13 : decode cX8_doJoin 13 = .ok (.ireturn, 1) := by decide +kernel
theorem dX8_doJoin_14 : decode cX8_doJoin 14 = .ok (.aload_n 0, 1) := by decide +kernel
theorem dX8_doJoin_15 : decode cX8_doJoin 15 = .ok (.iload_n 1, 1) := by decide +kernel
theorem dX8_doJoin_16 : decode cX8_doJoin 16 = .ok (.iconst 3, 1) := by decide +kernel
theorem dX8_doJoin_17 : decode cX8_doJoin 17 = .ok (.invokevirtual 58, 3) := by decide +kernel
theorem dX8_doJoin_20 : decode cX8_doJoin 20 = .ok (.iconst 1, 1) := by decide +kernel
theorem dX8_doJoin_21 : decode cX8_doJoin 21 = .ok (.if_icmp .ne 9, 3) := by decide +kernel
theorem dX8_doJoin_24 : decode cX8_doJoin 24 = .ok (.aload_n 0, 1) := by decide +kernel
theorem dX8_doJoin_25 : decode cX8_doJoin 25 = .ok (.iconst 2, 1) := by decide +kernel
theorem dX8_doJoin_26 : decode cX8_doJoin 26 = .ok (.invokevirtual 81, 3) := by decide +kernel
theorem dX8_doJoin_29 : decode cX8_doJoin 29 = .ok (.ireturn, 1) := by decide +kernel
theorem dX8_doJoin_30 : decode cX8_doJoin 30 = .ok (.aload_n 0, 1) := by decide +kernel
theorem dX8_doJoin_31 : decode cX8_doJoin 31 = .ok (.iload_n 1, 1) := by decide +kernel
theorem dX8_doJoin_32 : decode cX8_doJoin 32 = .ok (.invokevirtual 65, 3) := by decide +kernel
theorem dX8_doJoin_35 : decode cX8_doJoin 35 = .ok (.ifCond .eq 18, 3) := by decide +kernel
theorem dX8_doJoin_38 : decode cX8_doJoin 38 = .ok (.aload_n 0, 1) := by decide +kernel
theorem dX8_doJoin_39 : decode cX8_doJoin 39 = .ok (.iload_n 1, 1) := by decide +kernel
theorem dX8_doJoin_40 : decode cX8_doJoin 40 = .ok (.invokevirtual 69, 3) := by decide +kernel
theorem dX8_doJoin_43 : decode cX8_doJoin 43 = .ok (.bipush 30, 2) := by decide +kernel
theorem dX8_doJoin_45 : decode cX8_doJoin 45 = .ok (.bipush 45, 2) := by decide +kernel
theorem dX8_doJoin_47 : decode cX8_doJoin 47 = .ok (.invokestatic 54, 3) := by decide +kernel
theorem dX8_doJoin_50 : decode cX8_doJoin 50 = .ok (.ifCond .ne 9, 3) := by decide +kernel
theorem dX8_doJoin_53 : decode cX8_doJoin 53 = .ok (.aload_n 0, 1) := by decide +kernel
theorem dX8_doJoin_54 : decode cX8_doJoin 54 = .ok (.iconst 3, 1) := by decide +kernel
theorem dX8_doJoin_55 : decode cX8_doJoin 55 = .ok (.invokevirtual 81, 3) := by decide +kernel
theorem dX8_doJoin_58 : decode cX8_doJoin 58 = .ok (.ireturn, 1) := by decide +kernel
theorem dX8_doJoin_59 : decode cX8_doJoin 59 = .ok (.aload_n 0, 1) := by decide +kernel
theorem dX8_doJoin_60 : decode cX8_doJoin 60 = .ok (.iload_n 1, 1) := by decide +kernel
theorem dX8_doJoin_61 : decode cX8_doJoin 61 = .ok (.iconst 3, 1) := by decide +kernel
theorem dX8_doJoin_62 : decode cX8_doJoin 62 = .ok (.iconst 1, 1) := by decide +kernel
theorem dX8_doJoin_63 : decode cX8_doJoin 63 = .ok (.invokevirtual 84, 3) := by decide +kernel
theorem dX8_doJoin_66 : decode cX8_doJoin 66 = .ok (.aload_n 0, 1) := by decide +kernel
theorem dX8_doJoin_67 : decode cX8_doJoin 67 = .ok (.bipush 106, 2) := by decide +kernel
theorem dX8_doJoin_69 : decode cX8_doJoin 69 = .ok (.iload_n 1, 1) := by decide +kernel
theorem dX8_doJoin_70 : decode cX8_doJoin 70 = .ok (.iconst 0, 1) := by decide +kernel
theorem dX8_doJoin_71 : decode cX8_doJoin 71 = .ok (.invokevirtual 104, 3) := by decide +kernel
theorem dX8_doJoin_74 : decode cX8_doJoin 74 = .ok (.aload_n 0, 1) := by decide +kernel
theorem dX8_doJoin_75 : decode cX8_doJoin 75 = .ok (.invokevirtual 125, 3) := by decide +kernel
theorem dX8_doJoin_78 : decode cX8_doJoin 78 = .ok (.ireturn, 1) := by decide +kernel
set_option maxRecDepth 20000 in
theorem ggX8_join_X8_keep : GoodIn wsX8_join wsX8_keep := goodIn_r _ [5, 6, 7, 8, 9, 10, 11, 12, 62, 63, 64, 65, 66, 67, 68, 69, 70, 71, 72, 73, 74, 75, 76, 77, 78, 79] (by decide +kernel) (by decide +kernel)
set_option maxRecDepth 20000 in
theorem gX8_join_X8_keep : GoodIn wsX8_join (wsV RX8 88 RX8 yX8_keep wsX8_keep) := goodIn_app (goodIn_of _ (by decide +kernel)) ggX8_join_X8_keep
set_option maxRecDepth 20000 in
theorem ggX8_join_X8_doJoin : GoodIn wsX8_join wsX8_doJoin := goodIn_ca (goodIn_ca (goodIn_r _ [16, 17, 18, 19, 4, 20, 7, 21, 22, 23, 24, 25, 26, 27, 6, 28, 29, 30, 31, 32, 33, 34, 35, 36, 37, 38, 39, 40, 41, 42, 43, 44, 45, 46, 47, 9, 10, 11, 12, 48, 49, 50, 51, 52, 53, 54, 55, 62, 63, 64, 65, 66, 67, 68, 69, 70, 71, 72, 73, 74, 75, 76, 77, 78, 79] (by decide +kernel) (by decide +kernel)) (goodIn_sub (fun _ h => List.mem_cons_of_mem _ (List.mem_append_left _ (List.mem_append_right _ h))) (by decide +kernel))) (goodIn_sub (fun _ h => List.mem_cons_of_mem _ (List.mem_append_right _ h)) (by decide +kernel))
set_option maxRecDepth 20000 in
theorem gX8_join_X8_doJoin : GoodIn wsX8_join (wsV RX8 128 RX8 yX8_doJoin wsX8_doJoin) := goodIn_app (goodIn_of _ (by decide +kernel)) ggX8_join_X8_doJoin
set_option maxRecDepth 20000 in
theorem ggX8_join_X8_ends : GoodIn wsX8_join wsX8_ends := goodIn_r _ [59, 6, 8, 7, 9, 10, 11, 12, 60, 61, 62, 63, 64, 65, 66, 67, 68, 69, 70, 71, 72, 73, 74, 75, 76, 77, 78, 79] (by decide +kernel) (by decide +kernel)
set_option maxRecDepth 20000 in
theorem gX8_join_X8_ends : GoodIn wsX8_join (wsV RX8 95 RX8 yX8_ends wsX8_ends) := goodIn_app (goodIn_of _ (by decide +kernel)) ggX8_join_X8_ends
theorem dX8_join_0 : decode cX8_join 0 = .ok (.aload_n 0, 1) := by decide +kernel
theorem dX8_join_1 : decode cX8_join 1 = .ok (.invokevirtual 88, 3) := by decide +kernel
theorem dX8_join_4 : decode cX8_join 4 = .ok (.aload_n 0, 1) := by decide +kernel
theorem dX8_join_5 : decode cX8_join 5 = .ok (.aload_n 0, 1) := by decide +kernel
theorem dX8_join_6 : decode cX8_join 6 = .ok (.iload_n 1, 1) := by decide +kernel
theorem dX8_join_7 : decode cX8_join 7 = .ok (.invokevirtual 128, 3) := by decide +kernel
theorem dX8_join_10 : decode cX8_join 10 = .ok (.invokevirtual 95, 3) := by decide +kernel
theorem dX8_join_13 : decode cX8_join 13 = .ok (.ireturn, 1) := by decide +kernel
set_option maxRecDepth 20000 in
theorem ggX8_doLeave_X8_isBath : GoodIn wsX8_doLeave wsX8_isBath := goodIn_ca (goodIn_r _ [5, 6, 7, 8, 4, 9, 39, 40, 41, 42, 43, 44, 45, 46, 47, 48, 49, 50, 51, 52, 53, 54, 55, 56] (by decide +kernel) (by decide +kernel)) (goodIn_sub (fun _ h => List.mem_cons_of_mem _ (List.mem_append_right _ h)) (by decide +kernel))
set_option maxRecDepth 20000 in
theorem gX8_doLeave_X8_isBath : GoodIn wsX8_doLeave (wsV RX8 98 RX8 yX8_isBath wsX8_isBath) := goodIn_app (goodIn_of _ (by decide +kernel)) ggX8_doLeave_X8_isBath
set_option maxRecDepth 20000 in
theorem ggX8_doLeave_X8_fails : GoodIn wsX8_doLeave wsX8_fails := goodIn_r _ [13, 14, 39, 40, 41, 42, 43, 44, 45, 46, 47, 48, 49, 50, 51, 52, 53, 54, 55, 56] (by decide +kernel) (by decide +kernel)
set_option maxRecDepth 20000 in
theorem gX8_doLeave_X8_fails : GoodIn wsX8_doLeave (wsV RX8 81 RX8 yX8_fails wsX8_fails) := goodIn_app (goodIn_of _ (by decide +kernel)) ggX8_doLeave_X8_fails
set_option maxRecDepth 20000 in
theorem ggX8_doLeave_X8_of : GoodIn wsX8_doLeave wsX8_of := goodIn_ca (goodIn_r _ [18, 6, 39, 40, 41, 42, 43, 44, 45, 46, 47, 48, 49, 50, 51, 52, 53, 54, 55, 56] (by decide +kernel) (by decide +kernel)) (goodIn_sub (fun _ h => List.mem_cons_of_mem _ (List.mem_append_right _ h)) (by decide +kernel))
set_option maxRecDepth 20000 in
theorem gX8_doLeave_X8_of : GoodIn wsX8_doLeave (wsV RX8 58 RX8 yX8_of wsX8_of) := goodIn_app (goodIn_of _ (by decide +kernel)) ggX8_doLeave_X8_of
set_option maxRecDepth 20000 in
theorem ggX8_doLeave_X8_sets : GoodIn wsX8_doLeave wsX8_sets := goodIn_ca (goodIn_r _ [22, 6, 39, 40, 41, 42, 43, 44, 45, 46, 47, 48, 49, 50, 51, 52, 53, 54, 55, 56] (by decide +kernel) (by decide +kernel)) (goodIn_sub (fun _ h => List.mem_cons_of_mem _ (List.mem_append_right _ h)) (by decide +kernel))
set_option maxRecDepth 20000 in
theorem gX8_doLeave_X8_sets : GoodIn wsX8_doLeave (wsV RX8 84 RX8 yX8_sets wsX8_sets) := goodIn_app (goodIn_of _ (by decide +kernel)) ggX8_doLeave_X8_sets
set_option maxRecDepth 20000 in
theorem ggX8_doLeave_X8_happens : GoodIn wsX8_doLeave wsX8_happens := goodIn_ca (goodIn_r _ [26, 6, 27, 28, 29, 30, 31, 32, 33, 34, 39, 40, 41, 42, 43, 44, 45, 46, 47, 48, 49, 50, 51, 52, 53, 54, 55, 56] (by decide +kernel) (by decide +kernel)) (goodIn_sub (fun _ h => List.mem_cons_of_mem _ (List.mem_append_right _ h)) (by decide +kernel))
set_option maxRecDepth 20000 in
theorem gX8_doLeave_X8_happens : GoodIn wsX8_doLeave (wsV RX8 104 RX8 yX8_happens wsX8_happens) := goodIn_app (goodIn_of _ (by decide +kernel)) ggX8_doLeave_X8_happens
set_option maxRecDepth 20000 in
theorem ggX8_doLeave_X8_members : GoodIn wsX8_doLeave wsX8_members := goodIn_ca (goodIn_r _ [38, 6, 15, 16, 17, 4, 18, 39, 40, 41, 42, 43, 44, 45, 46, 47, 48, 49, 50, 51, 52, 53, 54, 55, 56] (by decide +kernel) (by decide +kernel)) (goodIn_sub (fun _ h => List.mem_cons_of_mem _ (List.mem_append_right _ h)) (by decide +kernel))
set_option maxRecDepth 20000 in
theorem gX8_doLeave_X8_members : GoodIn wsX8_doLeave (wsV RX8 125 RX8 yX8_members wsX8_members) := goodIn_app (goodIn_of _ (by decide +kernel)) ggX8_doLeave_X8_members
theorem dX8_doLeave_0 : decode cX8_doLeave 0 = .ok (.aload_n 0, 1) := by decide +kernel
theorem dX8_doLeave_1 : decode cX8_doLeave 1 = .ok (.iload_n 1, 1) := by decide +kernel
theorem dX8_doLeave_2 : decode cX8_doLeave 2 = .ok (.invokevirtual 98, 3) := by decide +kernel
theorem dX8_doLeave_5 : decode cX8_doLeave 5 = .ok (.ifCond .ne 9, 3) := by decide +kernel
theorem dX8_doLeave_8 : decode cX8_doLeave 8 = .ok (.aload_n 0, 1) := by decide +kernel
theorem dX8_doLeave_9 : decode cX8_doLeave 9 = .ok (.iconst 1, 1) := by decide +kernel
theorem dX8_doLeave_10 : decode cX8_doLeave 10 = .ok (.invokevirtual 81, 3) := by decide +kernel
theorem dX8_doLeave_13 : decode cX8_doLeave 13 = .ok (.ireturn, 1) := by decide +kernel
theorem dX8_doLeave_14 : decode cX8_doLeave 14 = .ok (.aload_n 0, 1) := by decide +kernel
theorem dX8_doLeave_15 : decode cX8_doLeave 15 = .ok (.iload_n 1, 1) := by decide +kernel
theorem dX8_doLeave_16 : decode cX8_doLeave 16 = .ok (.iconst 3, 1) := by decide +kernel
theorem dX8_doLeave_17 : decode cX8_doLeave 17 = .ok (.invokevirtual 58, 3) := by decide +kernel
theorem dX8_doLeave_20 : decode cX8_doLeave 20 = .ok (.ifCond .ne 9, 3) := by decide +kernel
theorem dX8_doLeave_23 : decode cX8_doLeave 23 = .ok (.aload_n 0, 1) := by decide +kernel
theorem dX8_doLeave_24 : decode cX8_doLeave 24 = .ok (.iconst 2, 1) := by decide +kernel
theorem dX8_doLeave_25 : decode cX8_doLeave 25 = .ok (.invokevirtual 81, 3) := by decide +kernel
theorem dX8_doLeave_28 : decode cX8_doLeave 28 = .ok (.ireturn, 1) := by decide +kernel
theorem dX8_doLeave_29 : decode cX8_doLeave 29 = .ok (.aload_n 0, 1) := by decide +kernel
theorem dX8_doLeave_30 : decode cX8_doLeave 30 = .ok (.iload_n 1, 1) := by decide +kernel
theorem dX8_doLeave_31 : decode cX8_doLeave 31 = .ok (.iconst 3, 1) := by decide +kernel
theorem dX8_doLeave_32 : decode cX8_doLeave 32 = .ok (.iconst 0, 1) := by decide +kernel
theorem dX8_doLeave_33 : decode cX8_doLeave 33 = .ok (.invokevirtual 84, 3) := by decide +kernel
theorem dX8_doLeave_36 : decode cX8_doLeave 36 = .ok (.aload_n 0, 1) := by decide +kernel
theorem dX8_doLeave_37 : decode cX8_doLeave 37 = .ok (.bipush 108, 2) := by decide +kernel
theorem dX8_doLeave_39 : decode cX8_doLeave 39 = .ok (.iload_n 1, 1) := by decide +kernel
theorem dX8_doLeave_40 : decode cX8_doLeave 40 = .ok (.iconst 0, 1) := by decide +kernel
theorem dX8_doLeave_41 : decode cX8_doLeave 41 = .ok (.invokevirtual 104, 3) := by decide +kernel
theorem dX8_doLeave_44 : decode cX8_doLeave 44 = .ok (.aload_n 0, 1) := by decide +kernel
theorem dX8_doLeave_45 : decode cX8_doLeave 45 = .ok (.invokevirtual 125, 3) := by decide +kernel
theorem dX8_doLeave_48 : decode cX8_doLeave 48 = .ok (.ireturn, 1) := by decide +kernel
set_option maxRecDepth 20000 in
theorem ggX8_leave_X8_keep : GoodIn wsX8_leave wsX8_keep := goodIn_r _ [5, 6, 7, 8, 9, 10, 11, 12, 54, 55, 56, 57, 58, 59, 60, 61, 62, 63, 64, 65, 66, 67, 68, 69, 70, 71] (by decide +kernel) (by decide +kernel)
set_option maxRecDepth 20000 in
theorem gX8_leave_X8_keep : GoodIn wsX8_leave (wsV RX8 88 RX8 yX8_keep wsX8_keep) := goodIn_app (goodIn_of _ (by decide +kernel)) ggX8_leave_X8_keep
set_option maxRecDepth 20000 in
theorem ggX8_leave_X8_doLeave : GoodIn wsX8_leave wsX8_doLeave := goodIn_ca (goodIn_r _ [16, 17, 18, 19, 4, 20, 7, 21, 22, 23, 24, 25, 26, 27, 6, 28, 29, 30, 31, 32, 33, 34, 35, 36, 37, 38, 39, 9, 10, 11, 12, 40, 41, 42, 43, 44, 45, 46, 47, 54, 55, 56, 57, 58, 59, 60, 61, 62, 63, 64, 65, 66, 67, 68, 69, 70, 71] (by decide +kernel) (by decide +kernel)) (goodIn_sub (fun _ h => List.mem_cons_of_mem _ (List.mem_append_right _ h)) (by decide +kernel))
set_option maxRecDepth 20000 in
theorem gX8_leave_X8_doLeave : GoodIn wsX8_leave (wsV RX8 131 RX8 yX8_doLeave wsX8_doLeave) := goodIn_app (goodIn_of _ (by decide +kernel)) ggX8_leave_X8_doLeave
set_option maxRecDepth 20000 in
theorem ggX8_leave_X8_ends : GoodIn wsX8_leave wsX8_ends := goodIn_r _ [51, 6, 8, 7, 9, 10, 11, 12, 52, 53, 54, 55, 56, 57, 58, 59, 60, 61, 62, 63, 64, 65, 66, 67, 68, 69, 70, 71] (by decide +kernel) (by decide +kernel)
set_option maxRecDepth 20000 in
theorem gX8_leave_X8_ends : GoodIn wsX8_leave (wsV RX8 95 RX8 yX8_ends wsX8_ends) := goodIn_app (goodIn_of _ (by decide +kernel)) ggX8_leave_X8_ends
theorem dX8_leave_0 : decode cX8_leave 0 = .ok (.aload_n 0, 1) := by decide +kernel
theorem dX8_leave_1 : decode cX8_leave 1 = .ok (.invokevirtual 88, 3) := by decide +kernel
theorem dX8_leave_4 : decode cX8_leave 4 = .ok (.aload_n 0, 1) := by decide +kernel
theorem dX8_leave_5 : decode cX8_leave 5 = .ok (.aload_n 0, 1) := by decide +kernel
theorem dX8_leave_6 : decode cX8_leave 6 = .ok (.iload_n 1, 1) := by decide +kernel
theorem dX8_leave_7 : decode cX8_leave 7 = .ok (.invokevirtual 131, 3) := by decide +kernel
theorem dX8_leave_10 : decode cX8_leave 10 = .ok (.invokevirtual 95, 3) := by decide +kernel
theorem dX8_leave_13 : decode cX8_leave 13 = .ok (.ireturn, 1) := by decide +kernel
set_option maxRecDepth 20000 in
theorem ggX8_loses_X8_of : GoodIn wsX8_loses wsX8_of := goodIn_ca (goodIn_r _ [6, 1, 11, 12, 13, 14, 15, 16, 17, 18, 19, 20, 21, 22, 23, 24, 25, 26, 27, 28] (by decide +kernel) (by decide +kernel)) (goodIn_sub (fun _ h => List.mem_cons_of_mem _ (List.mem_append_right _ h)) (by decide +kernel))
set_option maxRecDepth 20000 in
theorem gX8_loses_X8_of : GoodIn wsX8_loses (wsV RX8 58 RX8 yX8_of wsX8_of) := goodIn_app (goodIn_of _ (by decide +kernel)) ggX8_loses_X8_of
set_option maxRecDepth 20000 in
theorem ggX8_loses_X8_sets : GoodIn wsX8_loses wsX8_sets := goodIn_ca (goodIn_r _ [10, 1, 11, 12, 13, 14, 15, 16, 17, 18, 19, 20, 21, 22, 23, 24, 25, 26, 27, 28] (by decide +kernel) (by decide +kernel)) (goodIn_sub (fun _ h => List.mem_cons_of_mem _ (List.mem_append_right _ h)) (by decide +kernel))
set_option maxRecDepth 20000 in
theorem gX8_loses_X8_sets : GoodIn wsX8_loses (wsV RX8 84 RX8 yX8_sets wsX8_sets) := goodIn_app (goodIn_of _ (by decide +kernel)) ggX8_loses_X8_sets
theorem dX8_loses_0 : decode cX8_loses 0 = .ok (.aload_n 0, 1) := by decide +kernel
theorem dX8_loses_1 : decode cX8_loses 1 = .ok (.iload_n 1, 1) := by decide +kernel
theorem dX8_loses_2 : decode cX8_loses 2 = .ok (.iconst 1, 1) := by decide +kernel
theorem dX8_loses_3 : decode cX8_loses 3 = .ok (.aload_n 0, 1) := by decide +kernel
theorem dX8_loses_4 : decode cX8_loses 4 = .ok (.iload_n 1, 1) := by decide +kernel
theorem dX8_loses_5 : decode cX8_loses 5 = .ok (.iconst 1, 1) := by decide +kernel
theorem dX8_loses_6 : decode cX8_loses 6 = .ok (.invokevirtual 58, 3) := by decide +kernel
theorem dX8_loses_9 : decode cX8_loses 9 = .ok (.iload_n 2, 1) := by decide +kernel
theorem dX8_loses_10 : decode cX8_loses 10 = .ok (.isub, 1) := by decide +kernel
theorem dX8_loses_11 : decode cX8_loses 11 = .ok (.invokevirtual 84, 3) := by decide +kernel
theorem dX8_loses_14 : decode cX8_loses 14 = .ok (.aload_n 0, 1) := by decide +kernel
theorem dX8_loses_15 : decode cX8_loses 15 = .ok (.getfield 9, 3) := by decide +kernel
theorem dX8_loses_18 : decode cX8_loses 18 = .ok (.bipush 8, 2) := by decide +kernel
theorem dX8_loses_20 : decode cX8_loses 20 = .ok (.dup2, 1) := by decide +kernel
theorem dX8_loses_21 : decode cX8_loses 21 = .ok (.iaload, 1) := by decide +kernel
theorem dX8_loses_22 : decode cX8_loses 22 = .ok (.iload_n 2, 1) := by decide +kernel
theorem dX8_loses_23 : decode cX8_loses 23 = .ok (.iadd, 1) := by decide +kernel
theorem dX8_loses_24 : decode cX8_loses 24 = .ok (.iastore, 1) := by decide +kernel
theorem dX8_loses_25 : decode cX8_loses 25 = .ok (.return_, 1) := by decide +kernel
set_option maxRecDepth 20000 in
theorem ggX8_extreme_X8_of : GoodIn wsX8_extreme wsX8_of := goodIn_ca (goodIn_r _ [6, 1, 15, 16, 17, 18, 19, 20, 21, 22, 23, 24, 25, 26, 27, 28, 29, 30, 31, 32] (by decide +kernel) (by decide +kernel)) (goodIn_sub (fun _ h => List.mem_cons_of_mem _ (List.mem_append_right _ h)) (by decide +kernel))
set_option maxRecDepth 20000 in
theorem gX8_extreme_X8_of : GoodIn wsX8_extreme (wsV RX8 58 RX8 yX8_of wsX8_of) := goodIn_app (goodIn_of _ (by decide +kernel)) ggX8_extreme_X8_of
set_option maxRecDepth 20000 in
theorem ggX8_extreme_X8_isWet : GoodIn wsX8_extreme wsX8_isWet := goodIn_ca (goodIn_r _ [10, 2, 3, 4, 5, 6, 1, 15, 16, 17, 18, 19, 20, 21, 22, 23, 24, 25, 26, 27, 28, 29, 30, 31, 32] (by decide +kernel) (by decide +kernel)) (goodIn_sub (fun _ h => List.mem_cons_of_mem _ (List.mem_append_right _ h)) (by decide +kernel))
set_option maxRecDepth 20000 in
theorem gX8_extreme_X8_isWet : GoodIn wsX8_extreme (wsV RX8 65 RX8 yX8_isWet wsX8_isWet) := goodIn_app (goodIn_of _ (by decide +kernel)) ggX8_extreme_X8_isWet
set_option maxRecDepth 20000 in
theorem ggX8_extreme_X8_warmer : GoodIn wsX8_extreme wsX8_warmer := goodIn_ca (goodIn_r _ [14, 2, 3, 4, 5, 6, 1, 15, 16, 17, 18, 19, 20, 21, 22, 23, 24, 25, 26, 27, 28, 29, 30, 31, 32] (by decide +kernel) (by decide +kernel)) (goodIn_sub (fun _ h => List.mem_cons_of_mem _ (List.mem_append_right _ h)) (by decide +kernel))
set_option maxRecDepth 20000 in
theorem gX8_extreme_X8_warmer : GoodIn wsX8_extreme (wsV RX8 134 RX8 yX8_warmer wsX8_warmer) := goodIn_app (goodIn_of _ (by decide +kernel)) ggX8_extreme_X8_warmer
theorem dX8_extreme_0 : decode cX8_extreme 0 = .ok (.iconst (-1), 1) := by decide +kernel
theorem dX8_extreme_1 : decode cX8_extreme 1 = .ok (.istore_n 2, 1) := by decide +kernel
theorem dX8_extreme_2 : decode cX8_extreme 2 = .ok (.iconst 0, 1) := by decide +kernel
theorem dX8_extreme_3 : decode cX8_extreme 3 = .ok (.istore_n 3, 1) := by decide +kernel
theorem dX8_extreme_4 : decode cX8_extreme 4 = .ok (.iload_n 3, 1) := by decide +kernel
theorem dX8_extreme_5 : decode cX8_extreme 5 = .ok (.aload_n 0, 1) := by decide +kernel
theorem dX8_extreme_6 : decode cX8_extreme 6 = .ok (.getfield 9, 3) := by decide +kernel
theorem dX8_extreme_9 : decode cX8_extreme 9 = .ok (.iconst 0, 1) := by decide +kernel
theorem dX8_extreme_10 : decode cX8_extreme 10 = .ok (.iaload, 1) := by decide +kernel
theorem dX8_extreme_11 : decode cX8_extreme 11 = .ok (.if_icmp .ge 60, 3) := by decide +kernel
theorem dX8_extreme_14 : decode cX8_extreme 14 = .ok (.aload_n 0, 1) := by decide +kernel
theorem dX8_extreme_15 : decode cX8_extreme 15 = .ok (.iload_n 3, 1) := by decide +kernel
theorem dX8_extreme_16 : decode cX8_extreme 16 = .ok (.iconst 3, 1) := by decide +kernel
theorem dX8_extreme_17 : decode cX8_extreme 17 = .ok (.invokevirtual 58, 3) := by decide +kernel
theorem dX8_extreme_20 : decode cX8_extreme 20 = .ok (.iconst 1, 1) := by decide +kernel
theorem dX8_extreme_21 : decode cX8_extreme 21 = .ok (.if_icmp .ne 15, 3) := by decide +kernel
theorem dX8_extreme_24 : decode cX8_extreme 24 = .ok (.aload_n 0, 1) := by decide +kernel
theorem dX8_extreme_25 : decode cX8_extreme 25 = .ok (.iload_n 3, 1) := by decide +kernel
theorem dX8_extreme_26 : decode cX8_extreme 26 = .ok (.invokevirtual 65, 3) := by decide +kernel
theorem dX8_extreme_29 : decode cX8_extreme 29 = .ok (.ifCond .eq 7, 3) := by decide +kernel
theorem dX8_extreme_32 : decode cX8_extreme 32 = .ok (.iconst 1, 1) := by decide +kernel
theorem dX8_extreme_33 : decode cX8_extreme 33 = .ok (.goto 4, 3) := by decide +kernel
theorem dX8_extreme_36 : decode cX8_extreme 36 = .ok (.iconst 0, 1) := by decide +kernel
theorem dX8_extreme_37 : decode cX8_extreme 37 = .ok (.istore 4, 2) := by decide +kernel
theorem dX8_extreme_39 : decode cX8_extreme 39 = .ok (.iload 4, 2) := by decide +kernel
theorem dX8_extreme_41 : decode cX8_extreme 41 = .ok (.ifCond .eq 22, 3) := by decide +kernel
theorem dX8_extreme_44 : decode cX8_extreme 44 = .ok (.iload_n 2, 1) := by decide +kernel
theorem dX8_extreme_45 : decode cX8_extreme 45 = .ok (.ifCond .lt 14, 3) := by decide +kernel
theorem dX8_extreme_48 : decode cX8_extreme 48 = .ok (.iload_n 1, 1) := by decide +kernel
theorem dX8_extreme_49 : decode cX8_extreme 49 = .ok (.aload_n 0, 1) := by decide +kernel
theorem dX8_extreme_50 : decode cX8_extreme 50 = .ok (.iload_n 3, 1) := by decide +kernel
theorem dX8_extreme_51 : decode cX8_extreme 51 = .ok (.iload_n 2, 1) := by decide +kernel
theorem dX8_extreme_52 : decode cX8_extreme 52 = .ok (.invokevirtual 134, 3) := by decide +kernel
theorem dX8_extreme_55 : decode cX8_extreme 55 = .ok (.imul, 1) := by decide +kernel
theorem dX8_extreme_56 : decode cX8_extreme 56 = .ok (.ifCond .le 7, 3) := by decide +kernel
theorem dX8_extreme_59 : decode cX8_extreme 59 = .ok (.iload_n 3, 1) := by decide +kernel
theorem dX8_extreme_60 : decode cX8_extreme 60 = .ok (.goto 4, 3) := by decide +kernel
theorem dX8_extreme_63 : decode cX8_extreme 63 = .ok (.iload_n 2, 1) := by decide +kernel
theorem dX8_extreme_64 : decode cX8_extreme 64 = .ok (.istore_n 2, 1) := by decide +kernel
theorem dX8_extreme_65 : decode cX8_extreme 65 = .ok (.iinc 3 1, 3) := by decide +kernel
theorem dX8_extreme_68 : decode cX8_extreme 68 = .ok (.goto (-64), 3) := by decide +kernel
theorem dX8_extreme_71 : decode cX8_extreme 71 = .ok (.iload_n 2, 1) := by decide +kernel
theorem dX8_extreme_72 : decode cX8_extreme 72 = .ok (.ireturn, 1) := by decide +kernel
set_option maxRecDepth 20000 in
theorem ggX8_wetMembers_X8_of : GoodIn wsX8_wetMembers wsX8_of := goodIn_ca (goodIn_r _ [6, 1, 11, 12, 13, 14, 15, 16, 17, 18, 19, 20, 21, 22, 23, 24, 25, 26, 27, 28] (by decide +kernel) (by decide +kernel)) (goodIn_sub (fun _ h => List.mem_cons_of_mem _ (List.mem_append_right _ h)) (by decide +kernel))
set_option maxRecDepth 20000 in
theorem gX8_wetMembers_X8_of : GoodIn wsX8_wetMembers (wsV RX8 58 RX8 yX8_of wsX8_of) := goodIn_app (goodIn_of _ (by decide +kernel)) ggX8_wetMembers_X8_of
set_option maxRecDepth 20000 in
theorem ggX8_wetMembers_X8_isWet : GoodIn wsX8_wetMembers wsX8_isWet := goodIn_ca (goodIn_r _ [10, 2, 3, 4, 5, 6, 1, 11, 12, 13, 14, 15, 16, 17, 18, 19, 20, 21, 22, 23, 24, 25, 26, 27, 28] (by decide +kernel) (by decide +kernel)) (goodIn_sub (fun _ h => List.mem_cons_of_mem _ (List.mem_append_right _ h)) (by decide +kernel))
set_option maxRecDepth 20000 in
theorem gX8_wetMembers_X8_isWet : GoodIn wsX8_wetMembers (wsV RX8 65 RX8 yX8_isWet wsX8_isWet) := goodIn_app (goodIn_of _ (by decide +kernel)) ggX8_wetMembers_X8_isWet
theorem dX8_wetMembers_0 : decode cX8_wetMembers 0 = .ok (.iconst 0, 1) := by decide +kernel
theorem dX8_wetMembers_1 : decode cX8_wetMembers 1 = .ok (.istore_n 1, 1) := by decide +kernel
theorem dX8_wetMembers_2 : decode cX8_wetMembers 2 = .ok (.iconst 0, 1) := by decide +kernel
theorem dX8_wetMembers_3 : decode cX8_wetMembers 3 = .ok (.istore_n 2, 1) := by decide +kernel
theorem dX8_wetMembers_4 : decode cX8_wetMembers 4 = .ok (.iload_n 2, 1) := by decide +kernel
theorem dX8_wetMembers_5 : decode cX8_wetMembers 5 = .ok (.aload_n 0, 1) := by decide +kernel
theorem dX8_wetMembers_6 : decode cX8_wetMembers 6 = .ok (.getfield 9, 3) := by decide +kernel
theorem dX8_wetMembers_9 : decode cX8_wetMembers 9 = .ok (.iconst 0, 1) := by decide +kernel
theorem dX8_wetMembers_10 : decode cX8_wetMembers 10 = .ok (.iaload, 1) := by decide +kernel
theorem dX8_wetMembers_11 : decode cX8_wetMembers 11 = .ok (.if_icmp .ge 35, 3) := by decide +kernel
theorem dX8_wetMembers_14 : decode cX8_wetMembers 14 = .ok (.iload_n 1, 1) := by decide +kernel
theorem dX8_wetMembers_15 : decode cX8_wetMembers 15 = .ok (.aload_n 0, 1) := by decide +kernel
theorem dX8_wetMembers_16 : decode cX8_wetMembers 16 = .ok (.iload_n 2, 1) := by decide +kernel
theorem dX8_wetMembers_17 : decode cX8_wetMembers 17 = .ok (.iconst 3, 1) := by decide +kernel
theorem dX8_wetMembers_18 : decode cX8_wetMembers 18 = .ok (.invokevirtual 58, 3) := by decide +kernel
theorem dX8_wetMembers_21 : decode cX8_wetMembers 21 = .ok (.iconst 1, 1) := by decide +kernel
theorem dX8_wetMembers_22 : decode cX8_wetMembers 22 = .ok (.if_icmp .ne 15, 3) := by decide +kernel
theorem dX8_wetMembers_25 : decode cX8_wetMembers 25 = .ok (.aload_n 0, 1) := by decide +kernel
theorem dX8_wetMembers_26 : decode cX8_wetMembers 26 = .ok (.iload_n 2, 1) := by decide +kernel
theorem dX8_wetMembers_27 : decode cX8_wetMembers 27 = .ok (.invokevirtual 65, 3) := by decide +kernel
theorem dX8_wetMembers_30 : decode cX8_wetMembers 30 = .ok (.ifCond .eq 7, 3) := by decide +kernel
theorem dX8_wetMembers_33 : decode cX8_wetMembers 33 = .ok (.iconst 1, 1) := by decide +kernel
theorem dX8_wetMembers_34 : decode cX8_wetMembers 34 = .ok (.goto 4, 3) := by decide +kernel
theorem dX8_wetMembers_37 : decode cX8_wetMembers 37 = .ok (.iconst 0, 1) := by decide +kernel
theorem dX8_wetMembers_38 : decode cX8_wetMembers 38 = .ok (.iadd, 1) := by decide +kernel
theorem dX8_wetMembers_39 : decode cX8_wetMembers 39 = .ok (.istore_n 1, 1) := by decide +kernel
theorem dX8_wetMembers_40 : decode cX8_wetMembers 40 = .ok (.iinc 2 1, 3) := by decide +kernel
theorem dX8_wetMembers_43 : decode cX8_wetMembers 43 = .ok (.goto (-39), 3) := by decide +kernel
theorem dX8_wetMembers_46 : decode cX8_wetMembers 46 = .ok (.iload_n 1, 1) := by decide +kernel
theorem dX8_wetMembers_47 : decode cX8_wetMembers 47 = .ok (.ireturn, 1) := by decide +kernel
set_option maxRecDepth 20000 in
theorem ggX8_shared_X8_extreme : GoodIn wsX8_shared wsX8_extreme := goodIn_ca (goodIn_r _ [9, 10, 11, 12, 13, 8, 14, 15, 16, 17, 18, 19, 20, 21, 22, 23, 24, 25, 26, 27, 28, 29, 30, 31, 32, 33, 34, 35, 36, 37, 38, 39, 40] (by decide +kernel) (by decide +kernel)) (goodIn_sub (fun _ h => List.mem_cons_of_mem _ (List.mem_append_right _ h)) (by decide +kernel))
set_option maxRecDepth 20000 in
theorem gX8_shared_X8_extreme : GoodIn wsX8_shared (wsV RX8 137 RX8 yX8_extreme wsX8_extreme) := goodIn_app (goodIn_of _ (by decide +kernel)) ggX8_shared_X8_extreme
set_option maxRecDepth 20000 in
theorem ggX8_shared_X8_warmer : GoodIn wsX8_shared wsX8_warmer := goodIn_ca (goodIn_r _ [22, 11, 12, 13, 8, 14, 10, 23, 24, 25, 26, 27, 28, 29, 30, 31, 32, 33, 34, 35, 36, 37, 38, 39, 40] (by decide +kernel) (by decide +kernel)) (goodIn_sub (fun _ h => List.mem_cons_of_mem _ (List.mem_append_right _ h)) (by decide +kernel))
set_option maxRecDepth 20000 in
theorem gX8_shared_X8_warmer : GoodIn wsX8_shared (wsV RX8 134 RX8 yX8_warmer wsX8_warmer) := goodIn_app (goodIn_of _ (by decide +kernel)) ggX8_shared_X8_warmer
set_option maxRecDepth 20000 in
theorem ggX8_shared_X8_of : GoodIn wsX8_shared wsX8_of := goodIn_ca (goodIn_r _ [14, 10, 23, 24, 25, 26, 27, 28, 29, 30, 31, 32, 33, 34, 35, 36, 37, 38, 39, 40] (by decide +kernel) (by decide +kernel)) (goodIn_sub (fun _ h => List.mem_cons_of_mem _ (List.mem_append_right _ h)) (by decide +kernel))
set_option maxRecDepth 20000 in
theorem gX8_shared_X8_of : GoodIn wsX8_shared (wsV RX8 58 RX8 yX8_of wsX8_of) := goodIn_app (goodIn_of _ (by decide +kernel)) ggX8_shared_X8_of
theorem dX8_shared_0 : decode cX8_shared 0 = .ok (.aload_n 0, 1) := by decide +kernel
theorem dX8_shared_1 : decode cX8_shared 1 = .ok (.iconst 1, 1) := by decide +kernel
theorem dX8_shared_2 : decode cX8_shared 2 = .ok (.invokevirtual 137, 3) := by decide +kernel
theorem dX8_shared_5 : decode cX8_shared 5 = .ok (.istore_n 1, 1) := by decide +kernel
theorem dX8_shared_6 : decode cX8_shared 6 = .ok (.aload_n 0, 1) := by decide +kernel
theorem dX8_shared_7 : decode cX8_shared 7 = .ok (.iconst (-1), 1) := by decide +kernel
theorem dX8_shared_8 : decode cX8_shared 8 = .ok (.invokevirtual 137, 3) := by decide +kernel
theorem dX8_shared_11 : decode cX8_shared 11 = .ok (.istore_n 2, 1) := by decide +kernel
theorem dX8_shared_12 : decode cX8_shared 12 = .ok (.bipush 20, 2) := by decide +kernel
theorem dX8_shared_14 : decode cX8_shared 14 = .ok (.aload_n 0, 1) := by decide +kernel
theorem dX8_shared_15 : decode cX8_shared 15 = .ok (.iload_n 1, 1) := by decide +kernel
theorem dX8_shared_16 : decode cX8_shared 16 = .ok (.iload_n 2, 1) := by decide +kernel
theorem dX8_shared_17 : decode cX8_shared 17 = .ok (.invokevirtual 134, 3) := by decide +kernel
theorem dX8_shared_20 : decode cX8_shared 20 = .ok (.aload_n 0, 1) := by decide +kernel
theorem dX8_shared_21 : decode cX8_shared 21 = .ok (.iload_n 1, 1) := by decide +kernel
theorem dX8_shared_22 : decode cX8_shared 22 = .ok (.iconst 0, 1) := by decide +kernel
theorem dX8_shared_23 : decode cX8_shared 23 = .ok (.invokevirtual 58, 3) := by decide +kernel
theorem dX8_shared_26 : decode cX8_shared 26 = .ok (.aload_n 0, 1) := by decide +kernel
theorem dX8_shared_27 : decode cX8_shared 27 = .ok (.iload_n 2, 1) := by decide +kernel
theorem dX8_shared_28 : decode cX8_shared 28 = .ok (.iconst 0, 1) := by decide +kernel
theorem dX8_shared_29 : decode cX8_shared 29 = .ok (.invokevirtual 58, 3) := by decide +kernel
theorem dX8_shared_32 : decode cX8_shared 32 = .ok (.iadd, 1) := by decide +kernel
theorem dX8_shared_33 : decode cX8_shared 33 = .ok (.idiv, 1) := by decide +kernel
theorem dX8_shared_34 : decode cX8_shared 34 = .ok (.invokestatic 76, 3) := by decide +kernel
theorem dX8_shared_37 : decode cX8_shared 37 = .ok (.ireturn, 1) := by decide +kernel
set_option maxRecDepth 20000 in
theorem ggX8_tick_X8_isWet : GoodIn wsX8_tick wsX8_isWet := goodIn_ca (goodIn_r _ [10, 11, 12, 13, 9, 14, 1, 66, 67, 68, 69, 70, 71, 72, 73, 74, 75, 76, 77, 78, 79, 80, 81, 82, 83] (by decide +kernel) (by decide +kernel)) (goodIn_sub (fun _ h => List.mem_cons_of_mem _ (List.mem_append_left _ (List.mem_append_right _ h))) (by decide +kernel))
set_option maxRecDepth 20000 in
theorem gX8_tick_X8_isWet : GoodIn wsX8_tick (wsV RX8 65 RX8 yX8_isWet wsX8_isWet) := goodIn_app (goodIn_of _ (by decide +kernel)) ggX8_tick_X8_isWet
set_option maxRecDepth 20000 in
theorem ggX8_tick_X8_of : GoodIn wsX8_tick wsX8_of := goodIn_ca (goodIn_r _ [14, 1, 66, 67, 68, 69, 70, 71, 72, 73, 74, 75, 76, 77, 78, 79, 80, 81, 82, 83] (by decide +kernel) (by decide +kernel)) (goodIn_sub (fun _ h => List.mem_cons_of_mem _ (List.mem_append_left _ (List.mem_append_right _ h))) (by decide +kernel))
set_option maxRecDepth 20000 in
theorem gX8_tick_X8_of : GoodIn wsX8_tick (wsV RX8 58 RX8 yX8_of wsX8_of) := goodIn_app (goodIn_of _ (by decide +kernel)) ggX8_tick_X8_of
set_option maxRecDepth 20000 in
theorem ggX8_tick_X8_loses : GoodIn wsX8_tick wsX8_loses := goodIn_ca (goodIn_r _ [18, 1, 11, 12, 13, 9, 14, 19, 20, 21, 22, 66, 67, 68, 69, 70, 71, 72, 73, 74, 75, 76, 77, 78, 79, 80, 81, 82, 83] (by decide +kernel) (by decide +kernel)) (goodIn_sub (fun _ h => List.mem_cons_of_mem _ (List.mem_append_left _ (List.mem_append_right _ h))) (by decide +kernel))
set_option maxRecDepth 20000 in
theorem gX8_tick_X8_loses : GoodIn wsX8_tick (wsV RX8 140 RX8 yX8_loses wsX8_loses) := goodIn_app (goodIn_of _ (by decide +kernel)) ggX8_tick_X8_loses
set_option maxRecDepth 20000 in
theorem ggX8_tick_X8_sets : GoodIn wsX8_tick wsX8_sets := goodIn_ca (goodIn_r _ [22, 1, 66, 67, 68, 69, 70, 71, 72, 73, 74, 75, 76, 77, 78, 79, 80, 81, 82, 83] (by decide +kernel) (by decide +kernel)) (goodIn_sub (fun _ h => List.mem_cons_of_mem _ (List.mem_append_left _ (List.mem_append_right _ h))) (by decide +kernel))
set_option maxRecDepth 20000 in
theorem gX8_tick_X8_sets : GoodIn wsX8_tick (wsV RX8 84 RX8 yX8_sets wsX8_sets) := goodIn_app (goodIn_of _ (by decide +kernel)) ggX8_tick_X8_sets
set_option maxRecDepth 20000 in
theorem ggX8_tick_X8_wetMembers : GoodIn wsX8_tick wsX8_wetMembers := goodIn_ca (goodIn_r _ [26, 1, 11, 12, 13, 9, 14, 6, 7, 8, 10, 66, 67, 68, 69, 70, 71, 72, 73, 74, 75, 76, 77, 78, 79, 80, 81, 82, 83] (by decide +kernel) (by decide +kernel)) (goodIn_sub (fun _ h => List.mem_cons_of_mem _ (List.mem_append_left _ (List.mem_append_right _ h))) (by decide +kernel))
set_option maxRecDepth 20000 in
theorem gX8_tick_X8_wetMembers : GoodIn wsX8_tick (wsV RX8 144 RX8 yX8_wetMembers wsX8_wetMembers) := goodIn_app (goodIn_of _ (by decide +kernel)) ggX8_tick_X8_wetMembers
set_option maxRecDepth 20000 in
theorem ggX8_tick_X8_extreme : GoodIn wsX8_tick wsX8_extreme := goodIn_ca (goodIn_r _ [30, 1, 11, 12, 13, 9, 14, 6, 7, 8, 10, 31, 32, 33, 34, 66, 67, 68, 69, 70, 71, 72, 73, 74, 75, 76, 77, 78, 79, 80, 81, 82, 83] (by decide +kernel) (by decide +kernel)) (goodIn_sub (fun _ h => List.mem_cons_of_mem _ (List.mem_append_left _ (List.mem_append_right _ h))) (by decide +kernel))
set_option maxRecDepth 20000 in
theorem gX8_tick_X8_extreme : GoodIn wsX8_tick (wsV RX8 137 RX8 yX8_extreme wsX8_extreme) := goodIn_app (goodIn_of _ (by decide +kernel)) ggX8_tick_X8_extreme
set_option maxRecDepth 20000 in
theorem ggX8_tick_X8_shared : GoodIn wsX8_tick wsX8_shared := goodIn_ca (goodIn_ca (goodIn_r _ [38, 2, 3, 4, 5, 27, 28, 29, 9, 30, 1, 11, 12, 13, 14, 6, 7, 8, 10, 31, 32, 33, 34, 66, 67, 68, 69, 70, 71, 72, 73, 74, 75, 76, 77, 78, 79, 80, 81, 82, 83] (by decide +kernel) (by decide +kernel)) (goodIn_sub (fun _ h => List.mem_cons_of_mem _ (List.mem_append_right _ h)) (by decide +kernel))) (goodIn_sub (fun _ h => List.mem_cons_of_mem _ (List.mem_append_left _ (List.mem_append_right _ h))) (by decide +kernel))
set_option maxRecDepth 20000 in
theorem gX8_tick_X8_shared : GoodIn wsX8_tick (wsV RX8 147 RX8 yX8_shared wsX8_shared) := goodIn_app (goodIn_of _ (by decide +kernel)) ggX8_tick_X8_shared
set_option maxRecDepth 20000 in
theorem ggX8_tick_X8_degrees : GoodIn wsX8_tick wsX8_degrees := goodIn_ca (goodIn_ca (goodIn_r _ [42, 11, 12, 13, 9, 14, 1, 66, 67, 68, 69, 70, 71, 72, 73, 74, 75, 76, 77, 78, 79, 80, 81, 82, 83] (by decide +kernel) (by decide +kernel)) (goodIn_sub (fun _ h => List.mem_cons_of_mem _ (List.mem_append_right _ h)) (by decide +kernel))) (goodIn_sub (fun _ h => List.mem_cons_of_mem _ (List.mem_append_left _ (List.mem_append_right _ h))) (by decide +kernel))
set_option maxRecDepth 20000 in
theorem gX8_tick_X8_degrees : GoodIn wsX8_tick (wsV RX8 69 RX8 yX8_degrees wsX8_degrees) := goodIn_app (goodIn_of _ (by decide +kernel)) ggX8_tick_X8_degrees
set_option maxRecDepth 20000 in
theorem ggX8_tick_X8_happens : GoodIn wsX8_tick wsX8_happens := goodIn_ca (goodIn_r _ [46, 1, 47, 48, 49, 50, 2, 3, 4, 5, 66, 67, 68, 69, 70, 71, 72, 73, 74, 75, 76, 77, 78, 79, 80, 81, 82, 83] (by decide +kernel) (by decide +kernel)) (goodIn_sub (fun _ h => List.mem_cons_of_mem _ (List.mem_append_left _ (List.mem_append_right _ h))) (by decide +kernel))
set_option maxRecDepth 20000 in
theorem gX8_tick_X8_happens : GoodIn wsX8_tick (wsV RX8 104 RX8 yX8_happens wsX8_happens) := goodIn_app (goodIn_of _ (by decide +kernel)) ggX8_tick_X8_happens
set_option maxRecDepth 20000 in
theorem ggX8_tick_X8_looks : GoodIn wsX8_tick wsX8_looks := goodIn_ca (goodIn_ca (goodIn_r _ [54, 1, 55, 56, 57, 9, 58, 59, 60, 61, 62, 6, 7, 8, 10, 11, 12, 13, 14, 39, 40, 41, 42, 63, 64, 65, 66, 67, 68, 69, 70, 71, 72, 73, 74, 75, 76, 77, 78, 79, 80, 81, 82, 83] (by decide +kernel) (by decide +kernel)) (goodIn_sub (fun _ h => List.mem_cons_of_mem _ (List.mem_append_left _ (List.mem_append_right _ h))) (by decide +kernel))) (goodIn_sub (fun _ h => List.mem_cons_of_mem _ (List.mem_append_right _ h)) (by decide +kernel))
set_option maxRecDepth 20000 in
theorem gX8_tick_X8_looks : GoodIn wsX8_tick (wsV RX8 108 RX8 yX8_looks wsX8_looks) := goodIn_app (goodIn_of _ (by decide +kernel)) ggX8_tick_X8_looks
theorem dX8_tick_0 : decode cX8_tick 0 = .ok (.iconst 0, 1) := by decide +kernel
theorem dX8_tick_1 : decode cX8_tick 1 = .ok (.istore_n 1, 1) := by decide +kernel
theorem dX8_tick_2 : decode cX8_tick 2 = .ok (.iload_n 1, 1) := by decide +kernel
theorem dX8_tick_3 : decode cX8_tick 3 = .ok (.aload_n 0, 1) := by decide +kernel
theorem dX8_tick_4 : decode cX8_tick 4 = .ok (.getfield 9, 3) := by decide +kernel
theorem dX8_tick_7 : decode cX8_tick 7 = .ok (.iconst 0, 1) := by decide +kernel
theorem dX8_tick_8 : decode cX8_tick 8 = .ok (.iaload, 1) := by decide +kernel
theorem dX8_tick_9 : decode cX8_tick 9 = .ok (.if_icmp .ge 41, 3) := by decide +kernel
theorem dX8_tick_12 : decode cX8_tick 12 = .ok (.aload_n 0, 1) := by decide +kernel
theorem dX8_tick_13 : decode cX8_tick 13 = .ok (.iload_n 1, 1) := by decide +kernel
theorem dX8_tick_14 : decode cX8_tick 14 = .ok (.invokevirtual 65, 3) := by decide +kernel
theorem dX8_tick_17 : decode cX8_tick 17 = .ok (.ifCond .eq 27, 3) := by decide +kernel
theorem dX8_tick_20 : decode cX8_tick 20 = .ok (.aload_n 0, 1) := by decide +kernel
theorem dX8_tick_21 : decode cX8_tick 21 = .ok (.iload_n 1, 1) := by decide +kernel
theorem dX8_tick_22 : decode cX8_tick 22 = .ok (.aload_n 0, 1) := by decide +kernel
theorem dX8_tick_23 : decode cX8_tick 23 = .ok (.iload_n 1, 1) := by decide +kernel
theorem dX8_tick_24 : decode cX8_tick 24 = .ok (.iconst 1, 1) := by decide +kernel
theorem dX8_tick_25 : decode cX8_tick 25 = .ok (.invokevirtual 58, 3) := by decide +kernel
theorem dX8_tick_28 : decode cX8_tick 28 = .ok (.bipush 20, 2) := by decide +kernel
theorem dX8_tick_30 : decode cX8_tick 30 = .ok (.aload_n 0, 1) := by decide +kernel
theorem dX8_tick_31 : decode cX8_tick 31 = .ok (.iload_n 1, 1) := by decide +kernel
theorem dX8_tick_32 : decode cX8_tick 32 = .ok (.iconst 0, 1) := by decide +kernel
theorem dX8_tick_33 : decode cX8_tick 33 = .ok (.invokevirtual 58, 3) := by decide +kernel
theorem dX8_tick_36 : decode cX8_tick 36 = .ok (.imul, 1) := by decide +kernel
theorem dX8_tick_37 : decode cX8_tick 37 = .ok (.isub, 1) := by decide +kernel
theorem dX8_tick_38 : decode cX8_tick 38 = .ok (.bipush 10, 2) := by decide +kernel
theorem dX8_tick_40 : decode cX8_tick 40 = .ok (.idiv, 1) := by decide +kernel
theorem dX8_tick_41 : decode cX8_tick 41 = .ok (.invokevirtual 140, 3) := by decide +kernel
theorem dX8_tick_44 : decode cX8_tick 44 = .ok (.iinc 1 1, 3) := by decide +kernel
theorem dX8_tick_47 : decode cX8_tick 47 = .ok (.goto (-45), 3) := by decide +kernel
theorem dX8_tick_50 : decode cX8_tick 50 = .ok (.iconst 0, 1) := by decide +kernel
theorem dX8_tick_51 : decode cX8_tick 51 = .ok (.istore_n 1, 1) := by decide +kernel
theorem dX8_tick_52 : decode cX8_tick 52 = .ok (.iload_n 1, 1) := by decide +kernel
theorem dX8_tick_53 : decode cX8_tick 53 = .ok (.aload_n 0, 1) := by decide +kernel
theorem dX8_tick_54 : decode cX8_tick 54 = .ok (.getfield 9, 3) := by decide +kernel
theorem dX8_tick_57 : decode cX8_tick 57 = .ok (.iconst 0, 1) := by decide +kernel
theorem dX8_tick_58 : decode cX8_tick 58 = .ok (.iaload, 1) := by decide +kernel
theorem dX8_tick_59 : decode cX8_tick 59 = .ok (.if_icmp .ge 83, 3) := by decide +kernel
theorem dX8_tick_62 : decode cX8_tick 62 = .ok (.aload_n 0, 1) := by decide +kernel
theorem dX8_tick_63 : decode cX8_tick 63 = .ok (.iload_n 1, 1) := by decide +kernel
theorem dX8_tick_64 : decode cX8_tick 64 = .ok (.invokevirtual 65, 3) := by decide +kernel
theorem dX8_tick_67 : decode cX8_tick 67 = .ok (.ifCond .eq 69, 3) := by decide +kernel
theorem dX8_tick_70 : decode cX8_tick 70 = .ok (.aload_n 0, 1) := by decide +kernel
theorem dX8_tick_71 : decode cX8_tick 71 = .ok (.iload_n 1, 1) := by decide +kernel
theorem dX8_tick_72 : decode cX8_tick 72 = .ok (.iconst 2, 1) := by decide +kernel
theorem dX8_tick_73 : decode cX8_tick 73 = .ok (.invokevirtual 58, 3) := by decide +kernel
theorem dX8_tick_76 : decode cX8_tick 76 = .ok (.iconst 1, 1) := by decide +kernel
theorem dX8_tick_77 : decode cX8_tick 77 = .ok (.if_icmp .ne 59, 3) := by decide +kernel
theorem dX8_tick_80 : decode cX8_tick 80 = .ok (.iconst 3, 1) := by decide +kernel
theorem dX8_tick_81 : decode cX8_tick 81 = .ok (.aload_n 0, 1) := by decide +kernel
theorem dX8_tick_82 : decode cX8_tick 82 = .ok (.iload_n 1, 1) := by decide +kernel
theorem dX8_tick_83 : decode cX8_tick 83 = .ok (.iconst 0, 1) := by decide +kernel
theorem dX8_tick_84 : decode cX8_tick 84 = .ok (.invokevirtual 58, 3) := by decide +kernel
theorem dX8_tick_87 : decode cX8_tick 87 = .ok (.invokestatic 76, 3) := by decide +kernel
theorem dX8_tick_90 : decode cX8_tick 90 = .ok (.istore_n 2, 1) := by decide +kernel
theorem dX8_tick_91 : decode cX8_tick 91 = .ok (.aload_n 0, 1) := by decide +kernel
theorem dX8_tick_92 : decode cX8_tick 92 = .ok (.iload_n 1, 1) := by decide +kernel
theorem dX8_tick_93 : decode cX8_tick 93 = .ok (.aload_n 0, 1) := by decide +kernel
theorem dX8_tick_94 : decode cX8_tick 94 = .ok (.iload_n 1, 1) := by decide +kernel
theorem dX8_tick_95 : decode cX8_tick 95 = .ok (.iconst 1, 1) := by decide +kernel
theorem dX8_tick_96 : decode cX8_tick 96 = .ok (.invokevirtual 58, 3) := by decide +kernel
theorem dX8_tick_99 : decode cX8_tick 99 = .ok (.iload_n 2, 1) := by decide +kernel
theorem dX8_tick_100 : decode cX8_tick 100 = .ok (.imul, 1) := by decide +kernel
theorem dX8_tick_101 : decode cX8_tick 101 = .ok (.aload_n 0, 1) := by decide +kernel
theorem dX8_tick_102 : decode cX8_tick 102 = .ok (.iload_n 1, 1) := by decide +kernel
theorem dX8_tick_103 : decode cX8_tick 103 = .ok (.iconst 0, 1) := by decide +kernel
theorem dX8_tick_104 : decode cX8_tick 104 = .ok (.invokevirtual 58, 3) := by decide +kernel
theorem dX8_tick_107 : decode cX8_tick 107 = .ok (.idiv, 1) := by decide +kernel
theorem dX8_tick_108 : decode cX8_tick 108 = .ok (.invokevirtual 140, 3) := by decide +kernel
theorem dX8_tick_111 : decode cX8_tick 111 = .ok (.aload_n 0, 1) := by decide +kernel
theorem dX8_tick_112 : decode cX8_tick 112 = .ok (.iload_n 1, 1) := by decide +kernel
theorem dX8_tick_113 : decode cX8_tick 113 = .ok (.iconst 0, 1) := by decide +kernel
theorem dX8_tick_114 : decode cX8_tick 114 = .ok (.aload_n 0, 1) := by decide +kernel
theorem dX8_tick_115 : decode cX8_tick 115 = .ok (.iload_n 1, 1) := by decide +kernel
theorem dX8_tick_116 : decode cX8_tick 116 = .ok (.iconst 0, 1) := by decide +kernel
theorem dX8_tick_117 : decode cX8_tick 117 = .ok (.invokevirtual 58, 3) := by decide +kernel
theorem dX8_tick_120 : decode cX8_tick 120 = .ok (.iload_n 2, 1) := by decide +kernel
theorem dX8_tick_121 : decode cX8_tick 121 = .ok (.isub, 1) := by decide +kernel
theorem dX8_tick_122 : decode cX8_tick 122 = .ok (.invokevirtual 84, 3) := by decide +kernel
theorem dX8_tick_125 : decode cX8_tick 125 = .ok (.aload_n 0, 1) := by decide +kernel
theorem dX8_tick_126 : decode cX8_tick 126 = .ok (.getfield 9, 3) := by decide +kernel
theorem dX8_tick_129 : decode cX8_tick 129 = .ok (.bipush 6, 2) := by decide +kernel
theorem dX8_tick_131 : decode cX8_tick 131 = .ok (.dup2, 1) := by decide +kernel
theorem dX8_tick_132 : decode cX8_tick 132 = .ok (.iaload, 1) := by decide +kernel
theorem dX8_tick_133 : decode cX8_tick 133 = .ok (.iload_n 2, 1) := by decide +kernel
theorem dX8_tick_134 : decode cX8_tick 134 = .ok (.iadd, 1) := by decide +kernel
theorem dX8_tick_135 : decode cX8_tick 135 = .ok (.iastore, 1) := by decide +kernel
theorem dX8_tick_136 : decode cX8_tick 136 = .ok (.iinc 1 1, 3) := by decide +kernel
theorem dX8_tick_139 : decode cX8_tick 139 = .ok (.goto (-87), 3) := by decide +kernel
theorem dX8_tick_142 : decode cX8_tick 142 = .ok (.aload_n 0, 1) := by decide +kernel
theorem dX8_tick_143 : decode cX8_tick 143 = .ok (.invokevirtual 144, 3) := by decide +kernel
theorem dX8_tick_146 : decode cX8_tick 146 = .ok (.iconst 1, 1) := by decide +kernel
theorem dX8_tick_147 : decode cX8_tick 147 = .ok (.if_icmp .le 48, 3) := by decide +kernel
theorem dX8_tick_150 : decode cX8_tick 150 = .ok (.aload_n 0, 1) := by decide +kernel
theorem dX8_tick_151 : decode cX8_tick 151 = .ok (.iconst 1, 1) := by decide +kernel
theorem dX8_tick_152 : decode cX8_tick 152 = .ok (.invokevirtual 137, 3) := by decide +kernel
theorem dX8_tick_155 : decode cX8_tick 155 = .ok (.istore_n 1, 1) := by decide +kernel
theorem dX8_tick_156 : decode cX8_tick 156 = .ok (.aload_n 0, 1) := by decide +kernel
theorem dX8_tick_157 : decode cX8_tick 157 = .ok (.iconst (-1), 1) := by decide +kernel
theorem dX8_tick_158 : decode cX8_tick 158 = .ok (.invokevirtual 137, 3) := by decide +kernel
theorem dX8_tick_161 : decode cX8_tick 161 = .ok (.istore_n 2, 1) := by decide +kernel
theorem dX8_tick_162 : decode cX8_tick 162 = .ok (.aload_n 0, 1) := by decide +kernel
theorem dX8_tick_163 : decode cX8_tick 163 = .ok (.invokevirtual 147, 3) := by decide +kernel
theorem dX8_tick_166 : decode cX8_tick 166 = .ok (.istore_n 3, 1) := by decide +kernel
theorem dX8_tick_167 : decode cX8_tick 167 = .ok (.aload_n 0, 1) := by decide +kernel
theorem dX8_tick_168 : decode cX8_tick 168 = .ok (.iload_n 1, 1) := by decide +kernel
theorem dX8_tick_169 : decode cX8_tick 169 = .ok (.iconst 1, 1) := by decide +kernel
theorem dX8_tick_170 : decode cX8_tick 170 = .ok (.aload_n 0, 1) := by decide +kernel
theorem dX8_tick_171 : decode cX8_tick 171 = .ok (.iload_n 1, 1) := by decide +kernel
theorem dX8_tick_172 : decode cX8_tick 172 = .ok (.iconst 1, 1) := by decide +kernel
theorem dX8_tick_173 : decode cX8_tick 173 = .ok (.invokevirtual 58, 3) := by decide +kernel
theorem dX8_tick_176 : decode cX8_tick 176 = .ok (.iload_n 3, 1) := by decide +kernel
theorem dX8_tick_177 : decode cX8_tick 177 = .ok (.isub, 1) := by decide +kernel
theorem dX8_tick_178 : decode cX8_tick 178 = .ok (.invokevirtual 84, 3) := by decide +kernel
theorem dX8_tick_181 : decode cX8_tick 181 = .ok (.aload_n 0, 1) := by decide +kernel
theorem dX8_tick_182 : decode cX8_tick 182 = .ok (.iload_n 2, 1) := by decide +kernel
theorem dX8_tick_183 : decode cX8_tick 183 = .ok (.iconst 1, 1) := by decide +kernel
theorem dX8_tick_184 : decode cX8_tick 184 = .ok (.aload_n 0, 1) := by decide +kernel
theorem dX8_tick_185 : decode cX8_tick 185 = .ok (.iload_n 2, 1) := by decide +kernel
theorem dX8_tick_186 : decode cX8_tick 186 = .ok (.iconst 1, 1) := by decide +kernel
theorem dX8_tick_187 : decode cX8_tick 187 = .ok (.invokevirtual 58, 3) := by decide +kernel
theorem dX8_tick_190 : decode cX8_tick 190 = .ok (.iload_n 3, 1) := by decide +kernel
theorem dX8_tick_191 : decode cX8_tick 191 = .ok (.iadd, 1) := by decide +kernel
theorem dX8_tick_192 : decode cX8_tick 192 = .ok (.invokevirtual 84, 3) := by decide +kernel
theorem dX8_tick_195 : decode cX8_tick 195 = .ok (.iconst 0, 1) := by decide +kernel
theorem dX8_tick_196 : decode cX8_tick 196 = .ok (.istore_n 1, 1) := by decide +kernel
theorem dX8_tick_197 : decode cX8_tick 197 = .ok (.iconst 0, 1) := by decide +kernel
theorem dX8_tick_198 : decode cX8_tick 198 = .ok (.istore_n 2, 1) := by decide +kernel
theorem dX8_tick_199 : decode cX8_tick 199 = .ok (.iload_n 2, 1) := by decide +kernel
theorem dX8_tick_200 : decode cX8_tick 200 = .ok (.aload_n 0, 1) := by decide +kernel
theorem dX8_tick_201 : decode cX8_tick 201 = .ok (.getfield 9, 3) := by decide +kernel
theorem dX8_tick_204 : decode cX8_tick 204 = .ok (.iconst 0, 1) := by decide +kernel
theorem dX8_tick_205 : decode cX8_tick 205 = .ok (.iaload, 1) := by decide +kernel
theorem dX8_tick_206 : decode cX8_tick 206 = .ok (.if_icmp .ge 55, 3) := by decide +kernel
theorem dX8_tick_209 : decode cX8_tick 209 = .ok (.aload_n 0, 1) := by decide +kernel
theorem dX8_tick_210 : decode cX8_tick 210 = .ok (.iload_n 2, 1) := by decide +kernel
theorem dX8_tick_211 : decode cX8_tick 211 = .ok (.iconst 3, 1) := by decide +kernel
theorem dX8_tick_212 : decode cX8_tick 212 = .ok (.invokevirtual 58, 3) := by decide +kernel
theorem dX8_tick_215 : decode cX8_tick 215 = .ok (.iconst 1, 1) := by decide +kernel
theorem dX8_tick_216 : decode cX8_tick 216 = .ok (.if_icmp .ne 39, 3) := by decide +kernel
theorem dX8_tick_219 : decode cX8_tick 219 = .ok (.aload_n 0, 1) := by decide +kernel
theorem dX8_tick_220 : decode cX8_tick 220 = .ok (.iload_n 2, 1) := by decide +kernel
theorem dX8_tick_221 : decode cX8_tick 221 = .ok (.invokevirtual 65, 3) := by decide +kernel
theorem dX8_tick_224 : decode cX8_tick 224 = .ok (.ifCond .eq 13, 3) := by decide +kernel
theorem dX8_tick_227 : decode cX8_tick 227 = .ok (.aload_n 0, 1) := by decide +kernel
theorem dX8_tick_228 : decode cX8_tick 228 = .ok (.iload_n 2, 1) := by decide +kernel
theorem dX8_tick_229 : decode cX8_tick 229 = .ok (.invokevirtual 69, 3) := by decide +kernel
theorem dX8_tick_232 : decode cX8_tick 232 = .ok (.bipush 25, 2) := by decide +kernel
theorem dX8_tick_234 : decode cX8_tick 234 = .ok (.if_icmp .ge 21, 3) := by decide +kernel
theorem dX8_tick_237 : decode cX8_tick 237 = .ok (.aload_n 0, 1) := by decide +kernel
theorem dX8_tick_238 : decode cX8_tick 238 = .ok (.iload_n 2, 1) := by decide +kernel
theorem dX8_tick_239 : decode cX8_tick 239 = .ok (.iconst 3, 1) := by decide +kernel
theorem dX8_tick_240 : decode cX8_tick 240 = .ok (.iconst 0, 1) := by decide +kernel
theorem dX8_tick_241 : decode cX8_tick 241 = .ok (.invokevirtual 84, 3) := by decide +kernel
theorem dX8_tick_244 : decode cX8_tick 244 = .ok (.aload_n 0, 1) := by decide +kernel
theorem dX8_tick_245 : decode cX8_tick 245 = .ok (.bipush 100, 2) := by decide +kernel
theorem dX8_tick_247 : decode cX8_tick 247 = .ok (.iload_n 2, 1) := by decide +kernel
theorem dX8_tick_248 : decode cX8_tick 248 = .ok (.iconst 0, 1) := by decide +kernel
theorem dX8_tick_249 : decode cX8_tick 249 = .ok (.invokevirtual 104, 3) := by decide +kernel
theorem dX8_tick_252 : decode cX8_tick 252 = .ok (.iinc 1 1, 3) := by decide +kernel
theorem dX8_tick_255 : decode cX8_tick 255 = .ok (.iinc 2 1, 3) := by decide +kernel
theorem dX8_tick_258 : decode cX8_tick 258 = .ok (.goto (-59), 3) := by decide +kernel
theorem dX8_tick_261 : decode cX8_tick 261 = .ok (.aload_n 0, 1) := by decide +kernel
theorem dX8_tick_262 : decode cX8_tick 262 = .ok (.getfield 9, 3) := by decide +kernel
theorem dX8_tick_265 : decode cX8_tick 265 = .ok (.iconst 4, 1) := by decide +kernel
theorem dX8_tick_266 : decode cX8_tick 266 = .ok (.dup2, 1) := by decide +kernel
theorem dX8_tick_267 : decode cX8_tick 267 = .ok (.iaload, 1) := by decide +kernel
theorem dX8_tick_268 : decode cX8_tick 268 = .ok (.iload_n 1, 1) := by decide +kernel
theorem dX8_tick_269 : decode cX8_tick 269 = .ok (.iadd, 1) := by decide +kernel
theorem dX8_tick_270 : decode cX8_tick 270 = .ok (.iastore, 1) := by decide +kernel
theorem dX8_tick_271 : decode cX8_tick 271 = .ok (.aload_n 0, 1) := by decide +kernel
theorem dX8_tick_272 : decode cX8_tick 272 = .ok (.getfield 9, 3) := by decide +kernel
theorem dX8_tick_275 : decode cX8_tick 275 = .ok (.iconst 3, 1) := by decide +kernel
theorem dX8_tick_276 : decode cX8_tick 276 = .ok (.dup2, 1) := by decide +kernel
theorem dX8_tick_277 : decode cX8_tick 277 = .ok (.iaload, 1) := by decide +kernel
theorem dX8_tick_278 : decode cX8_tick 278 = .ok (.iconst 1, 1) := by decide +kernel
theorem dX8_tick_279 : decode cX8_tick 279 = .ok (.iadd, 1) := by decide +kernel
theorem dX8_tick_280 : decode cX8_tick 280 = .ok (.iastore, 1) := by decide +kernel
theorem dX8_tick_281 : decode cX8_tick 281 = .ok (.aload_n 0, 1) := by decide +kernel
theorem dX8_tick_282 : decode cX8_tick 282 = .ok (.invokevirtual 108, 3) := by decide +kernel
theorem dX8_tick_285 : decode cX8_tick 285 = .ok (.iload_n 1, 1) := by decide +kernel
theorem dX8_tick_286 : decode cX8_tick 286 = .ok (.ireturn, 1) := by decide +kernel
set_option maxRecDepth 20000 in
theorem ggX8_doAdvance_X8_in : GoodIn wsX8_doAdvance wsX8_in := goodIn_r _ [4] (by decide +kernel) (by decide +kernel)
set_option maxRecDepth 20000 in
theorem gX8_doAdvance_X8_in : GoodIn wsX8_doAdvance (va_wsS RX8 54 yX8_in wsX8_in) := goodIn_app (goodIn_of _ (by decide +kernel)) ggX8_doAdvance_X8_in
set_option maxRecDepth 20000 in
theorem ggX8_doAdvance_X8_fails : GoodIn wsX8_doAdvance wsX8_fails := goodIn_r _ [8, 9, 75, 76, 77, 78, 79, 80, 81, 82, 83, 84, 85, 86, 87, 88, 89, 90, 91, 92] (by decide +kernel) (by decide +kernel)
set_option maxRecDepth 20000 in
theorem gX8_doAdvance_X8_fails : GoodIn wsX8_doAdvance (wsV RX8 81 RX8 yX8_fails wsX8_fails) := goodIn_app (goodIn_of _ (by decide +kernel)) ggX8_doAdvance_X8_fails
set_option maxRecDepth 20000 in
theorem ggX8_doAdvance_X8_tick : GoodIn wsX8_doAdvance wsX8_tick := goodIn_ca (goodIn_ca (goodIn_r _ [13, 14, 15, 16, 17, 18, 19, 20, 21, 3, 22, 23, 24, 25, 26, 27, 28, 29, 30, 31, 32, 33, 34, 35, 36, 37, 38, 39, 40, 41, 42, 43, 44, 45, 46, 47, 48, 49, 50, 51, 52, 53, 54, 55, 56, 57, 58, 59, 60, 61, 62, 63, 64, 65, 66, 67, 68, 69, 70, 71, 72, 73, 74, 1, 2, 4, 75, 76, 77, 78, 79, 80, 81, 82, 83, 84, 85, 86, 87, 88, 89, 90, 91, 92] (by decide +kernel) (by decide +kernel)) (goodIn_sub (fun _ h => List.mem_cons_of_mem _ (List.mem_append_left _ (List.mem_append_right _ h))) (by decide +kernel))) (goodIn_sub (fun _ h => List.mem_cons_of_mem _ (List.mem_append_right _ h)) (by decide +kernel))
set_option maxRecDepth 20000 in
theorem gX8_doAdvance_X8_tick : GoodIn wsX8_doAdvance (wsV RX8 150 RX8 yX8_tick wsX8_tick) := goodIn_app (goodIn_of _ (by decide +kernel)) ggX8_doAdvance_X8_tick
theorem dX8_doAdvance_0 : decode cX8_doAdvance 0 = .ok (.iload_n 1, 1) := by decide +kernel
theorem dX8_doAdvance_1 : decode cX8_doAdvance 1 = .ok (.iconst 1, 1) := by decide +kernel
theorem dX8_doAdvance_2 : decode cX8_doAdvance 2 = .ok (.bipush 20, 2) := by decide +kernel
theorem dX8_doAdvance_4 : decode cX8_doAdvance 4 = .ok (.invokestatic 54, 3) := by decide +kernel
theorem dX8_doAdvance_7 : decode cX8_doAdvance 7 = .ok (.ifCond .ne 9, 3) := by decide +kernel
theorem dX8_doAdvance_10 : decode cX8_doAdvance 10 = .ok (.aload_n 0, 1) := by decide +kernel
theorem dX8_doAdvance_11 : decode cX8_doAdvance 11 = .ok (.iconst 1, 1) := by decide +kernel
theorem dX8_doAdvance_12 : decode cX8_doAdvance 12 = .ok (.invokevirtual 81, 3) := by decide +kernel
theorem dX8_doAdvance_15 : decode cX8_doAdvance 15 = .ok (.ireturn, 1) := by decide +kernel
theorem dX8_doAdvance_16 : decode cX8_doAdvance 16 = .ok (.iconst 0, 1) := by decide +kernel
theorem dX8_doAdvance_17 : decode cX8_doAdvance 17 = .ok (.istore_n 2, 1) := by decide +kernel
theorem dX8_doAdvance_18 : decode cX8_doAdvance 18 = .ok (.iconst 0, 1) := by decide +kernel
theorem dX8_doAdvance_19 : decode cX8_doAdvance 19 = .ok (.istore_n 3, 1) := by decide +kernel
theorem dX8_doAdvance_20 : decode cX8_doAdvance 20 = .ok (.iload_n 3, 1) := by decide +kernel
theorem dX8_doAdvance_21 : decode cX8_doAdvance 21 = .ok (.iload_n 1, 1) := by decide +kernel
theorem dX8_doAdvance_22 : decode cX8_doAdvance 22 = .ok (.if_icmp .ge 16, 3) := by decide +kernel
theorem dX8_doAdvance_25 : decode cX8_doAdvance 25 = .ok (.iload_n 2, 1) := by decide +kernel
theorem dX8_doAdvance_26 : decode cX8_doAdvance 26 = .ok (.aload_n 0, 1) := by decide +kernel
theorem dX8_doAdvance_27 : decode cX8_doAdvance 27 = .ok (.invokevirtual 150, 3) := by decide +kernel
theorem dX8_doAdvance_30 : decode cX8_doAdvance 30 = .ok (.iadd, 1) := by decide +kernel
theorem dX8_doAdvance_31 : decode cX8_doAdvance 31 = .ok (.istore_n 2, 1) := by decide +kernel
theorem dX8_doAdvance_32 : decode cX8_doAdvance 32 = .ok (.iinc 3 1, 3) := by decide +kernel
theorem dX8_doAdvance_35 : decode cX8_doAdvance 35 = .ok (.goto (-15), 3) := by decide +kernel
theorem dX8_doAdvance_38 : decode cX8_doAdvance 38 = .ok (.iload_n 2, 1) := by decide +kernel
theorem dX8_doAdvance_39 : decode cX8_doAdvance 39 = .ok (.ireturn, 1) := by decide +kernel
set_option maxRecDepth 20000 in
theorem ggX8_advance_X8_keep : GoodIn wsX8_advance wsX8_keep := goodIn_r _ [5, 6, 7, 8, 9, 10, 11, 12, 90, 91, 92, 93, 94, 95, 96, 97, 98, 99, 100, 101, 102, 103, 104, 105, 106, 107] (by decide +kernel) (by decide +kernel)
set_option maxRecDepth 20000 in
theorem gX8_advance_X8_keep : GoodIn wsX8_advance (wsV RX8 88 RX8 yX8_keep wsX8_keep) := goodIn_app (goodIn_of _ (by decide +kernel)) ggX8_advance_X8_keep
set_option maxRecDepth 20000 in
theorem ggX8_advance_X8_doAdvance : GoodIn wsX8_advance wsX8_doAdvance := goodIn_ca (goodIn_ca (goodIn_r _ [16, 17, 18, 4, 19, 20, 21, 22, 23, 6, 24, 25, 26, 27, 7, 28, 29, 30, 31, 32, 33, 34, 35, 36, 37, 38, 39, 40, 41, 42, 43, 44, 45, 46, 47, 48, 49, 50, 51, 52, 53, 54, 55, 56, 57, 58, 59, 60, 61, 62, 63, 64, 65, 66, 67, 68, 69, 70, 71, 9, 10, 11, 12, 72, 73, 74, 75, 76, 77, 78, 79, 80, 81, 82, 83, 90, 91, 92, 93, 94, 95, 96, 97, 98, 99, 100, 101, 102, 103, 104, 105, 106, 107] (by decide +kernel) (by decide +kernel)) (goodIn_sub (fun _ h => List.mem_cons_of_mem _ (List.mem_append_left _ (List.mem_append_right _ h))) (by decide +kernel))) (goodIn_sub (fun _ h => List.mem_cons_of_mem _ (List.mem_append_right _ h)) (by decide +kernel))
set_option maxRecDepth 20000 in
theorem gX8_advance_X8_doAdvance : GoodIn wsX8_advance (wsV RX8 153 RX8 yX8_doAdvance wsX8_doAdvance) := goodIn_app (goodIn_of _ (by decide +kernel)) ggX8_advance_X8_doAdvance
set_option maxRecDepth 20000 in
theorem ggX8_advance_X8_ends : GoodIn wsX8_advance wsX8_ends := goodIn_r _ [87, 6, 8, 7, 9, 10, 11, 12, 88, 89, 90, 91, 92, 93, 94, 95, 96, 97, 98, 99, 100, 101, 102, 103, 104, 105, 106, 107] (by decide +kernel) (by decide +kernel)
set_option maxRecDepth 20000 in
theorem gX8_advance_X8_ends : GoodIn wsX8_advance (wsV RX8 95 RX8 yX8_ends wsX8_ends) := goodIn_app (goodIn_of _ (by decide +kernel)) ggX8_advance_X8_ends
theorem dX8_advance_0 : decode cX8_advance 0 = .ok (.aload_n 0, 1) := by decide +kernel
theorem dX8_advance_1 : decode cX8_advance 1 = .ok (.invokevirtual 88, 3) := by decide +kernel
theorem dX8_advance_4 : decode cX8_advance 4 = .ok (.aload_n 0, 1) := by decide +kernel
theorem dX8_advance_5 : decode cX8_advance 5 = .ok (.aload_n 0, 1) := by decide +kernel
theorem dX8_advance_6 : decode cX8_advance 6 = .ok (.iload_n 1, 1) := by decide +kernel
theorem dX8_advance_7 : decode cX8_advance 7 = .ok (.invokevirtual 153, 3) := by decide +kernel
theorem dX8_advance_10 : decode cX8_advance 10 = .ok (.invokevirtual 95, 3) := by decide +kernel
theorem dX8_advance_13 : decode cX8_advance 13 = .ok (.ireturn, 1) := by decide +kernel
theorem dX8_bathCount_0 : decode cX8_bathCount 0 = .ok (.aload_n 0, 1) := by decide +kernel
theorem dX8_bathCount_1 : decode cX8_bathCount 1 = .ok (.iconst 0, 1) := by decide +kernel
theorem dX8_bathCount_2 : decode cX8_bathCount 2 = .ok (.putfield 42, 3) := by decide +kernel
theorem dX8_bathCount_5 : decode cX8_bathCount 5 = .ok (.aload_n 0, 1) := by decide +kernel
theorem dX8_bathCount_6 : decode cX8_bathCount 6 = .ok (.getfield 9, 3) := by decide +kernel
theorem dX8_bathCount_9 : decode cX8_bathCount 9 = .ok (.iconst 0, 1) := by decide +kernel
theorem dX8_bathCount_10 : decode cX8_bathCount 10 = .ok (.iaload, 1) := by decide +kernel
theorem dX8_bathCount_11 : decode cX8_bathCount 11 = .ok (.ireturn, 1) := by decide +kernel
set_option maxRecDepth 20000 in
theorem ggX8_volume_X8_isBath : GoodIn wsX8_volume wsX8_isBath := goodIn_ca (goodIn_r _ [5, 6, 7, 8, 4, 9, 19, 20, 21, 22, 23, 24, 25, 26, 27, 28, 29, 30, 31, 32, 33, 34, 35, 36] (by decide +kernel) (by decide +kernel)) (goodIn_sub (fun _ h => List.mem_cons_of_mem _ (List.mem_append_right _ h)) (by decide +kernel))
set_option maxRecDepth 20000 in
theorem gX8_volume_X8_isBath : GoodIn wsX8_volume (wsV RX8 98 RX8 yX8_isBath wsX8_isBath) := goodIn_app (goodIn_of _ (by decide +kernel)) ggX8_volume_X8_isBath
set_option maxRecDepth 20000 in
theorem ggX8_volume_X8_isThere : GoodIn wsX8_volume wsX8_isThere := goodIn_r _ [13, 14, 19, 20, 21, 22, 23, 24, 25, 26, 27, 28, 29, 30, 31, 32, 33, 34, 35, 36] (by decide +kernel) (by decide +kernel)
set_option maxRecDepth 20000 in
theorem gX8_volume_X8_isThere : GoodIn wsX8_volume (wsV RX8 156 RX8 yX8_isThere wsX8_isThere) := goodIn_app (goodIn_of _ (by decide +kernel)) ggX8_volume_X8_isThere
set_option maxRecDepth 20000 in
theorem ggX8_volume_X8_of : GoodIn wsX8_volume wsX8_of := goodIn_ca (goodIn_r _ [18, 6, 19, 20, 21, 22, 23, 24, 25, 26, 27, 28, 29, 30, 31, 32, 33, 34, 35, 36] (by decide +kernel) (by decide +kernel)) (goodIn_sub (fun _ h => List.mem_cons_of_mem _ (List.mem_append_right _ h)) (by decide +kernel))
set_option maxRecDepth 20000 in
theorem gX8_volume_X8_of : GoodIn wsX8_volume (wsV RX8 58 RX8 yX8_of wsX8_of) := goodIn_app (goodIn_of _ (by decide +kernel)) ggX8_volume_X8_of
theorem dX8_volume_0 : decode cX8_volume 0 = .ok (.aload_n 0, 1) := by decide +kernel
theorem dX8_volume_1 : decode cX8_volume 1 = .ok (.aload_n 0, 1) := by decide +kernel
theorem dX8_volume_2 : decode cX8_volume 2 = .ok (.iload_n 1, 1) := by decide +kernel
theorem dX8_volume_3 : decode cX8_volume 3 = .ok (.invokevirtual 98, 3) := by decide +kernel
theorem dX8_volume_6 : decode cX8_volume 6 = .ok (.invokevirtual 156, 3) := by decide +kernel
theorem dX8_volume_9 : decode cX8_volume 9 = .ok (.ifCond .eq 12, 3) := by decide +kernel
theorem dX8_volume_12 : decode cX8_volume 12 = .ok (.aload_n 0, 1) := by decide +kernel
theorem dX8_volume_13 : decode cX8_volume 13 = .ok (.iload_n 1, 1) := by decide +kernel
theorem dX8_volume_14 : decode cX8_volume 14 = .ok (.iconst 0, 1) := by decide +kernel
theorem dX8_volume_15 : decode cX8_volume 15 = .ok (.invokevirtual 58, 3) := by decide +kernel
theorem dX8_volume_18 : decode cX8_volume 18 = .ok (.goto 4, 3) := by decide +kernel
theorem dX8_volume_21 : decode cX8_volume 21 = .ok (.iconst 0, 1) := by decide +kernel
theorem dX8_volume_22 : decode cX8_volume 22 = .ok (.ireturn, 1) := by decide +kernel
set_option maxRecDepth 20000 in
theorem ggX8_heat_X8_isBath : GoodIn wsX8_heat wsX8_isBath := goodIn_ca (goodIn_r _ [5, 6, 7, 8, 4, 9, 19, 20, 21, 22, 23, 24, 25, 26, 27, 28, 29, 30, 31, 32, 33, 34, 35, 36] (by decide +kernel) (by decide +kernel)) (goodIn_sub (fun _ h => List.mem_cons_of_mem _ (List.mem_append_right _ h)) (by decide +kernel))
set_option maxRecDepth 20000 in
theorem gX8_heat_X8_isBath : GoodIn wsX8_heat (wsV RX8 98 RX8 yX8_isBath wsX8_isBath) := goodIn_app (goodIn_of _ (by decide +kernel)) ggX8_heat_X8_isBath
set_option maxRecDepth 20000 in
theorem ggX8_heat_X8_isThere : GoodIn wsX8_heat wsX8_isThere := goodIn_r _ [13, 14, 19, 20, 21, 22, 23, 24, 25, 26, 27, 28, 29, 30, 31, 32, 33, 34, 35, 36] (by decide +kernel) (by decide +kernel)
set_option maxRecDepth 20000 in
theorem gX8_heat_X8_isThere : GoodIn wsX8_heat (wsV RX8 156 RX8 yX8_isThere wsX8_isThere) := goodIn_app (goodIn_of _ (by decide +kernel)) ggX8_heat_X8_isThere
set_option maxRecDepth 20000 in
theorem ggX8_heat_X8_of : GoodIn wsX8_heat wsX8_of := goodIn_ca (goodIn_r _ [18, 6, 19, 20, 21, 22, 23, 24, 25, 26, 27, 28, 29, 30, 31, 32, 33, 34, 35, 36] (by decide +kernel) (by decide +kernel)) (goodIn_sub (fun _ h => List.mem_cons_of_mem _ (List.mem_append_right _ h)) (by decide +kernel))
set_option maxRecDepth 20000 in
theorem gX8_heat_X8_of : GoodIn wsX8_heat (wsV RX8 58 RX8 yX8_of wsX8_of) := goodIn_app (goodIn_of _ (by decide +kernel)) ggX8_heat_X8_of
theorem dX8_heat_0 : decode cX8_heat 0 = .ok (.aload_n 0, 1) := by decide +kernel
theorem dX8_heat_1 : decode cX8_heat 1 = .ok (.aload_n 0, 1) := by decide +kernel
theorem dX8_heat_2 : decode cX8_heat 2 = .ok (.iload_n 1, 1) := by decide +kernel
theorem dX8_heat_3 : decode cX8_heat 3 = .ok (.invokevirtual 98, 3) := by decide +kernel
theorem dX8_heat_6 : decode cX8_heat 6 = .ok (.invokevirtual 156, 3) := by decide +kernel
theorem dX8_heat_9 : decode cX8_heat 9 = .ok (.ifCond .eq 12, 3) := by decide +kernel
theorem dX8_heat_12 : decode cX8_heat 12 = .ok (.aload_n 0, 1) := by decide +kernel
theorem dX8_heat_13 : decode cX8_heat 13 = .ok (.iload_n 1, 1) := by decide +kernel
theorem dX8_heat_14 : decode cX8_heat 14 = .ok (.iconst 1, 1) := by decide +kernel
theorem dX8_heat_15 : decode cX8_heat 15 = .ok (.invokevirtual 58, 3) := by decide +kernel
theorem dX8_heat_18 : decode cX8_heat 18 = .ok (.goto 4, 3) := by decide +kernel
theorem dX8_heat_21 : decode cX8_heat 21 = .ok (.iconst 0, 1) := by decide +kernel
theorem dX8_heat_22 : decode cX8_heat 22 = .ok (.ireturn, 1) := by decide +kernel
set_option maxRecDepth 20000 in
theorem ggX8_temperature_X8_isBath : GoodIn wsX8_temperature wsX8_isBath := goodIn_ca (goodIn_r _ [6, 7, 8, 9, 5, 10, 23, 24, 25, 26, 27, 28, 29, 30, 31, 32, 33, 34, 35, 36, 37, 38, 39, 40] (by decide +kernel) (by decide +kernel)) (goodIn_sub (fun _ h => List.mem_cons_of_mem _ (List.mem_append_left _ (List.mem_append_right _ h))) (by decide +kernel))
set_option maxRecDepth 20000 in
theorem gX8_temperature_X8_isBath : GoodIn wsX8_temperature (wsV RX8 98 RX8 yX8_isBath wsX8_isBath) := goodIn_app (goodIn_of _ (by decide +kernel)) ggX8_temperature_X8_isBath
set_option maxRecDepth 20000 in
theorem ggX8_temperature_X8_isWet : GoodIn wsX8_temperature wsX8_isWet := goodIn_ca (goodIn_r _ [14, 15, 16, 17, 5, 18, 7, 23, 24, 25, 26, 27, 28, 29, 30, 31, 32, 33, 34, 35, 36, 37, 38, 39, 40] (by decide +kernel) (by decide +kernel)) (goodIn_sub (fun _ h => List.mem_cons_of_mem _ (List.mem_append_left _ (List.mem_append_right _ h))) (by decide +kernel))
set_option maxRecDepth 20000 in
theorem gX8_temperature_X8_isWet : GoodIn wsX8_temperature (wsV RX8 65 RX8 yX8_isWet wsX8_isWet) := goodIn_app (goodIn_of _ (by decide +kernel)) ggX8_temperature_X8_isWet
set_option maxRecDepth 20000 in
theorem ggX8_temperature_X8_degrees : GoodIn wsX8_temperature wsX8_degrees := goodIn_ca (goodIn_ca (goodIn_r _ [22, 15, 16, 17, 5, 18, 7, 23, 24, 25, 26, 27, 28, 29, 30, 31, 32, 33, 34, 35, 36, 37, 38, 39, 40] (by decide +kernel) (by decide +kernel)) (goodIn_sub (fun _ h => List.mem_cons_of_mem _ (List.mem_append_right _ h)) (by decide +kernel))) (goodIn_sub (fun _ h => List.mem_cons_of_mem _ (List.mem_append_left _ (List.mem_append_right _ h))) (by decide +kernel))
set_option maxRecDepth 20000 in
theorem gX8_temperature_X8_degrees : GoodIn wsX8_temperature (wsV RX8 69 RX8 yX8_degrees wsX8_degrees) := goodIn_app (goodIn_of _ (by decide +kernel)) ggX8_temperature_X8_degrees
theorem dX8_temperature_0 : decode cX8_temperature 0 = .ok (.aload_n 0, 1) := by decide +kernel
theorem dX8_temperature_1 : decode cX8_temperature 1 = .ok (.aload_n 0, 1) := by decide +kernel
theorem dX8_temperature_2 : decode cX8_temperature 2 = .ok (.iload_n 1, 1) := by decide +kernel
theorem dX8_temperature_3 : decode cX8_temperature 3 = .ok (.invokevirtual 98, 3) := by decide +kernel
theorem dX8_temperature_6 : decode cX8_temperature 6 = .ok (.ifCond .ne 7, 3) := by decide +kernel
theorem dX8_temperature_9 : decode cX8_temperature 9 = .ok (.iconst 1, 1) := by decide +kernel
theorem dX8_temperature_10 : decode cX8_temperature 10 = .ok (.goto 16, 3) := by decide +kernel
theorem dX8_temperature_13 : decode cX8_temperature 13 = .ok (.aload_n 0, 1) := by decide +kernel
theorem dX8_temperature_14 : decode cX8_temperature 14 = .ok (.iload_n 1, 1) := by decide +kernel
theorem dX8_temperature_15 : decode cX8_temperature 15 = .ok (.invokevirtual 65, 3) := by decide +kernel
theorem dX8_temperature_18 : decode cX8_temperature 18 = .ok (.ifCond .ne 7, 3) := by decide +kernel
theorem dX8_temperature_21 : decode cX8_temperature 21 = .ok (.iconst 2, 1) := by decide +kernel
theorem dX8_temperature_22 : decode cX8_temperature 22 = .ok (.goto 4, 3) := by decide +kernel
theorem dX8_temperature_25 : decode cX8_temperature 25 = .ok (.iconst 0, 1) := by decide +kernel
theorem dX8_temperature_26 : decode cX8_temperature 26 = .ok (.putfield 42, 3) := by decide +kernel
theorem dX8_temperature_29 : decode cX8_temperature 29 = .ok (.aload_n 0, 1) := by decide +kernel
theorem dX8_temperature_30 : decode cX8_temperature 30 = .ok (.getfield 42, 3) := by decide +kernel
theorem dX8_temperature_33 : decode cX8_temperature 33 = .ok (.ifCond .le 7, 3) := by decide +kernel
theorem dX8_temperature_36 : decode cX8_temperature 36 = .ok (.iconst 0, 1) := by decide +kernel
theorem dX8_temperature_37 : decode cX8_temperature 37 = .ok (.goto 8, 3) := by decide +kernel
theorem dX8_temperature_40 : decode cX8_temperature 40 = .ok (.aload_n 0, 1) := by decide +kernel
theorem dX8_temperature_41 : decode cX8_temperature 41 = .ok (.iload_n 1, 1) := by decide +kernel
theorem dX8_temperature_42 : decode cX8_temperature 42 = .ok (.invokevirtual 69, 3) := by decide +kernel
theorem dX8_temperature_45 : decode cX8_temperature 45 = .ok (.ireturn, 1) := by decide +kernel
set_option maxRecDepth 20000 in
theorem ggX8_exactTemperature_X8_isBath : GoodIn wsX8_exactTemperature wsX8_isBath := goodIn_ca (goodIn_r _ [6, 7, 8, 9, 5, 10, 19, 20, 21, 22, 23, 24, 25, 26, 27, 28, 29, 30, 31, 32, 33, 34, 35, 36] (by decide +kernel) (by decide +kernel)) (goodIn_sub (fun _ h => List.mem_cons_of_mem _ (List.mem_append_right _ h)) (by decide +kernel))
set_option maxRecDepth 20000 in
theorem gX8_exactTemperature_X8_isBath : GoodIn wsX8_exactTemperature (wsV RX8 98 RX8 yX8_isBath wsX8_isBath) := goodIn_app (goodIn_of _ (by decide +kernel)) ggX8_exactTemperature_X8_isBath
set_option maxRecDepth 20000 in
theorem ggX8_exactTemperature_X8_isWet : GoodIn wsX8_exactTemperature wsX8_isWet := goodIn_ca (goodIn_r _ [14, 15, 16, 17, 5, 18, 7, 19, 20, 21, 22, 23, 24, 25, 26, 27, 28, 29, 30, 31, 32, 33, 34, 35, 36] (by decide +kernel) (by decide +kernel)) (goodIn_sub (fun _ h => List.mem_cons_of_mem _ (List.mem_append_right _ h)) (by decide +kernel))
set_option maxRecDepth 20000 in
theorem gX8_exactTemperature_X8_isWet : GoodIn wsX8_exactTemperature (wsV RX8 65 RX8 yX8_isWet wsX8_isWet) := goodIn_app (goodIn_of _ (by decide +kernel)) ggX8_exactTemperature_X8_isWet
set_option maxRecDepth 20000 in
theorem ggX8_exactTemperature_X8_of : GoodIn wsX8_exactTemperature wsX8_of := goodIn_ca (goodIn_r _ [18, 7, 19, 20, 21, 22, 23, 24, 25, 26, 27, 28, 29, 30, 31, 32, 33, 34, 35, 36] (by decide +kernel) (by decide +kernel)) (goodIn_sub (fun _ h => List.mem_cons_of_mem _ (List.mem_append_right _ h)) (by decide +kernel))
set_option maxRecDepth 20000 in
theorem gX8_exactTemperature_X8_of : GoodIn wsX8_exactTemperature (wsV RX8 58 RX8 yX8_of wsX8_of) := goodIn_app (goodIn_of _ (by decide +kernel)) ggX8_exactTemperature_X8_of
theorem dX8_exactTemperature_0 : decode cX8_exactTemperature 0 = .ok (.aload_n 0, 1) := by decide +kernel
theorem dX8_exactTemperature_1 : decode cX8_exactTemperature 1 = .ok (.aload_n 0, 1) := by decide +kernel
theorem dX8_exactTemperature_2 : decode cX8_exactTemperature 2 = .ok (.iload_n 1, 1) := by decide +kernel
theorem dX8_exactTemperature_3 : decode cX8_exactTemperature 3 = .ok (.invokevirtual 98, 3) := by decide +kernel
theorem dX8_exactTemperature_6 : decode cX8_exactTemperature 6 = .ok (.ifCond .ne 7, 3) := by decide +kernel
theorem dX8_exactTemperature_9 : decode cX8_exactTemperature 9 = .ok (.iconst 1, 1) := by decide +kernel
theorem dX8_exactTemperature_10 : decode cX8_exactTemperature 10 = .ok (.goto 16, 3) := by decide +kernel
theorem dX8_exactTemperature_13 : decode cX8_exactTemperature 13 = .ok (.aload_n 0, 1) := by decide +kernel
theorem dX8_exactTemperature_14 : decode cX8_exactTemperature 14 = .ok (.iload_n 1, 1) := by decide +kernel
theorem dX8_exactTemperature_15 : decode cX8_exactTemperature 15 = .ok (.invokevirtual 65, 3) := by decide +kernel
theorem dX8_exactTemperature_18 : decode cX8_exactTemperature 18 = .ok (.ifCond .ne 7, 3) := by decide +kernel
theorem dX8_exactTemperature_21 : decode cX8_exactTemperature 21 = .ok (.iconst 2, 1) := by decide +kernel
theorem dX8_exactTemperature_22 : decode cX8_exactTemperature 22 = .ok (.goto 4, 3) := by decide +kernel
theorem dX8_exactTemperature_25 : decode cX8_exactTemperature 25 = .ok (.iconst 0, 1) := by decide +kernel
theorem dX8_exactTemperature_26 : decode cX8_exactTemperature 26 = .ok (.putfield 42, 3) := by decide +kernel
theorem dX8_exactTemperature_29 : decode cX8_exactTemperature 29 = .ok (.aload_n 0, 1) := by decide +kernel
theorem dX8_exactTemperature_30 : decode cX8_exactTemperature 30 = .ok (.getfield 42, 3) := by decide +kernel
theorem dX8_exactTemperature_33 : decode cX8_exactTemperature 33 = .ok (.ifCond .le 7, 3) := by decide +kernel
theorem dX8_exactTemperature_36 : decode cX8_exactTemperature 36 = .ok (.dconst 0, 1) := by decide +kernel
theorem dX8_exactTemperature_37 : decode cX8_exactTemperature 37 = .ok (.goto 18, 3) := by decide +kernel
theorem dX8_exactTemperature_40 : decode cX8_exactTemperature 40 = .ok (.aload_n 0, 1) := by decide +kernel
theorem dX8_exactTemperature_41 : decode cX8_exactTemperature 41 = .ok (.iload_n 1, 1) := by decide +kernel
theorem dX8_exactTemperature_42 : decode cX8_exactTemperature 42 = .ok (.iconst 1, 1) := by decide +kernel
theorem dX8_exactTemperature_43 : decode cX8_exactTemperature 43 = .ok (.invokevirtual 58, 3) := by decide +kernel
theorem dX8_exactTemperature_46 : decode cX8_exactTemperature 46 = .ok (.i2d, 1) := by decide +kernel
theorem dX8_exactTemperature_47 : decode cX8_exactTemperature 47 = .ok (.aload_n 0, 1) := by decide +kernel
theorem dX8_exactTemperature_48 : decode cX8_exactTemperature 48 = .ok (.iload_n 1, 1) := by decide +kernel
theorem dX8_exactTemperature_49 : decode cX8_exactTemperature 49 = .ok (.iconst 0, 1) := by decide +kernel
theorem dX8_exactTemperature_50 : decode cX8_exactTemperature 50 = .ok (.invokevirtual 58, 3) := by decide +kernel
theorem dX8_exactTemperature_53 : decode cX8_exactTemperature 53 = .ok (.i2d, 1) := by decide +kernel
theorem dX8_exactTemperature_54 : decode cX8_exactTemperature 54 = .ok (.ddiv, 1) := by decide +kernel
theorem dX8_exactTemperature_55 : decode cX8_exactTemperature 55 = .ok (.dreturn, 1) := by decide +kernel
set_option maxRecDepth 20000 in
theorem ggX8_isWarmer_X8_isBath : GoodIn wsX8_isWarmer wsX8_isBath := goodIn_ca (goodIn_r _ [6, 7, 8, 9, 5, 10, 23, 24, 25, 26, 27, 28, 29, 30, 31, 32, 33, 34, 35, 36, 37, 38, 39, 40] (by decide +kernel) (by decide +kernel)) (goodIn_sub (fun _ h => List.mem_cons_of_mem _ (List.mem_append_right _ h)) (by decide +kernel))
set_option maxRecDepth 20000 in
theorem gX8_isWarmer_X8_isBath : GoodIn wsX8_isWarmer (wsV RX8 98 RX8 yX8_isBath wsX8_isBath) := goodIn_app (goodIn_of _ (by decide +kernel)) ggX8_isWarmer_X8_isBath
set_option maxRecDepth 20000 in
theorem ggX8_isWarmer_X8_isWet : GoodIn wsX8_isWarmer wsX8_isWet := goodIn_ca (goodIn_r _ [14, 15, 16, 17, 5, 18, 7, 23, 24, 25, 26, 27, 28, 29, 30, 31, 32, 33, 34, 35, 36, 37, 38, 39, 40] (by decide +kernel) (by decide +kernel)) (goodIn_sub (fun _ h => List.mem_cons_of_mem _ (List.mem_append_right _ h)) (by decide +kernel))
set_option maxRecDepth 20000 in
theorem gX8_isWarmer_X8_isWet : GoodIn wsX8_isWarmer (wsV RX8 65 RX8 yX8_isWet wsX8_isWet) := goodIn_app (goodIn_of _ (by decide +kernel)) ggX8_isWarmer_X8_isWet
set_option maxRecDepth 20000 in
theorem ggX8_isWarmer_X8_warmer : GoodIn wsX8_isWarmer wsX8_warmer := goodIn_ca (goodIn_r _ [22, 15, 16, 17, 5, 18, 7, 23, 24, 25, 26, 27, 28, 29, 30, 31, 32, 33, 34, 35, 36, 37, 38, 39, 40] (by decide +kernel) (by decide +kernel)) (goodIn_sub (fun _ h => List.mem_cons_of_mem _ (List.mem_append_right _ h)) (by decide +kernel))
set_option maxRecDepth 20000 in
theorem gX8_isWarmer_X8_warmer : GoodIn wsX8_isWarmer (wsV RX8 134 RX8 yX8_warmer wsX8_warmer) := goodIn_app (goodIn_of _ (by decide +kernel)) ggX8_isWarmer_X8_warmer
theorem dX8_isWarmer_0 : decode cX8_isWarmer 0 = .ok (.aload_n 0, 1) := by decide +kernel
theorem dX8_isWarmer_1 : decode cX8_isWarmer 1 = .ok (.aload_n 0, 1) := by decide +kernel
theorem dX8_isWarmer_2 : decode cX8_isWarmer 2 = .ok (.iload_n 1, 1) := by decide +kernel
theorem dX8_isWarmer_3 : decode cX8_isWarmer 3 = .ok (.invokevirtual 98, 3) := by decide +kernel
theorem dX8_isWarmer_6 : decode cX8_isWarmer 6 = .ok (.ifCond .eq 11, 3) := by decide +kernel
theorem dX8_isWarmer_9 : decode cX8_isWarmer 9 = .ok (.aload_n 0, 1) := by decide +kernel
theorem dX8_isWarmer_10 : decode cX8_isWarmer 10 = .ok (.iload_n 2, 1) := by decide +kernel
theorem dX8_isWarmer_11 : decode cX8_isWarmer 11 = .ok (.invokevirtual 98, 3) := by decide +kernel
theorem dX8_isWarmer_14 : decode cX8_isWarmer 14 = .ok (.ifCond .ne 7, 3) := by decide +kernel
theorem dX8_isWarmer_17 : decode cX8_isWarmer 17 = .ok (.iconst 1, 1) := by decide +kernel
theorem dX8_isWarmer_18 : decode cX8_isWarmer 18 = .ok (.goto 24, 3) := by decide +kernel
theorem dX8_isWarmer_21 : decode cX8_isWarmer 21 = .ok (.aload_n 0, 1) := by decide +kernel
theorem dX8_isWarmer_22 : decode cX8_isWarmer 22 = .ok (.iload_n 1, 1) := by decide +kernel
theorem dX8_isWarmer_23 : decode cX8_isWarmer 23 = .ok (.invokevirtual 65, 3) := by decide +kernel
theorem dX8_isWarmer_26 : decode cX8_isWarmer 26 = .ok (.ifCond .eq 11, 3) := by decide +kernel
theorem dX8_isWarmer_29 : decode cX8_isWarmer 29 = .ok (.aload_n 0, 1) := by decide +kernel
theorem dX8_isWarmer_30 : decode cX8_isWarmer 30 = .ok (.iload_n 2, 1) := by decide +kernel
theorem dX8_isWarmer_31 : decode cX8_isWarmer 31 = .ok (.invokevirtual 65, 3) := by decide +kernel
theorem dX8_isWarmer_34 : decode cX8_isWarmer 34 = .ok (.ifCond .ne 7, 3) := by decide +kernel
theorem dX8_isWarmer_37 : decode cX8_isWarmer 37 = .ok (.iconst 2, 1) := by decide +kernel
theorem dX8_isWarmer_38 : decode cX8_isWarmer 38 = .ok (.goto 4, 3) := by decide +kernel
theorem dX8_isWarmer_41 : decode cX8_isWarmer 41 = .ok (.iconst 0, 1) := by decide +kernel
theorem dX8_isWarmer_42 : decode cX8_isWarmer 42 = .ok (.putfield 42, 3) := by decide +kernel
theorem dX8_isWarmer_45 : decode cX8_isWarmer 45 = .ok (.aload_n 0, 1) := by decide +kernel
theorem dX8_isWarmer_46 : decode cX8_isWarmer 46 = .ok (.getfield 42, 3) := by decide +kernel
theorem dX8_isWarmer_49 : decode cX8_isWarmer 49 = .ok (.ifCond .ne 16, 3) := by decide +kernel
theorem dX8_isWarmer_52 : decode cX8_isWarmer 52 = .ok (.aload_n 0, 1) := by decide +kernel
theorem dX8_isWarmer_53 : decode cX8_isWarmer 53 = .ok (.iload_n 1, 1) := by decide +kernel
theorem dX8_isWarmer_54 : decode cX8_isWarmer 54 = .ok (.iload_n 2, 1) := by decide +kernel
theorem dX8_isWarmer_55 : decode cX8_isWarmer 55 = .ok (.invokevirtual 134, 3) := by decide +kernel
theorem dX8_isWarmer_58 : decode cX8_isWarmer 58 = .ok (.ifCond .le 7, 3) := by decide +kernel
theorem dX8_isWarmer_61 : decode cX8_isWarmer 61 = .ok (.iconst 1, 1) := by decide +kernel
theorem dX8_isWarmer_62 : decode cX8_isWarmer 62 = .ok (.goto 4, 3) := by decide +kernel
theorem dX8_isWarmer_65 : decode cX8_isWarmer 65 = .ok (.iconst 0, 1) := by decide +kernel
theorem dX8_isWarmer_66 : decode cX8_isWarmer 66 = .ok (.ireturn, 1) := by decide +kernel
set_option maxRecDepth 20000 in
theorem ggX8_isPlugged_X8_isBath : GoodIn wsX8_isPlugged wsX8_isBath := goodIn_ca (goodIn_r _ [5, 6, 7, 8, 4, 9, 19, 20, 21, 22, 23, 24, 25, 26, 27, 28, 29, 30, 31, 32, 33, 34, 35, 36] (by decide +kernel) (by decide +kernel)) (goodIn_sub (fun _ h => List.mem_cons_of_mem _ (List.mem_append_right _ h)) (by decide +kernel))
set_option maxRecDepth 20000 in
theorem gX8_isPlugged_X8_isBath : GoodIn wsX8_isPlugged (wsV RX8 98 RX8 yX8_isBath wsX8_isBath) := goodIn_app (goodIn_of _ (by decide +kernel)) ggX8_isPlugged_X8_isBath
set_option maxRecDepth 20000 in
theorem ggX8_isPlugged_X8_isThere : GoodIn wsX8_isPlugged wsX8_isThere := goodIn_r _ [13, 14, 19, 20, 21, 22, 23, 24, 25, 26, 27, 28, 29, 30, 31, 32, 33, 34, 35, 36] (by decide +kernel) (by decide +kernel)
set_option maxRecDepth 20000 in
theorem gX8_isPlugged_X8_isThere : GoodIn wsX8_isPlugged (wsV RX8 156 RX8 yX8_isThere wsX8_isThere) := goodIn_app (goodIn_of _ (by decide +kernel)) ggX8_isPlugged_X8_isThere
set_option maxRecDepth 20000 in
theorem ggX8_isPlugged_X8_of : GoodIn wsX8_isPlugged wsX8_of := goodIn_ca (goodIn_r _ [18, 6, 19, 20, 21, 22, 23, 24, 25, 26, 27, 28, 29, 30, 31, 32, 33, 34, 35, 36] (by decide +kernel) (by decide +kernel)) (goodIn_sub (fun _ h => List.mem_cons_of_mem _ (List.mem_append_right _ h)) (by decide +kernel))
set_option maxRecDepth 20000 in
theorem gX8_isPlugged_X8_of : GoodIn wsX8_isPlugged (wsV RX8 58 RX8 yX8_of wsX8_of) := goodIn_app (goodIn_of _ (by decide +kernel)) ggX8_isPlugged_X8_of
theorem dX8_isPlugged_0 : decode cX8_isPlugged 0 = .ok (.aload_n 0, 1) := by decide +kernel
theorem dX8_isPlugged_1 : decode cX8_isPlugged 1 = .ok (.aload_n 0, 1) := by decide +kernel
theorem dX8_isPlugged_2 : decode cX8_isPlugged 2 = .ok (.iload_n 1, 1) := by decide +kernel
theorem dX8_isPlugged_3 : decode cX8_isPlugged 3 = .ok (.invokevirtual 98, 3) := by decide +kernel
theorem dX8_isPlugged_6 : decode cX8_isPlugged 6 = .ok (.invokevirtual 156, 3) := by decide +kernel
theorem dX8_isPlugged_9 : decode cX8_isPlugged 9 = .ok (.ifCond .eq 16, 3) := by decide +kernel
theorem dX8_isPlugged_12 : decode cX8_isPlugged 12 = .ok (.aload_n 0, 1) := by decide +kernel
theorem dX8_isPlugged_13 : decode cX8_isPlugged 13 = .ok (.iload_n 1, 1) := by decide +kernel
theorem dX8_isPlugged_14 : decode cX8_isPlugged 14 = .ok (.iconst 2, 1) := by decide +kernel
theorem dX8_isPlugged_15 : decode cX8_isPlugged 15 = .ok (.invokevirtual 58, 3) := by decide +kernel
theorem dX8_isPlugged_18 : decode cX8_isPlugged 18 = .ok (.ifCond .ne 7, 3) := by decide +kernel
theorem dX8_isPlugged_21 : decode cX8_isPlugged 21 = .ok (.iconst 1, 1) := by decide +kernel
theorem dX8_isPlugged_22 : decode cX8_isPlugged 22 = .ok (.goto 4, 3) := by decide +kernel
theorem dX8_isPlugged_25 : decode cX8_isPlugged 25 = .ok (.iconst 0, 1) := by decide +kernel
theorem dX8_isPlugged_26 : decode cX8_isPlugged 26 = .ok (.ireturn, 1) := by decide +kernel
set_option maxRecDepth 20000 in
theorem ggX8_isAhead_X8_isWet : GoodIn wsX8_isAhead wsX8_isWet := goodIn_ca (goodIn_r _ [5, 6, 7, 8, 4, 9, 10, 15, 16, 17, 18, 19, 20, 21, 22, 23, 24, 25, 26, 27, 28, 29, 30, 31, 32] (by decide +kernel) (by decide +kernel)) (goodIn_sub (fun _ h => List.mem_cons_of_mem _ (List.mem_append_right _ h)) (by decide +kernel))
set_option maxRecDepth 20000 in
theorem gX8_isAhead_X8_isWet : GoodIn wsX8_isAhead (wsV RX8 65 RX8 yX8_isWet wsX8_isWet) := goodIn_app (goodIn_of _ (by decide +kernel)) ggX8_isAhead_X8_isWet
set_option maxRecDepth 20000 in
theorem ggX8_isAhead_X8_warmer : GoodIn wsX8_isAhead wsX8_warmer := goodIn_ca (goodIn_r _ [14, 6, 7, 8, 4, 9, 10, 15, 16, 17, 18, 19, 20, 21, 22, 23, 24, 25, 26, 27, 28, 29, 30, 31, 32] (by decide +kernel) (by decide +kernel)) (goodIn_sub (fun _ h => List.mem_cons_of_mem _ (List.mem_append_right _ h)) (by decide +kernel))
set_option maxRecDepth 20000 in
theorem gX8_isAhead_X8_warmer : GoodIn wsX8_isAhead (wsV RX8 134 RX8 yX8_warmer wsX8_warmer) := goodIn_app (goodIn_of _ (by decide +kernel)) ggX8_isAhead_X8_warmer
theorem dX8_isAhead_0 : decode cX8_isAhead 0 = .ok (.aload_n 0, 1) := by decide +kernel
theorem dX8_isAhead_1 : decode cX8_isAhead 1 = .ok (.iload_n 1, 1) := by decide +kernel
theorem dX8_isAhead_2 : decode cX8_isAhead 2 = .ok (.invokevirtual 65, 3) := by decide +kernel
theorem dX8_isAhead_5 : decode cX8_isAhead 5 = .ok (.aload_n 0, 1) := by decide +kernel
theorem dX8_isAhead_6 : decode cX8_isAhead 6 = .ok (.iload_n 2, 1) := by decide +kernel
theorem dX8_isAhead_7 : decode cX8_isAhead 7 = .ok (.invokevirtual 65, 3) := by decide +kernel
theorem dX8_isAhead_10 : decode cX8_isAhead 10 = .ok (.if_icmp .eq 9, 3) := by decide +kernel
theorem dX8_isAhead_13 : decode cX8_isAhead 13 = .ok (.aload_n 0, 1) := by decide +kernel
theorem dX8_isAhead_14 : decode cX8_isAhead 14 = .ok (.iload_n 1, 1) := by decide +kernel
theorem dX8_isAhead_15 : decode cX8_isAhead 15 = .ok (.invokevirtual 65, 3) := by decide +kernel
theorem dX8_isAhead_18 : decode cX8_isAhead 18 = .ok (.ireturn, 1) := by decide +kernel
theorem dX8_isAhead_19 : decode cX8_isAhead 19 = .ok (.aload_n 0, 1) := by decide +kernel
theorem dX8_isAhead_20 : decode cX8_isAhead 20 = .ok (.iload_n 1, 1) := by decide +kernel
theorem dX8_isAhead_21 : decode cX8_isAhead 21 = .ok (.invokevirtual 65, 3) := by decide +kernel
theorem dX8_isAhead_24 : decode cX8_isAhead 24 = .ok (.ifCond .eq 12, 3) := by decide +kernel
theorem dX8_isAhead_27 : decode cX8_isAhead 27 = .ok (.aload_n 0, 1) := by decide +kernel
theorem dX8_isAhead_28 : decode cX8_isAhead 28 = .ok (.iload_n 1, 1) := by decide +kernel
theorem dX8_isAhead_29 : decode cX8_isAhead 29 = .ok (.iload_n 2, 1) := by decide +kernel
theorem dX8_isAhead_30 : decode cX8_isAhead 30 = .ok (.invokevirtual 134, 3) := by decide +kernel
theorem dX8_isAhead_33 : decode cX8_isAhead 33 = .ok (.goto 4, 3) := by decide +kernel
theorem dX8_isAhead_36 : decode cX8_isAhead 36 = .ok (.iconst 0, 1) := by decide +kernel
theorem dX8_isAhead_37 : decode cX8_isAhead 37 = .ok (.istore_n 3, 1) := by decide +kernel
theorem dX8_isAhead_38 : decode cX8_isAhead 38 = .ok (.iload_n 3, 1) := by decide +kernel
theorem dX8_isAhead_39 : decode cX8_isAhead 39 = .ok (.ifCond .gt 12, 3) := by decide +kernel
theorem dX8_isAhead_42 : decode cX8_isAhead 42 = .ok (.iload_n 3, 1) := by decide +kernel
theorem dX8_isAhead_43 : decode cX8_isAhead 43 = .ok (.ifCond .ne 12, 3) := by decide +kernel
theorem dX8_isAhead_46 : decode cX8_isAhead 46 = .ok (.iload_n 1, 1) := by decide +kernel
theorem dX8_isAhead_47 : decode cX8_isAhead 47 = .ok (.iload_n 2, 1) := by decide +kernel
theorem dX8_isAhead_48 : decode cX8_isAhead 48 = .ok (.if_icmp .ge 7, 3) := by decide +kernel
theorem dX8_isAhead_51 : decode cX8_isAhead 51 = .ok (.iconst 1, 1) := by decide +kernel
theorem dX8_isAhead_52 : decode cX8_isAhead 52 = .ok (.goto 4, 3) := by decide +kernel
theorem dX8_isAhead_55 : decode cX8_isAhead 55 = .ok (.iconst 0, 1) := by decide +kernel
theorem dX8_isAhead_56 : decode cX8_isAhead 56 = .ok (.ireturn, 1) := by decide +kernel
set_option maxRecDepth 20000 in
theorem ggX8_bathByTemperature_X8_isBath : GoodIn wsX8_bathByTemperature wsX8_isBath := goodIn_ca (goodIn_r _ [6, 1, 7, 8, 5, 9, 31, 32, 33, 34, 35, 36, 37, 38, 39, 40, 41, 42, 43, 44, 45, 46, 47, 48] (by decide +kernel) (by decide +kernel)) (goodIn_sub (fun _ h => List.mem_cons_of_mem _ (List.mem_append_right _ h)) (by decide +kernel))
set_option maxRecDepth 20000 in
theorem gX8_bathByTemperature_X8_isBath : GoodIn wsX8_bathByTemperature (wsV RX8 98 RX8 yX8_isBath wsX8_isBath) := goodIn_app (goodIn_of _ (by decide +kernel)) ggX8_bathByTemperature_X8_isBath
set_option maxRecDepth 20000 in
theorem ggX8_bathByTemperature_X8_isThere : GoodIn wsX8_bathByTemperature wsX8_isThere := goodIn_r _ [13, 14, 31, 32, 33, 34, 35, 36, 37, 38, 39, 40, 41, 42, 43, 44, 45, 46, 47, 48] (by decide +kernel) (by decide +kernel)
set_option maxRecDepth 20000 in
theorem gX8_bathByTemperature_X8_isThere : GoodIn wsX8_bathByTemperature (wsV RX8 156 RX8 yX8_isThere wsX8_isThere) := goodIn_app (goodIn_of _ (by decide +kernel)) ggX8_bathByTemperature_X8_isThere
set_option maxRecDepth 20000 in
theorem ggX8_bathByTemperature_X8_isAhead : GoodIn wsX8_bathByTemperature wsX8_isAhead := goodIn_ca (goodIn_r _ [18, 19, 20, 21, 5, 22, 23, 24, 25, 26, 1, 27, 28, 29, 30, 31, 32, 33, 34, 35, 36, 37, 38, 39, 40, 41, 42, 43, 44, 45, 46, 47, 48] (by decide +kernel) (by decide +kernel)) (goodIn_sub (fun _ h => List.mem_cons_of_mem _ (List.mem_append_right _ h)) (by decide +kernel))
set_option maxRecDepth 20000 in
theorem gX8_bathByTemperature_X8_isAhead : GoodIn wsX8_bathByTemperature (wsV RX8 160 RX8 yX8_isAhead wsX8_isAhead) := goodIn_app (goodIn_of _ (by decide +kernel)) ggX8_bathByTemperature_X8_isAhead
theorem dX8_bathByTemperature_0 : decode cX8_bathByTemperature 0 = .ok (.iconst 0, 1) := by decide +kernel
theorem dX8_bathByTemperature_1 : decode cX8_bathByTemperature 1 = .ok (.istore_n 2, 1) := by decide +kernel
theorem dX8_bathByTemperature_2 : decode cX8_bathByTemperature 2 = .ok (.aload_n 0, 1) := by decide +kernel
theorem dX8_bathByTemperature_3 : decode cX8_bathByTemperature 3 = .ok (.aload_n 0, 1) := by decide +kernel
theorem dX8_bathByTemperature_4 : decode cX8_bathByTemperature 4 = .ok (.iload_n 1, 1) := by decide +kernel
theorem dX8_bathByTemperature_5 : decode cX8_bathByTemperature 5 = .ok (.invokevirtual 98, 3) := by decide +kernel
theorem dX8_bathByTemperature_8 : decode cX8_bathByTemperature 8 = .ok (.invokevirtual 156, 3) := by decide +kernel
theorem dX8_bathByTemperature_11 : decode cX8_bathByTemperature 11 = .ok (.istore_n 3, 1) := by decide +kernel
theorem dX8_bathByTemperature_12 : decode cX8_bathByTemperature 12 = .ok (.iconst 0, 1) := by decide +kernel
theorem dX8_bathByTemperature_13 : decode cX8_bathByTemperature 13 = .ok (.istore 4, 2) := by decide +kernel
theorem dX8_bathByTemperature_15 : decode cX8_bathByTemperature 15 = .ok (.iload 4, 2) := by decide +kernel
theorem dX8_bathByTemperature_17 : decode cX8_bathByTemperature 17 = .ok (.aload_n 0, 1) := by decide +kernel
theorem dX8_bathByTemperature_18 : decode cX8_bathByTemperature 18 = .ok (.getfield 9, 3) := by decide +kernel
theorem dX8_bathByTemperature_21 : decode cX8_bathByTemperature 21 = .ok (.iconst 0, 1) := by decide +kernel
theorem dX8_bathByTemperature_22 : decode cX8_bathByTemperature 22 = .ok (.iaload, 1) := by decide +kernel
theorem dX8_bathByTemperature_23 : decode cX8_bathByTemperature 23 = .ok (.if_icmp .ge 77, 3) := by decide +kernel
theorem dX8_bathByTemperature_26 : decode cX8_bathByTemperature 26 = .ok (.iload_n 3, 1) := by decide +kernel
theorem dX8_bathByTemperature_27 : decode cX8_bathByTemperature 27 = .ok (.ifCond .eq 73, 3) := by decide +kernel
theorem dX8_bathByTemperature_30 : decode cX8_bathByTemperature 30 = .ok (.iconst 0, 1) := by decide +kernel
theorem dX8_bathByTemperature_31 : decode cX8_bathByTemperature 31 = .ok (.istore 5, 2) := by decide +kernel
theorem dX8_bathByTemperature_33 : decode cX8_bathByTemperature 33 = .ok (.iconst 0, 1) := by decide +kernel
theorem dX8_bathByTemperature_34 : decode cX8_bathByTemperature 34 = .ok (.istore 6, 2) := by decide +kernel
theorem dX8_bathByTemperature_36 : decode cX8_bathByTemperature 36 = .ok (.iload 6, 2) := by decide +kernel
theorem dX8_bathByTemperature_38 : decode cX8_bathByTemperature 38 = .ok (.aload_n 0, 1) := by decide +kernel
theorem dX8_bathByTemperature_39 : decode cX8_bathByTemperature 39 = .ok (.getfield 9, 3) := by decide +kernel
theorem dX8_bathByTemperature_42 : decode cX8_bathByTemperature 42 = .ok (.iconst 0, 1) := by decide +kernel
theorem dX8_bathByTemperature_43 : decode cX8_bathByTemperature 43 = .ok (.iaload, 1) := by decide +kernel
theorem dX8_bathByTemperature_44 : decode cX8_bathByTemperature 44 = .ok (.if_icmp .ge 37, 3) := by decide +kernel
theorem dX8_bathByTemperature_47 : decode cX8_bathByTemperature 47 = .ok (.iload 5, 2) := by decide +kernel
theorem dX8_bathByTemperature_49 : decode cX8_bathByTemperature 49 = .ok (.iload 6, 2) := by decide +kernel
theorem dX8_bathByTemperature_51 : decode cX8_bathByTemperature 51 = .ok (.iload 4, 2) := by decide +kernel
theorem dX8_bathByTemperature_53 : decode cX8_bathByTemperature 53 = .ok (.if_icmp .eq 18, 3) := by decide +kernel
theorem dX8_bathByTemperature_56 : decode cX8_bathByTemperature 56 = .ok (.aload_n 0, 1) := by decide +kernel
theorem dX8_bathByTemperature_57 : decode cX8_bathByTemperature 57 = .ok (.iload 6, 2) := by decide +kernel
theorem dX8_bathByTemperature_59 : decode cX8_bathByTemperature 59 = .ok (.iload 4, 2) := by decide +kernel
theorem dX8_bathByTemperature_61 : decode cX8_bathByTemperature 61 = .ok (.invokevirtual 160, 3) := by decide +kernel
theorem dX8_bathByTemperature_64 : decode cX8_bathByTemperature 64 = .ok (.ifCond .eq 7, 3) := by decide +kernel
theorem dX8_bathByTemperature_67 : decode cX8_bathByTemperature 67 = .ok (.iconst 1, 1) := by decide +kernel
theorem dX8_bathByTemperature_68 : decode cX8_bathByTemperature 68 = .ok (.goto 4, 3) := by decide +kernel
theorem dX8_bathByTemperature_71 : decode cX8_bathByTemperature 71 = .ok (.iconst 0, 1) := by decide +kernel
theorem dX8_bathByTemperature_72 : decode cX8_bathByTemperature 72 = .ok (.iadd, 1) := by decide +kernel
theorem dX8_bathByTemperature_73 : decode cX8_bathByTemperature 73 = .ok (.istore 5, 2) := by decide +kernel
theorem dX8_bathByTemperature_75 : decode cX8_bathByTemperature 75 = .ok (.iinc 6 1, 3) := by decide +kernel
theorem dX8_bathByTemperature_78 : decode cX8_bathByTemperature 78 = .ok (.goto (-42), 3) := by decide +kernel
theorem dX8_bathByTemperature_81 : decode cX8_bathByTemperature 81 = .ok (.iload 5, 2) := by decide +kernel
theorem dX8_bathByTemperature_83 : decode cX8_bathByTemperature 83 = .ok (.iload_n 1, 1) := by decide +kernel
theorem dX8_bathByTemperature_84 : decode cX8_bathByTemperature 84 = .ok (.if_icmp .ne 8, 3) := by decide +kernel
theorem dX8_bathByTemperature_87 : decode cX8_bathByTemperature 87 = .ok (.iload 4, 2) := by decide +kernel
theorem dX8_bathByTemperature_89 : decode cX8_bathByTemperature 89 = .ok (.goto 4, 3) := by decide +kernel
theorem dX8_bathByTemperature_92 : decode cX8_bathByTemperature 92 = .ok (.iload_n 2, 1) := by decide +kernel
theorem dX8_bathByTemperature_93 : decode cX8_bathByTemperature 93 = .ok (.istore_n 2, 1) := by decide +kernel
theorem dX8_bathByTemperature_94 : decode cX8_bathByTemperature 94 = .ok (.iinc 4 1, 3) := by decide +kernel
theorem dX8_bathByTemperature_97 : decode cX8_bathByTemperature 97 = .ok (.goto (-82), 3) := by decide +kernel
theorem dX8_bathByTemperature_100 : decode cX8_bathByTemperature 100 = .ok (.iload_n 2, 1) := by decide +kernel
theorem dX8_bathByTemperature_101 : decode cX8_bathByTemperature 101 = .ok (.ireturn, 1) := by decide +kernel
set_option maxRecDepth 20000 in
theorem ggX8_litresToReach_X8_isBath : GoodIn wsX8_litresToReach wsX8_isBath := goodIn_ca (goodIn_r _ [6, 7, 8, 9, 5, 10, 26, 27, 28, 29, 30, 31, 32, 33, 34, 35, 36, 37, 38, 39, 40, 41, 42, 43] (by decide +kernel) (by decide +kernel)) (goodIn_sub (fun _ h => List.mem_cons_of_mem _ (List.mem_append_right _ h)) (by decide +kernel))
set_option maxRecDepth 20000 in
theorem gX8_litresToReach_X8_isBath : GoodIn wsX8_litresToReach (wsV RX8 98 RX8 yX8_isBath wsX8_isBath) := goodIn_app (goodIn_of _ (by decide +kernel)) ggX8_litresToReach_X8_isBath
set_option maxRecDepth 20000 in
theorem ggX8_litresToReach_X8_in : GoodIn wsX8_litresToReach wsX8_in := goodIn_r _ [10] (by decide +kernel) (by decide +kernel)
set_option maxRecDepth 20000 in
theorem gX8_litresToReach_X8_in : GoodIn wsX8_litresToReach (va_wsS RX8 54 yX8_in wsX8_in) := goodIn_app (goodIn_of _ (by decide +kernel)) ggX8_litresToReach_X8_in
set_option maxRecDepth 20000 in
theorem ggX8_litresToReach_X8_isWet : GoodIn wsX8_litresToReach wsX8_isWet := goodIn_ca (goodIn_r _ [14, 15, 16, 17, 5, 18, 7, 26, 27, 28, 29, 30, 31, 32, 33, 34, 35, 36, 37, 38, 39, 40, 41, 42, 43] (by decide +kernel) (by decide +kernel)) (goodIn_sub (fun _ h => List.mem_cons_of_mem _ (List.mem_append_right _ h)) (by decide +kernel))
set_option maxRecDepth 20000 in
theorem gX8_litresToReach_X8_isWet : GoodIn wsX8_litresToReach (wsV RX8 65 RX8 yX8_isWet wsX8_isWet) := goodIn_app (goodIn_of _ (by decide +kernel)) ggX8_litresToReach_X8_isWet
set_option maxRecDepth 20000 in
theorem ggX8_litresToReach_X8_of : GoodIn wsX8_litresToReach wsX8_of := goodIn_ca (goodIn_r _ [18, 7, 26, 27, 28, 29, 30, 31, 32, 33, 34, 35, 36, 37, 38, 39, 40, 41, 42, 43] (by decide +kernel) (by decide +kernel)) (goodIn_sub (fun _ h => List.mem_cons_of_mem _ (List.mem_append_right _ h)) (by decide +kernel))
set_option maxRecDepth 20000 in
theorem gX8_litresToReach_X8_of : GoodIn wsX8_litresToReach (wsV RX8 58 RX8 yX8_of wsX8_of) := goodIn_app (goodIn_of _ (by decide +kernel)) ggX8_litresToReach_X8_of
set_option maxRecDepth 20000 in
theorem ggX8_litresToReach_X8_tapDegrees : GoodIn wsX8_litresToReach wsX8_tapDegrees := goodIn_r _ [21] (by decide +kernel) (by decide +kernel)
set_option maxRecDepth 20000 in
theorem gX8_litresToReach_X8_tapDegrees : GoodIn wsX8_litresToReach (va_wsS RX8 101 yX8_tapDegrees wsX8_tapDegrees) := goodIn_app (goodIn_of _ (by decide +kernel)) ggX8_litresToReach_X8_tapDegrees
set_option maxRecDepth 20000 in
theorem ggX8_litresToReach_X8_fails : GoodIn wsX8_litresToReach wsX8_fails := goodIn_r _ [25, 1, 26, 27, 28, 29, 30, 31, 32, 33, 34, 35, 36, 37, 38, 39, 40, 41, 42, 43] (by decide +kernel) (by decide +kernel)
set_option maxRecDepth 20000 in
theorem gX8_litresToReach_X8_fails : GoodIn wsX8_litresToReach (wsV RX8 81 RX8 yX8_fails wsX8_fails) := goodIn_app (goodIn_of _ (by decide +kernel)) ggX8_litresToReach_X8_fails
theorem dX8_litresToReach_0 : decode cX8_litresToReach 0 = .ok (.aload_n 0, 1) := by decide +kernel
theorem dX8_litresToReach_1 : decode cX8_litresToReach 1 = .ok (.aload_n 0, 1) := by decide +kernel
theorem dX8_litresToReach_2 : decode cX8_litresToReach 2 = .ok (.iload_n 1, 1) := by decide +kernel
theorem dX8_litresToReach_3 : decode cX8_litresToReach 3 = .ok (.invokevirtual 98, 3) := by decide +kernel
theorem dX8_litresToReach_6 : decode cX8_litresToReach 6 = .ok (.ifCond .ne 7, 3) := by decide +kernel
theorem dX8_litresToReach_9 : decode cX8_litresToReach 9 = .ok (.iconst 1, 1) := by decide +kernel
theorem dX8_litresToReach_10 : decode cX8_litresToReach 10 = .ok (.goto 39, 3) := by decide +kernel
theorem dX8_litresToReach_13 : decode cX8_litresToReach 13 = .ok (.iload_n 2, 1) := by decide +kernel
theorem dX8_litresToReach_14 : decode cX8_litresToReach 14 = .ok (.iconst 0, 1) := by decide +kernel
theorem dX8_litresToReach_15 : decode cX8_litresToReach 15 = .ok (.iconst 2, 1) := by decide +kernel
theorem dX8_litresToReach_16 : decode cX8_litresToReach 16 = .ok (.invokestatic 54, 3) := by decide +kernel
theorem dX8_litresToReach_19 : decode cX8_litresToReach 19 = .ok (.ifCond .eq 13, 3) := by decide +kernel
theorem dX8_litresToReach_22 : decode cX8_litresToReach 22 = .ok (.iload_n 3, 1) := by decide +kernel
theorem dX8_litresToReach_23 : decode cX8_litresToReach 23 = .ok (.iconst 0, 1) := by decide +kernel
theorem dX8_litresToReach_24 : decode cX8_litresToReach 24 = .ok (.bipush 99, 2) := by decide +kernel
theorem dX8_litresToReach_26 : decode cX8_litresToReach 26 = .ok (.invokestatic 54, 3) := by decide +kernel
theorem dX8_litresToReach_29 : decode cX8_litresToReach 29 = .ok (.ifCond .ne 7, 3) := by decide +kernel
theorem dX8_litresToReach_32 : decode cX8_litresToReach 32 = .ok (.iconst 2, 1) := by decide +kernel
theorem dX8_litresToReach_33 : decode cX8_litresToReach 33 = .ok (.goto 16, 3) := by decide +kernel
theorem dX8_litresToReach_36 : decode cX8_litresToReach 36 = .ok (.aload_n 0, 1) := by decide +kernel
theorem dX8_litresToReach_37 : decode cX8_litresToReach 37 = .ok (.iload_n 1, 1) := by decide +kernel
theorem dX8_litresToReach_38 : decode cX8_litresToReach 38 = .ok (.invokevirtual 65, 3) := by decide +kernel
theorem dX8_litresToReach_41 : decode cX8_litresToReach 41 = .ok (.ifCond .ne 7, 3) := by decide +kernel
theorem dX8_litresToReach_44 : decode cX8_litresToReach 44 = .ok (.iconst 3, 1) := by decide +kernel
theorem dX8_litresToReach_45 : decode cX8_litresToReach 45 = .ok (.goto 4, 3) := by decide +kernel
theorem dX8_litresToReach_48 : decode cX8_litresToReach 48 = .ok (.iconst 0, 1) := by decide +kernel
theorem dX8_litresToReach_49 : decode cX8_litresToReach 49 = .ok (.putfield 42, 3) := by decide +kernel
theorem dX8_litresToReach_52 : decode cX8_litresToReach 52 = .ok (.aload_n 0, 1) := by decide +kernel
theorem dX8_litresToReach_53 : decode cX8_litresToReach 53 = .ok (.getfield 42, 3) := by decide +kernel
theorem dX8_litresToReach_56 : decode cX8_litresToReach 56 = .ok (.ifCond .le 5, 3) := by decide +kernel
theorem dX8_litresToReach_59 : decode cX8_litresToReach 59 = .ok (.iconst 0, 1) := by decide +kernel
theorem dX8_litresToReach_60 : decode cX8_litresToReach 60 = .ok (.ireturn, 1) := by decide +kernel
theorem dX8_litresToReach_61 : decode cX8_litresToReach 61 = .ok (.iconst 0, 1) := by decide +kernel
theorem dX8_litresToReach_62 : decode cX8_litresToReach 62 = .ok (.istore 4, 2) := by decide +kernel
theorem dX8_litresToReach_64 : decode cX8_litresToReach 64 = .ok (.aload_n 0, 1) := by decide +kernel
theorem dX8_litresToReach_65 : decode cX8_litresToReach 65 = .ok (.iload_n 1, 1) := by decide +kernel
theorem dX8_litresToReach_66 : decode cX8_litresToReach 66 = .ok (.iconst 0, 1) := by decide +kernel
theorem dX8_litresToReach_67 : decode cX8_litresToReach 67 = .ok (.invokevirtual 58, 3) := by decide +kernel
theorem dX8_litresToReach_70 : decode cX8_litresToReach 70 = .ok (.iload 4, 2) := by decide +kernel
theorem dX8_litresToReach_72 : decode cX8_litresToReach 72 = .ok (.iadd, 1) := by decide +kernel
theorem dX8_litresToReach_73 : decode cX8_litresToReach 73 = .ok (.bipush 100, 2) := by decide +kernel
theorem dX8_litresToReach_75 : decode cX8_litresToReach 75 = .ok (.if_icmp .gt 57, 3) := by decide +kernel
theorem dX8_litresToReach_78 : decode cX8_litresToReach 78 = .ok (.aload_n 0, 1) := by decide +kernel
theorem dX8_litresToReach_79 : decode cX8_litresToReach 79 = .ok (.iload_n 1, 1) := by decide +kernel
theorem dX8_litresToReach_80 : decode cX8_litresToReach 80 = .ok (.iconst 1, 1) := by decide +kernel
theorem dX8_litresToReach_81 : decode cX8_litresToReach 81 = .ok (.invokevirtual 58, 3) := by decide +kernel
theorem dX8_litresToReach_84 : decode cX8_litresToReach 84 = .ok (.iload 4, 2) := by decide +kernel
theorem dX8_litresToReach_86 : decode cX8_litresToReach 86 = .ok (.iload_n 2, 1) := by decide +kernel
theorem dX8_litresToReach_87 : decode cX8_litresToReach 87 = .ok (.invokestatic 101, 3) := by decide +kernel
theorem dX8_litresToReach_90 : decode cX8_litresToReach 90 = .ok (.imul, 1) := by decide +kernel
theorem dX8_litresToReach_91 : decode cX8_litresToReach 91 = .ok (.iadd, 1) := by decide +kernel
theorem dX8_litresToReach_92 : decode cX8_litresToReach 92 = .ok (.aload_n 0, 1) := by decide +kernel
theorem dX8_litresToReach_93 : decode cX8_litresToReach 93 = .ok (.iload_n 1, 1) := by decide +kernel
theorem dX8_litresToReach_94 : decode cX8_litresToReach 94 = .ok (.iconst 0, 1) := by decide +kernel
theorem dX8_litresToReach_95 : decode cX8_litresToReach 95 = .ok (.invokevirtual 58, 3) := by decide +kernel
theorem dX8_litresToReach_98 : decode cX8_litresToReach 98 = .ok (.iload 4, 2) := by decide +kernel
theorem dX8_litresToReach_100 : decode cX8_litresToReach 100 = .ok (.iadd, 1) := by decide +kernel
theorem dX8_litresToReach_101 : decode cX8_litresToReach 101 = .ok (.idiv, 1) := by decide +kernel
theorem dX8_litresToReach_102 : decode cX8_litresToReach 102 = .ok (.istore 5, 2) := by decide +kernel
theorem dX8_litresToReach_104 : decode cX8_litresToReach 104 = .ok (.iload_n 2, 1) := by decide +kernel
theorem dX8_litresToReach_105 : decode cX8_litresToReach 105 = .ok (.ifCond .ne 12, 3) := by decide +kernel
theorem dX8_litresToReach_108 : decode cX8_litresToReach 108 = .ok (.iload 5, 2) := by decide +kernel
theorem dX8_litresToReach_110 : decode cX8_litresToReach 110 = .ok (.iload_n 3, 1) := by decide +kernel
theorem dX8_litresToReach_111 : decode cX8_litresToReach 111 = .ok (.if_icmp .gt 15, 3) := by decide +kernel
theorem dX8_litresToReach_114 : decode cX8_litresToReach 114 = .ok (.goto 9, 3) := by decide +kernel
theorem dX8_litresToReach_117 : decode cX8_litresToReach 117 = .ok (.iload 5, 2) := by decide +kernel
theorem dX8_litresToReach_119 : decode cX8_litresToReach 119 = .ok (.iload_n 3, 1) := by decide +kernel
theorem dX8_litresToReach_120 : decode cX8_litresToReach 120 = .ok (.if_icmp .lt 6, 3) := by decide +kernel
theorem dX8_litresToReach_123 : decode cX8_litresToReach 123 = .ok (.iload 4, 2) := by decide +kernel
theorem dX8_litresToReach_125 : decode cX8_litresToReach 125 = .ok (.ireturn, 1) := by decide +kernel
theorem dX8_litresToReach_126 : decode cX8_litresToReach 126 = .ok (.iinc 4 1, 3) := by decide +kernel
theorem dX8_litresToReach_129 : decode cX8_litresToReach 129 = .ok (.goto (-65), 3) := by decide +kernel
theorem dX8_litresToReach_132 : decode cX8_litresToReach 132 = .ok (.aload_n 0, 1) := by decide +kernel
theorem dX8_litresToReach_133 : decode cX8_litresToReach 133 = .ok (.iconst 4, 1) := by decide +kernel
theorem dX8_litresToReach_134 : decode cX8_litresToReach 134 = .ok (.invokevirtual 81, 3) := by decide +kernel
theorem dX8_litresToReach_137 : decode cX8_litresToReach 137 = .ok (.ireturn, 1) := by decide +kernel
set_option maxRecDepth 20000 in
theorem ggX8_litresToReachByFormula_X8_litresToReach : GoodIn wsX8_litresToReachByFormula wsX8_litresToReach := goodIn_ca (goodIn_ca (goodIn_r _ [5, 6, 7, 8, 9, 4, 10, 11, 12, 13, 14, 15, 16, 17, 18, 19, 20, 21, 22, 23, 24, 25, 26, 27, 28, 29, 30, 31, 32, 33, 34, 35, 36, 37, 38, 39, 40, 41, 42, 43, 44, 45, 46, 47] (by decide +kernel) (by decide +kernel)) (goodIn_sub (fun _ h => List.mem_cons_of_mem _ (List.mem_append_left _ (List.mem_append_right _ h))) (by decide +kernel))) (goodIn_sub (fun _ h => List.mem_cons_of_mem _ (List.mem_append_right _ h)) (by decide +kernel))
set_option maxRecDepth 20000 in
theorem gX8_litresToReachByFormula_X8_litresToReach : GoodIn wsX8_litresToReachByFormula (wsV RX8 164 RX8 yX8_litresToReach wsX8_litresToReach) := goodIn_app (goodIn_of _ (by decide +kernel)) ggX8_litresToReachByFormula_X8_litresToReach
theorem dX8_litresToReachByFormula_0 : decode cX8_litresToReachByFormula 0 = .ok (.aload_n 0, 1) := by decide +kernel
theorem dX8_litresToReachByFormula_1 : decode cX8_litresToReachByFormula 1 = .ok (.iload_n 1, 1) := by decide +kernel
theorem dX8_litresToReachByFormula_2 : decode cX8_litresToReachByFormula 2 = .ok (.iload_n 2, 1) := by decide +kernel
theorem dX8_litresToReachByFormula_3 : decode cX8_litresToReachByFormula 3 = .ok (.iload_n 3, 1) := by decide +kernel
theorem dX8_litresToReachByFormula_4 : decode cX8_litresToReachByFormula 4 = .ok (.invokevirtual 164, 3) := by decide +kernel
theorem dX8_litresToReachByFormula_7 : decode cX8_litresToReachByFormula 7 = .ok (.ireturn, 1) := by decide +kernel
set_option maxRecDepth 20000 in
theorem ggX8_isMember_X8_isBath : GoodIn wsX8_isMember wsX8_isBath := goodIn_ca (goodIn_r _ [5, 6, 7, 8, 4, 9, 19, 20, 21, 22, 23, 24, 25, 26, 27, 28, 29, 30, 31, 32, 33, 34, 35, 36] (by decide +kernel) (by decide +kernel)) (goodIn_sub (fun _ h => List.mem_cons_of_mem _ (List.mem_append_right _ h)) (by decide +kernel))
set_option maxRecDepth 20000 in
theorem gX8_isMember_X8_isBath : GoodIn wsX8_isMember (wsV RX8 98 RX8 yX8_isBath wsX8_isBath) := goodIn_app (goodIn_of _ (by decide +kernel)) ggX8_isMember_X8_isBath
set_option maxRecDepth 20000 in
theorem ggX8_isMember_X8_isThere : GoodIn wsX8_isMember wsX8_isThere := goodIn_r _ [13, 14, 19, 20, 21, 22, 23, 24, 25, 26, 27, 28, 29, 30, 31, 32, 33, 34, 35, 36] (by decide +kernel) (by decide +kernel)
set_option maxRecDepth 20000 in
theorem gX8_isMember_X8_isThere : GoodIn wsX8_isMember (wsV RX8 156 RX8 yX8_isThere wsX8_isThere) := goodIn_app (goodIn_of _ (by decide +kernel)) ggX8_isMember_X8_isThere
set_option maxRecDepth 20000 in
theorem ggX8_isMember_X8_of : GoodIn wsX8_isMember wsX8_of := goodIn_ca (goodIn_r _ [18, 6, 19, 20, 21, 22, 23, 24, 25, 26, 27, 28, 29, 30, 31, 32, 33, 34, 35, 36] (by decide +kernel) (by decide +kernel)) (goodIn_sub (fun _ h => List.mem_cons_of_mem _ (List.mem_append_right _ h)) (by decide +kernel))
set_option maxRecDepth 20000 in
theorem gX8_isMember_X8_of : GoodIn wsX8_isMember (wsV RX8 58 RX8 yX8_of wsX8_of) := goodIn_app (goodIn_of _ (by decide +kernel)) ggX8_isMember_X8_of
theorem dX8_isMember_0 : decode cX8_isMember 0 = .ok (.aload_n 0, 1) := by decide +kernel
theorem dX8_isMember_1 : decode cX8_isMember 1 = .ok (.aload_n 0, 1) := by decide +kernel
theorem dX8_isMember_2 : decode cX8_isMember 2 = .ok (.iload_n 1, 1) := by decide +kernel
theorem dX8_isMember_3 : decode cX8_isMember 3 = .ok (.invokevirtual 98, 3) := by decide +kernel
theorem dX8_isMember_6 : decode cX8_isMember 6 = .ok (.invokevirtual 156, 3) := by decide +kernel
theorem dX8_isMember_9 : decode cX8_isMember 9 = .ok (.ifCond .eq 17, 3) := by decide +kernel
theorem dX8_isMember_12 : decode cX8_isMember 12 = .ok (.aload_n 0, 1) := by decide +kernel
theorem dX8_isMember_13 : decode cX8_isMember 13 = .ok (.iload_n 1, 1) := by decide +kernel
theorem dX8_isMember_14 : decode cX8_isMember 14 = .ok (.iconst 3, 1) := by decide +kernel
theorem dX8_isMember_15 : decode cX8_isMember 15 = .ok (.invokevirtual 58, 3) := by decide +kernel
theorem dX8_isMember_18 : decode cX8_isMember 18 = .ok (.iconst 1, 1) := by decide +kernel
theorem dX8_isMember_19 : decode cX8_isMember 19 = .ok (.if_icmp .ne 7, 3) := by decide +kernel
theorem dX8_isMember_22 : decode cX8_isMember 22 = .ok (.iconst 1, 1) := by decide +kernel
theorem dX8_isMember_23 : decode cX8_isMember 23 = .ok (.goto 4, 3) := by decide +kernel
theorem dX8_isMember_26 : decode cX8_isMember 26 = .ok (.iconst 0, 1) := by decide +kernel
theorem dX8_isMember_27 : decode cX8_isMember 27 = .ok (.ireturn, 1) := by decide +kernel
set_option maxRecDepth 20000 in
theorem ggX8_memberCount_X8_members : GoodIn wsX8_memberCount wsX8_members := goodIn_ca (goodIn_r _ [6, 7, 8, 9, 10, 5, 11, 12, 13, 14, 15, 16, 17, 18, 19, 20, 21, 22, 23, 24, 25, 26, 27, 28, 29] (by decide +kernel) (by decide +kernel)) (goodIn_sub (fun _ h => List.mem_cons_of_mem _ (List.mem_append_right _ h)) (by decide +kernel))
set_option maxRecDepth 20000 in
theorem gX8_memberCount_X8_members : GoodIn wsX8_memberCount (wsV RX8 125 RX8 yX8_members wsX8_members) := goodIn_app (goodIn_of _ (by decide +kernel)) ggX8_memberCount_X8_members
theorem dX8_memberCount_0 : decode cX8_memberCount 0 = .ok (.aload_n 0, 1) := by decide +kernel
theorem dX8_memberCount_1 : decode cX8_memberCount 1 = .ok (.iconst 0, 1) := by decide +kernel
theorem dX8_memberCount_2 : decode cX8_memberCount 2 = .ok (.putfield 42, 3) := by decide +kernel
theorem dX8_memberCount_5 : decode cX8_memberCount 5 = .ok (.aload_n 0, 1) := by decide +kernel
theorem dX8_memberCount_6 : decode cX8_memberCount 6 = .ok (.invokevirtual 125, 3) := by decide +kernel
theorem dX8_memberCount_9 : decode cX8_memberCount 9 = .ok (.ireturn, 1) := by decide +kernel
set_option maxRecDepth 20000 in
theorem ggX8_leagueHeat_X8_of : GoodIn wsX8_leagueHeat wsX8_of := goodIn_ca (goodIn_r _ [7, 2, 8, 9, 10, 11, 12, 13, 14, 15, 16, 17, 18, 19, 20, 21, 22, 23, 24, 25] (by decide +kernel) (by decide +kernel)) (goodIn_sub (fun _ h => List.mem_cons_of_mem _ (List.mem_append_right _ h)) (by decide +kernel))
set_option maxRecDepth 20000 in
theorem gX8_leagueHeat_X8_of : GoodIn wsX8_leagueHeat (wsV RX8 58 RX8 yX8_of wsX8_of) := goodIn_app (goodIn_of _ (by decide +kernel)) ggX8_leagueHeat_X8_of
theorem dX8_leagueHeat_0 : decode cX8_leagueHeat 0 = .ok (.aload_n 0, 1) := by decide +kernel
theorem dX8_leagueHeat_1 : decode cX8_leagueHeat 1 = .ok (.iconst 0, 1) := by decide +kernel
theorem dX8_leagueHeat_2 : decode cX8_leagueHeat 2 = .ok (.putfield 42, 3) := by decide +kernel
theorem dX8_leagueHeat_5 : decode cX8_leagueHeat 5 = .ok (.iconst 0, 1) := by decide +kernel
theorem dX8_leagueHeat_6 : decode cX8_leagueHeat 6 = .ok (.istore_n 1, 1) := by decide +kernel
theorem dX8_leagueHeat_7 : decode cX8_leagueHeat 7 = .ok (.iconst 0, 1) := by decide +kernel
theorem dX8_leagueHeat_8 : decode cX8_leagueHeat 8 = .ok (.istore_n 2, 1) := by decide +kernel
theorem dX8_leagueHeat_9 : decode cX8_leagueHeat 9 = .ok (.iload_n 2, 1) := by decide +kernel
theorem dX8_leagueHeat_10 : decode cX8_leagueHeat 10 = .ok (.aload_n 0, 1) := by decide +kernel
theorem dX8_leagueHeat_11 : decode cX8_leagueHeat 11 = .ok (.getfield 9, 3) := by decide +kernel
theorem dX8_leagueHeat_14 : decode cX8_leagueHeat 14 = .ok (.iconst 0, 1) := by decide +kernel
theorem dX8_leagueHeat_15 : decode cX8_leagueHeat 15 = .ok (.iaload, 1) := by decide +kernel
theorem dX8_leagueHeat_16 : decode cX8_leagueHeat 16 = .ok (.if_icmp .ge 25, 3) := by decide +kernel
theorem dX8_leagueHeat_19 : decode cX8_leagueHeat 19 = .ok (.iload_n 1, 1) := by decide +kernel
theorem dX8_leagueHeat_20 : decode cX8_leagueHeat 20 = .ok (.aload_n 0, 1) := by decide +kernel
theorem dX8_leagueHeat_21 : decode cX8_leagueHeat 21 = .ok (.iload_n 2, 1) := by decide +kernel
theorem dX8_leagueHeat_22 : decode cX8_leagueHeat 22 = .ok (.iconst 3, 1) := by decide +kernel
theorem dX8_leagueHeat_23 : decode cX8_leagueHeat 23 = .ok (.invokevirtual 58, 3) := by decide +kernel
theorem dX8_leagueHeat_26 : decode cX8_leagueHeat 26 = .ok (.aload_n 0, 1) := by decide +kernel
theorem dX8_leagueHeat_27 : decode cX8_leagueHeat 27 = .ok (.iload_n 2, 1) := by decide +kernel
theorem dX8_leagueHeat_28 : decode cX8_leagueHeat 28 = .ok (.iconst 1, 1) := by decide +kernel
theorem dX8_leagueHeat_29 : decode cX8_leagueHeat 29 = .ok (.invokevirtual 58, 3) := by decide +kernel
theorem dX8_leagueHeat_32 : decode cX8_leagueHeat 32 = .ok (.imul, 1) := by decide +kernel
theorem dX8_leagueHeat_33 : decode cX8_leagueHeat 33 = .ok (.iadd, 1) := by decide +kernel
theorem dX8_leagueHeat_34 : decode cX8_leagueHeat 34 = .ok (.istore_n 1, 1) := by decide +kernel
theorem dX8_leagueHeat_35 : decode cX8_leagueHeat 35 = .ok (.iinc 2 1, 3) := by decide +kernel
theorem dX8_leagueHeat_38 : decode cX8_leagueHeat 38 = .ok (.goto (-29), 3) := by decide +kernel
theorem dX8_leagueHeat_41 : decode cX8_leagueHeat 41 = .ok (.iload_n 1, 1) := by decide +kernel
theorem dX8_leagueHeat_42 : decode cX8_leagueHeat 42 = .ok (.ireturn, 1) := by decide +kernel
set_option maxRecDepth 20000 in
theorem ggX8_leagueHeatByOthers_X8_leagueHeat : GoodIn wsX8_leagueHeatByOthers wsX8_leagueHeat := goodIn_ca (goodIn_r _ [5, 6, 7, 8, 9, 10, 4, 11, 12, 13, 14, 15, 16, 17, 18, 19, 20, 21, 22, 23, 24, 25, 26, 27, 28, 29] (by decide +kernel) (by decide +kernel)) (goodIn_sub (fun _ h => List.mem_cons_of_mem _ (List.mem_append_right _ h)) (by decide +kernel))
set_option maxRecDepth 20000 in
theorem gX8_leagueHeatByOthers_X8_leagueHeat : GoodIn wsX8_leagueHeatByOthers (wsV RX8 167 RX8 yX8_leagueHeat wsX8_leagueHeat) := goodIn_app (goodIn_of _ (by decide +kernel)) ggX8_leagueHeatByOthers_X8_leagueHeat
theorem dX8_leagueHeatByOthers_0 : decode cX8_leagueHeatByOthers 0 = .ok (.aload_n 0, 1) := by decide +kernel
theorem dX8_leagueHeatByOthers_1 : decode cX8_leagueHeatByOthers 1 = .ok (.invokevirtual 167, 3) := by decide +kernel
theorem dX8_leagueHeatByOthers_4 : decode cX8_leagueHeatByOthers 4 = .ok (.ireturn, 1) := by decide +kernel
set_option maxRecDepth 20000 in
theorem ggX8_warmestMember_X8_extreme : GoodIn wsX8_warmestMember wsX8_extreme := goodIn_ca (goodIn_r _ [5, 6, 7, 8, 9, 4, 10, 11, 12, 13, 14, 15, 16, 17, 18, 24, 25, 26, 27, 28, 29, 30, 31, 32, 33, 34, 35, 36, 37, 38, 39, 40, 41] (by decide +kernel) (by decide +kernel)) (goodIn_sub (fun _ h => List.mem_cons_of_mem _ (List.mem_append_right _ h)) (by decide +kernel))
set_option maxRecDepth 20000 in
theorem gX8_warmestMember_X8_extreme : GoodIn wsX8_warmestMember (wsV RX8 137 RX8 yX8_extreme wsX8_extreme) := goodIn_app (goodIn_of _ (by decide +kernel)) ggX8_warmestMember_X8_extreme
set_option maxRecDepth 20000 in
theorem ggX8_warmestMember_X8_isThere : GoodIn wsX8_warmestMember wsX8_isThere := goodIn_r _ [22, 23, 24, 25, 26, 27, 28, 29, 30, 31, 32, 33, 34, 35, 36, 37, 38, 39, 40, 41] (by decide +kernel) (by decide +kernel)
set_option maxRecDepth 20000 in
theorem gX8_warmestMember_X8_isThere : GoodIn wsX8_warmestMember (wsV RX8 156 RX8 yX8_isThere wsX8_isThere) := goodIn_app (goodIn_of _ (by decide +kernel)) ggX8_warmestMember_X8_isThere
theorem dX8_warmestMember_0 : decode cX8_warmestMember 0 = .ok (.aload_n 0, 1) := by decide +kernel
theorem dX8_warmestMember_1 : decode cX8_warmestMember 1 = .ok (.iconst 1, 1) := by decide +kernel
theorem dX8_warmestMember_2 : decode cX8_warmestMember 2 = .ok (.invokevirtual 137, 3) := by decide +kernel
theorem dX8_warmestMember_5 : decode cX8_warmestMember 5 = .ok (.istore_n 1, 1) := by decide +kernel
theorem dX8_warmestMember_6 : decode cX8_warmestMember 6 = .ok (.aload_n 0, 1) := by decide +kernel
theorem dX8_warmestMember_7 : decode cX8_warmestMember 7 = .ok (.iload_n 1, 1) := by decide +kernel
theorem dX8_warmestMember_8 : decode cX8_warmestMember 8 = .ok (.ifCond .lt 7, 3) := by decide +kernel
theorem dX8_warmestMember_11 : decode cX8_warmestMember 11 = .ok (.iconst 1, 1) := by decide +kernel
theorem dX8_warmestMember_12 : decode cX8_warmestMember 12 = .ok (.goto 4, 3) := by decide +kernel
theorem dX8_warmestMember_15 : decode cX8_warmestMember 15 = .ok (.iconst 0, 1) := by decide +kernel
theorem dX8_warmestMember_16 : decode cX8_warmestMember 16 = .ok (.invokevirtual 156, 3) := by decide +kernel
theorem dX8_warmestMember_19 : decode cX8_warmestMember 19 = .ok (.ifCond .eq 7, 3) := by decide +kernel
theorem dX8_warmestMember_22 : decode cX8_warmestMember 22 = .ok (.iload_n 1, 1) := by decide +kernel
theorem dX8_warmestMember_23 : decode cX8_warmestMember 23 = .ok (.goto 4, 3) := by decide +kernel
theorem dX8_warmestMember_26 : decode cX8_warmestMember 26 = .ok (.iconst 0, 1) := by decide +kernel
theorem dX8_warmestMember_27 : decode cX8_warmestMember 27 = .ok (.ireturn, 1) := by decide +kernel
set_option maxRecDepth 20000 in
theorem ggX8_coldestMember_X8_extreme : GoodIn wsX8_coldestMember wsX8_extreme := goodIn_ca (goodIn_r _ [5, 6, 7, 8, 9, 4, 10, 11, 12, 13, 14, 15, 16, 17, 18, 24, 25, 26, 27, 28, 29, 30, 31, 32, 33, 34, 35, 36, 37, 38, 39, 40, 41] (by decide +kernel) (by decide +kernel)) (goodIn_sub (fun _ h => List.mem_cons_of_mem _ (List.mem_append_right _ h)) (by decide +kernel))
set_option maxRecDepth 20000 in
theorem gX8_coldestMember_X8_extreme : GoodIn wsX8_coldestMember (wsV RX8 137 RX8 yX8_extreme wsX8_extreme) := goodIn_app (goodIn_of _ (by decide +kernel)) ggX8_coldestMember_X8_extreme
set_option maxRecDepth 20000 in
theorem ggX8_coldestMember_X8_isThere : GoodIn wsX8_coldestMember wsX8_isThere := goodIn_r _ [22, 23, 24, 25, 26, 27, 28, 29, 30, 31, 32, 33, 34, 35, 36, 37, 38, 39, 40, 41] (by decide +kernel) (by decide +kernel)
set_option maxRecDepth 20000 in
theorem gX8_coldestMember_X8_isThere : GoodIn wsX8_coldestMember (wsV RX8 156 RX8 yX8_isThere wsX8_isThere) := goodIn_app (goodIn_of _ (by decide +kernel)) ggX8_coldestMember_X8_isThere
theorem dX8_coldestMember_0 : decode cX8_coldestMember 0 = .ok (.aload_n 0, 1) := by decide +kernel
theorem dX8_coldestMember_1 : decode cX8_coldestMember 1 = .ok (.iconst (-1), 1) := by decide +kernel
theorem dX8_coldestMember_2 : decode cX8_coldestMember 2 = .ok (.invokevirtual 137, 3) := by decide +kernel
theorem dX8_coldestMember_5 : decode cX8_coldestMember 5 = .ok (.istore_n 1, 1) := by decide +kernel
theorem dX8_coldestMember_6 : decode cX8_coldestMember 6 = .ok (.aload_n 0, 1) := by decide +kernel
theorem dX8_coldestMember_7 : decode cX8_coldestMember 7 = .ok (.iload_n 1, 1) := by decide +kernel
theorem dX8_coldestMember_8 : decode cX8_coldestMember 8 = .ok (.ifCond .lt 7, 3) := by decide +kernel
theorem dX8_coldestMember_11 : decode cX8_coldestMember 11 = .ok (.iconst 1, 1) := by decide +kernel
theorem dX8_coldestMember_12 : decode cX8_coldestMember 12 = .ok (.goto 4, 3) := by decide +kernel
theorem dX8_coldestMember_15 : decode cX8_coldestMember 15 = .ok (.iconst 0, 1) := by decide +kernel
theorem dX8_coldestMember_16 : decode cX8_coldestMember 16 = .ok (.invokevirtual 156, 3) := by decide +kernel
theorem dX8_coldestMember_19 : decode cX8_coldestMember 19 = .ok (.ifCond .eq 7, 3) := by decide +kernel
theorem dX8_coldestMember_22 : decode cX8_coldestMember 22 = .ok (.iload_n 1, 1) := by decide +kernel
theorem dX8_coldestMember_23 : decode cX8_coldestMember 23 = .ok (.goto 4, 3) := by decide +kernel
theorem dX8_coldestMember_26 : decode cX8_coldestMember 26 = .ok (.iconst 0, 1) := by decide +kernel
theorem dX8_coldestMember_27 : decode cX8_coldestMember 27 = .ok (.ireturn, 1) := by decide +kernel
set_option maxRecDepth 20000 in
theorem ggX8_sharedHeat_X8_wetMembers : GoodIn wsX8_sharedHeat wsX8_wetMembers := goodIn_ca (goodIn_r _ [5, 6, 7, 8, 9, 4, 10, 11, 12, 13, 14, 36, 37, 38, 39, 40, 41, 42, 43, 44, 45, 46, 47, 48, 49, 50, 51, 52, 53] (by decide +kernel) (by decide +kernel)) (goodIn_sub (fun _ h => List.mem_cons_of_mem _ (List.mem_append_left _ (List.mem_append_right _ h))) (by decide +kernel))
set_option maxRecDepth 20000 in
theorem gX8_sharedHeat_X8_wetMembers : GoodIn wsX8_sharedHeat (wsV RX8 144 RX8 yX8_wetMembers wsX8_wetMembers) := goodIn_app (goodIn_of _ (by decide +kernel)) ggX8_sharedHeat_X8_wetMembers
set_option maxRecDepth 20000 in
theorem ggX8_sharedHeat_X8_isThere : GoodIn wsX8_sharedHeat wsX8_isThere := goodIn_r _ [18, 19, 36, 37, 38, 39, 40, 41, 42, 43, 44, 45, 46, 47, 48, 49, 50, 51, 52, 53] (by decide +kernel) (by decide +kernel)
set_option maxRecDepth 20000 in
theorem gX8_sharedHeat_X8_isThere : GoodIn wsX8_sharedHeat (wsV RX8 156 RX8 yX8_isThere wsX8_isThere) := goodIn_app (goodIn_of _ (by decide +kernel)) ggX8_sharedHeat_X8_isThere
set_option maxRecDepth 20000 in
theorem ggX8_sharedHeat_X8_shared : GoodIn wsX8_sharedHeat wsX8_shared := goodIn_ca (goodIn_ca (goodIn_r _ [23, 24, 25, 26, 27, 28, 29, 30, 4, 31, 6, 7, 8, 9, 10, 11, 12, 13, 14, 32, 33, 34, 35, 36, 37, 38, 39, 40, 41, 42, 43, 44, 45, 46, 47, 48, 49, 50, 51, 52, 53] (by decide +kernel) (by decide +kernel)) (goodIn_sub (fun _ h => List.mem_cons_of_mem _ (List.mem_append_right _ h)) (by decide +kernel))) (goodIn_sub (fun _ h => List.mem_cons_of_mem _ (List.mem_append_left _ (List.mem_append_right _ h))) (by decide +kernel))
set_option maxRecDepth 20000 in
theorem gX8_sharedHeat_X8_shared : GoodIn wsX8_sharedHeat (wsV RX8 147 RX8 yX8_shared wsX8_shared) := goodIn_app (goodIn_of _ (by decide +kernel)) ggX8_sharedHeat_X8_shared
theorem dX8_sharedHeat_0 : decode cX8_sharedHeat 0 = .ok (.aload_n 0, 1) := by decide +kernel
theorem dX8_sharedHeat_1 : decode cX8_sharedHeat 1 = .ok (.aload_n 0, 1) := by decide +kernel
theorem dX8_sharedHeat_2 : decode cX8_sharedHeat 2 = .ok (.invokevirtual 144, 3) := by decide +kernel
theorem dX8_sharedHeat_5 : decode cX8_sharedHeat 5 = .ok (.iconst 1, 1) := by decide +kernel
theorem dX8_sharedHeat_6 : decode cX8_sharedHeat 6 = .ok (.if_icmp .le 7, 3) := by decide +kernel
theorem dX8_sharedHeat_9 : decode cX8_sharedHeat 9 = .ok (.iconst 1, 1) := by decide +kernel
theorem dX8_sharedHeat_10 : decode cX8_sharedHeat 10 = .ok (.goto 4, 3) := by decide +kernel
theorem dX8_sharedHeat_13 : decode cX8_sharedHeat 13 = .ok (.iconst 0, 1) := by decide +kernel
theorem dX8_sharedHeat_14 : decode cX8_sharedHeat 14 = .ok (.invokevirtual 156, 3) := by decide +kernel
theorem dX8_sharedHeat_17 : decode cX8_sharedHeat 17 = .ok (.ifCond .eq 10, 3) := by decide +kernel
theorem dX8_sharedHeat_20 : decode cX8_sharedHeat 20 = .ok (.aload_n 0, 1) := by decide +kernel
theorem dX8_sharedHeat_21 : decode cX8_sharedHeat 21 = .ok (.invokevirtual 147, 3) := by decide +kernel
theorem dX8_sharedHeat_24 : decode cX8_sharedHeat 24 = .ok (.goto 4, 3) := by decide +kernel
theorem dX8_sharedHeat_27 : decode cX8_sharedHeat 27 = .ok (.iconst 0, 1) := by decide +kernel
theorem dX8_sharedHeat_28 : decode cX8_sharedHeat 28 = .ok (.ireturn, 1) := by decide +kernel
set_option maxRecDepth 20000 in
theorem ggX8_ticksUntilDefection_X8_isBath : GoodIn wsX8_ticksUntilDefection wsX8_isBath := goodIn_ca (goodIn_r _ [12, 2, 13, 14, 11, 15, 76, 77, 78, 79, 80, 81, 82, 83, 84, 85, 86, 87, 88, 89, 90, 91, 92, 93] (by decide +kernel) (by decide +kernel)) (goodIn_sub (fun _ h => List.mem_cons_of_mem _ (List.mem_append_left _ (List.mem_append_right _ h))) (by decide +kernel))
set_option maxRecDepth 20000 in
theorem gX8_ticksUntilDefection_X8_isBath : GoodIn wsX8_ticksUntilDefection (wsV RX8 98 RX8 yX8_isBath wsX8_isBath) := goodIn_app (goodIn_of _ (by decide +kernel)) ggX8_ticksUntilDefection_X8_isBath
set_option maxRecDepth 20000 in
theorem ggX8_ticksUntilDefection_X8_of : GoodIn wsX8_ticksUntilDefection wsX8_of := goodIn_ca (goodIn_r _ [19, 2, 76, 77, 78, 79, 80, 81, 82, 83, 84, 85, 86, 87, 88, 89, 90, 91, 92, 93] (by decide +kernel) (by decide +kernel)) (goodIn_sub (fun _ h => List.mem_cons_of_mem _ (List.mem_append_left _ (List.mem_append_right _ h))) (by decide +kernel))
set_option maxRecDepth 20000 in
theorem gX8_ticksUntilDefection_X8_of : GoodIn wsX8_ticksUntilDefection (wsV RX8 58 RX8 yX8_of wsX8_of) := goodIn_app (goodIn_of _ (by decide +kernel)) ggX8_ticksUntilDefection_X8_of
set_option maxRecDepth 20000 in
theorem ggX8_ticksUntilDefection_X8_tick : GoodIn wsX8_ticksUntilDefection wsX8_tick := goodIn_ca (goodIn_ca (goodIn_r _ [23, 2, 24, 25, 26, 27, 28, 29, 30, 11, 31, 16, 17, 18, 19, 32, 33, 34, 35, 36, 37, 38, 39, 40, 41, 42, 43, 44, 45, 46, 47, 48, 49, 50, 51, 52, 53, 54, 55, 56, 57, 58, 59, 60, 61, 62, 63, 4, 5, 6, 7, 64, 65, 66, 67, 68, 69, 70, 71, 72, 73, 74, 75, 13, 14, 15, 76, 77, 78, 79, 80, 81, 82, 83, 84, 85, 86, 87, 88, 89, 90, 91, 92, 93] (by decide +kernel) (by decide +kernel)) (goodIn_sub (fun _ h => List.mem_cons_of_mem _ (List.mem_append_left _ (List.mem_append_right _ h))) (by decide +kernel))) (goodIn_sub (fun _ h => List.mem_cons_of_mem _ (List.mem_append_right _ h)) (by decide +kernel))
set_option maxRecDepth 20000 in
theorem gX8_ticksUntilDefection_X8_tick : GoodIn wsX8_ticksUntilDefection (wsV RX8 150 RX8 yX8_tick wsX8_tick) := goodIn_app (goodIn_of _ (by decide +kernel)) ggX8_ticksUntilDefection_X8_tick
theorem dX8_ticksUntilDefection_0 : decode cX8_ticksUntilDefection 0 = .ok (.aload_n 0, 1) := by decide +kernel
theorem dX8_ticksUntilDefection_1 : decode cX8_ticksUntilDefection 1 = .ok (.aload_n 0, 1) := by decide +kernel
theorem dX8_ticksUntilDefection_2 : decode cX8_ticksUntilDefection 2 = .ok (.iload_n 1, 1) := by decide +kernel
theorem dX8_ticksUntilDefection_3 : decode cX8_ticksUntilDefection 3 = .ok (.invokevirtual 98, 3) := by decide +kernel
theorem dX8_ticksUntilDefection_6 : decode cX8_ticksUntilDefection 6 = .ok (.ifCond .ne 7, 3) := by decide +kernel
theorem dX8_ticksUntilDefection_9 : decode cX8_ticksUntilDefection 9 = .ok (.iconst 1, 1) := by decide +kernel
theorem dX8_ticksUntilDefection_10 : decode cX8_ticksUntilDefection 10 = .ok (.goto 17, 3) := by decide +kernel
theorem dX8_ticksUntilDefection_13 : decode cX8_ticksUntilDefection 13 = .ok (.aload_n 0, 1) := by decide +kernel
theorem dX8_ticksUntilDefection_14 : decode cX8_ticksUntilDefection 14 = .ok (.iload_n 1, 1) := by decide +kernel
theorem dX8_ticksUntilDefection_15 : decode cX8_ticksUntilDefection 15 = .ok (.iconst 3, 1) := by decide +kernel
theorem dX8_ticksUntilDefection_16 : decode cX8_ticksUntilDefection 16 = .ok (.invokevirtual 58, 3) := by decide +kernel
theorem dX8_ticksUntilDefection_19 : decode cX8_ticksUntilDefection 19 = .ok (.ifCond .ne 7, 3) := by decide +kernel
theorem dX8_ticksUntilDefection_22 : decode cX8_ticksUntilDefection 22 = .ok (.iconst 2, 1) := by decide +kernel
theorem dX8_ticksUntilDefection_23 : decode cX8_ticksUntilDefection 23 = .ok (.goto 4, 3) := by decide +kernel
theorem dX8_ticksUntilDefection_26 : decode cX8_ticksUntilDefection 26 = .ok (.iconst 0, 1) := by decide +kernel
theorem dX8_ticksUntilDefection_27 : decode cX8_ticksUntilDefection 27 = .ok (.putfield 42, 3) := by decide +kernel
theorem dX8_ticksUntilDefection_30 : decode cX8_ticksUntilDefection 30 = .ok (.aload_n 0, 1) := by decide +kernel
theorem dX8_ticksUntilDefection_31 : decode cX8_ticksUntilDefection 31 = .ok (.getfield 42, 3) := by decide +kernel
theorem dX8_ticksUntilDefection_34 : decode cX8_ticksUntilDefection 34 = .ok (.ifCond .le 5, 3) := by decide +kernel
theorem dX8_ticksUntilDefection_37 : decode cX8_ticksUntilDefection 37 = .ok (.iconst 0, 1) := by decide +kernel
theorem dX8_ticksUntilDefection_38 : decode cX8_ticksUntilDefection 38 = .ok (.ireturn, 1) := by decide +kernel
theorem dX8_ticksUntilDefection_39 : decode cX8_ticksUntilDefection 39 = .ok (.aload_n 0, 1) := by decide +kernel
theorem dX8_ticksUntilDefection_40 : decode cX8_ticksUntilDefection 40 = .ok (.getfield 9, 3) := by decide +kernel
theorem dX8_ticksUntilDefection_43 : decode cX8_ticksUntilDefection 43 = .ok (.iconst 0, 1) := by decide +kernel
theorem dX8_ticksUntilDefection_44 : decode cX8_ticksUntilDefection 44 = .ok (.aload_n 0, 1) := by decide +kernel
theorem dX8_ticksUntilDefection_45 : decode cX8_ticksUntilDefection 45 = .ok (.getfield 16, 3) := by decide +kernel
theorem dX8_ticksUntilDefection_48 : decode cX8_ticksUntilDefection 48 = .ok (.iconst 0, 1) := by decide +kernel
theorem dX8_ticksUntilDefection_49 : decode cX8_ticksUntilDefection 49 = .ok (.bipush 89, 2) := by decide +kernel
theorem dX8_ticksUntilDefection_51 : decode cX8_ticksUntilDefection 51 = .ok (.invokestatic 45, 3) := by decide +kernel
theorem dX8_ticksUntilDefection_54 : decode cX8_ticksUntilDefection 54 = .ok (.iconst 0, 1) := by decide +kernel
theorem dX8_ticksUntilDefection_55 : decode cX8_ticksUntilDefection 55 = .ok (.istore_n 2, 1) := by decide +kernel
theorem dX8_ticksUntilDefection_56 : decode cX8_ticksUntilDefection 56 = .ok (.iload_n 2, 1) := by decide +kernel
theorem dX8_ticksUntilDefection_57 : decode cX8_ticksUntilDefection 57 = .ok (.bipush 60, 2) := by decide +kernel
theorem dX8_ticksUntilDefection_59 : decode cX8_ticksUntilDefection 59 = .ok (.if_icmp .ge 24, 3) := by decide +kernel
theorem dX8_ticksUntilDefection_62 : decode cX8_ticksUntilDefection 62 = .ok (.aload_n 0, 1) := by decide +kernel
theorem dX8_ticksUntilDefection_63 : decode cX8_ticksUntilDefection 63 = .ok (.iload_n 1, 1) := by decide +kernel
theorem dX8_ticksUntilDefection_64 : decode cX8_ticksUntilDefection 64 = .ok (.iconst 3, 1) := by decide +kernel
theorem dX8_ticksUntilDefection_65 : decode cX8_ticksUntilDefection 65 = .ok (.invokevirtual 58, 3) := by decide +kernel
theorem dX8_ticksUntilDefection_68 : decode cX8_ticksUntilDefection 68 = .ok (.iconst 1, 1) := by decide +kernel
theorem dX8_ticksUntilDefection_69 : decode cX8_ticksUntilDefection 69 = .ok (.if_icmp .ne 14, 3) := by decide +kernel
theorem dX8_ticksUntilDefection_72 : decode cX8_ticksUntilDefection 72 = .ok (.aload_n 0, 1) := by decide +kernel
theorem dX8_ticksUntilDefection_73 : decode cX8_ticksUntilDefection 73 = .ok (.invokevirtual 150, 3) := by decide +kernel
theorem dX8_ticksUntilDefection_76 : decode cX8_ticksUntilDefection 76 = .ok (.istore_n 3, 1) := by decide +kernel
theorem dX8_ticksUntilDefection_77 : decode cX8_ticksUntilDefection 77 = .ok (.iinc 2 1, 3) := by decide +kernel
theorem dX8_ticksUntilDefection_80 : decode cX8_ticksUntilDefection 80 = .ok (.goto (-24), 3) := by decide +kernel
theorem dX8_ticksUntilDefection_83 : decode cX8_ticksUntilDefection 83 = .ok (.aload_n 0, 1) := by decide +kernel
theorem dX8_ticksUntilDefection_84 : decode cX8_ticksUntilDefection 84 = .ok (.aload_n 0, 1) := by decide +kernel
theorem dX8_ticksUntilDefection_85 : decode cX8_ticksUntilDefection 85 = .ok (.iload_n 1, 1) := by decide +kernel
theorem dX8_ticksUntilDefection_86 : decode cX8_ticksUntilDefection 86 = .ok (.iconst 3, 1) := by decide +kernel
theorem dX8_ticksUntilDefection_87 : decode cX8_ticksUntilDefection 87 = .ok (.invokevirtual 58, 3) := by decide +kernel
theorem dX8_ticksUntilDefection_90 : decode cX8_ticksUntilDefection 90 = .ok (.iconst 1, 1) := by decide +kernel
theorem dX8_ticksUntilDefection_91 : decode cX8_ticksUntilDefection 91 = .ok (.if_icmp .ne 7, 3) := by decide +kernel
theorem dX8_ticksUntilDefection_94 : decode cX8_ticksUntilDefection 94 = .ok (.iconst 3, 1) := by decide +kernel
theorem dX8_ticksUntilDefection_95 : decode cX8_ticksUntilDefection 95 = .ok (.goto 4, 3) := by decide +kernel
theorem dX8_ticksUntilDefection_98 : decode cX8_ticksUntilDefection 98 = .ok (.iconst 0, 1) := by decide +kernel
theorem dX8_ticksUntilDefection_99 : decode cX8_ticksUntilDefection 99 = .ok (.putfield 42, 3) := by decide +kernel
theorem dX8_ticksUntilDefection_102 : decode cX8_ticksUntilDefection 102 = .ok (.aload_n 0, 1) := by decide +kernel
theorem dX8_ticksUntilDefection_103 : decode cX8_ticksUntilDefection 103 = .ok (.getfield 16, 3) := by decide +kernel
theorem dX8_ticksUntilDefection_106 : decode cX8_ticksUntilDefection 106 = .ok (.iconst 0, 1) := by decide +kernel
theorem dX8_ticksUntilDefection_107 : decode cX8_ticksUntilDefection 107 = .ok (.aload_n 0, 1) := by decide +kernel
theorem dX8_ticksUntilDefection_108 : decode cX8_ticksUntilDefection 108 = .ok (.getfield 9, 3) := by decide +kernel
theorem dX8_ticksUntilDefection_111 : decode cX8_ticksUntilDefection 111 = .ok (.iconst 0, 1) := by decide +kernel
theorem dX8_ticksUntilDefection_112 : decode cX8_ticksUntilDefection 112 = .ok (.bipush 89, 2) := by decide +kernel
theorem dX8_ticksUntilDefection_114 : decode cX8_ticksUntilDefection 114 = .ok (.invokestatic 45, 3) := by decide +kernel
theorem dX8_ticksUntilDefection_117 : decode cX8_ticksUntilDefection 117 = .ok (.aload_n 0, 1) := by decide +kernel
theorem dX8_ticksUntilDefection_118 : decode cX8_ticksUntilDefection 118 = .ok (.getfield 42, 3) := by decide +kernel
theorem dX8_ticksUntilDefection_121 : decode cX8_ticksUntilDefection 121 = .ok (.ifCond .le 7, 3) := by decide +kernel
theorem dX8_ticksUntilDefection_124 : decode cX8_ticksUntilDefection 124 = .ok (.iconst 0, 1) := by decide +kernel
theorem dX8_ticksUntilDefection_125 : decode cX8_ticksUntilDefection 125 = .ok (.goto 4, 3) := by decide +kernel
theorem dX8_ticksUntilDefection_128 : decode cX8_ticksUntilDefection 128 = .ok (.iload_n 2, 1) := by decide +kernel
theorem dX8_ticksUntilDefection_129 : decode cX8_ticksUntilDefection 129 = .ok (.ireturn, 1) := by decide +kernel
set_option maxRecDepth 20000 in
theorem ggX8_heatAfter_X8_isBath : GoodIn wsX8_heatAfter wsX8_isBath := goodIn_ca (goodIn_r _ [12, 2, 13, 14, 11, 15, 76, 77, 78, 79, 80, 81, 82, 83, 84, 85, 86, 87, 88, 89, 90, 91, 92, 93] (by decide +kernel) (by decide +kernel)) (goodIn_sub (fun _ h => List.mem_cons_of_mem _ (List.mem_append_left _ (List.mem_append_right _ h))) (by decide +kernel))
set_option maxRecDepth 20000 in
theorem gX8_heatAfter_X8_isBath : GoodIn wsX8_heatAfter (wsV RX8 98 RX8 yX8_isBath wsX8_isBath) := goodIn_app (goodIn_of _ (by decide +kernel)) ggX8_heatAfter_X8_isBath
set_option maxRecDepth 20000 in
theorem ggX8_heatAfter_X8_in : GoodIn wsX8_heatAfter wsX8_in := goodIn_r _ [15] (by decide +kernel) (by decide +kernel)
set_option maxRecDepth 20000 in
theorem gX8_heatAfter_X8_in : GoodIn wsX8_heatAfter (va_wsS RX8 54 yX8_in wsX8_in) := goodIn_app (goodIn_of _ (by decide +kernel)) ggX8_heatAfter_X8_in
set_option maxRecDepth 20000 in
theorem ggX8_heatAfter_X8_tick : GoodIn wsX8_heatAfter wsX8_tick := goodIn_ca (goodIn_ca (goodIn_r _ [19, 2, 20, 21, 22, 23, 24, 25, 26, 11, 27, 28, 29, 30, 31, 32, 33, 34, 35, 36, 37, 38, 39, 40, 41, 42, 43, 44, 45, 46, 47, 48, 49, 50, 51, 52, 53, 54, 55, 56, 57, 58, 59, 60, 61, 62, 63, 4, 5, 6, 7, 64, 65, 66, 67, 68, 69, 70, 71, 72, 73, 74, 75, 13, 14, 15, 76, 77, 78, 79, 80, 81, 82, 83, 84, 85, 86, 87, 88, 89, 90, 91, 92, 93] (by decide +kernel) (by decide +kernel)) (goodIn_sub (fun _ h => List.mem_cons_of_mem _ (List.mem_append_left _ (List.mem_append_right _ h))) (by decide +kernel))) (goodIn_sub (fun _ h => List.mem_cons_of_mem _ (List.mem_append_right _ h)) (by decide +kernel))
set_option maxRecDepth 20000 in
theorem gX8_heatAfter_X8_tick : GoodIn wsX8_heatAfter (wsV RX8 150 RX8 yX8_tick wsX8_tick) := goodIn_app (goodIn_of _ (by decide +kernel)) ggX8_heatAfter_X8_tick
set_option maxRecDepth 20000 in
theorem ggX8_heatAfter_X8_of : GoodIn wsX8_heatAfter wsX8_of := goodIn_ca (goodIn_r _ [31, 2, 76, 77, 78, 79, 80, 81, 82, 83, 84, 85, 86, 87, 88, 89, 90, 91, 92, 93] (by decide +kernel) (by decide +kernel)) (goodIn_sub (fun _ h => List.mem_cons_of_mem _ (List.mem_append_left _ (List.mem_append_right _ h))) (by decide +kernel))
set_option maxRecDepth 20000 in
theorem gX8_heatAfter_X8_of : GoodIn wsX8_heatAfter (wsV RX8 58 RX8 yX8_of wsX8_of) := goodIn_app (goodIn_of _ (by decide +kernel)) ggX8_heatAfter_X8_of
theorem dX8_heatAfter_0 : decode cX8_heatAfter 0 = .ok (.aload_n 0, 1) := by decide +kernel
theorem dX8_heatAfter_1 : decode cX8_heatAfter 1 = .ok (.aload_n 0, 1) := by decide +kernel
theorem dX8_heatAfter_2 : decode cX8_heatAfter 2 = .ok (.iload_n 1, 1) := by decide +kernel
theorem dX8_heatAfter_3 : decode cX8_heatAfter 3 = .ok (.invokevirtual 98, 3) := by decide +kernel
theorem dX8_heatAfter_6 : decode cX8_heatAfter 6 = .ok (.ifCond .ne 7, 3) := by decide +kernel
theorem dX8_heatAfter_9 : decode cX8_heatAfter 9 = .ok (.iconst 1, 1) := by decide +kernel
theorem dX8_heatAfter_10 : decode cX8_heatAfter 10 = .ok (.goto 18, 3) := by decide +kernel
theorem dX8_heatAfter_13 : decode cX8_heatAfter 13 = .ok (.iload_n 2, 1) := by decide +kernel
theorem dX8_heatAfter_14 : decode cX8_heatAfter 14 = .ok (.iconst 0, 1) := by decide +kernel
theorem dX8_heatAfter_15 : decode cX8_heatAfter 15 = .ok (.bipush 60, 2) := by decide +kernel
theorem dX8_heatAfter_17 : decode cX8_heatAfter 17 = .ok (.invokestatic 54, 3) := by decide +kernel
theorem dX8_heatAfter_20 : decode cX8_heatAfter 20 = .ok (.ifCond .ne 7, 3) := by decide +kernel
theorem dX8_heatAfter_23 : decode cX8_heatAfter 23 = .ok (.iconst 2, 1) := by decide +kernel
theorem dX8_heatAfter_24 : decode cX8_heatAfter 24 = .ok (.goto 4, 3) := by decide +kernel
theorem dX8_heatAfter_27 : decode cX8_heatAfter 27 = .ok (.iconst 0, 1) := by decide +kernel
theorem dX8_heatAfter_28 : decode cX8_heatAfter 28 = .ok (.putfield 42, 3) := by decide +kernel
theorem dX8_heatAfter_31 : decode cX8_heatAfter 31 = .ok (.aload_n 0, 1) := by decide +kernel
theorem dX8_heatAfter_32 : decode cX8_heatAfter 32 = .ok (.getfield 42, 3) := by decide +kernel
theorem dX8_heatAfter_35 : decode cX8_heatAfter 35 = .ok (.ifCond .le 5, 3) := by decide +kernel
theorem dX8_heatAfter_38 : decode cX8_heatAfter 38 = .ok (.iconst 0, 1) := by decide +kernel
theorem dX8_heatAfter_39 : decode cX8_heatAfter 39 = .ok (.ireturn, 1) := by decide +kernel
theorem dX8_heatAfter_40 : decode cX8_heatAfter 40 = .ok (.aload_n 0, 1) := by decide +kernel
theorem dX8_heatAfter_41 : decode cX8_heatAfter 41 = .ok (.getfield 9, 3) := by decide +kernel
theorem dX8_heatAfter_44 : decode cX8_heatAfter 44 = .ok (.iconst 0, 1) := by decide +kernel
theorem dX8_heatAfter_45 : decode cX8_heatAfter 45 = .ok (.aload_n 0, 1) := by decide +kernel
theorem dX8_heatAfter_46 : decode cX8_heatAfter 46 = .ok (.getfield 16, 3) := by decide +kernel
theorem dX8_heatAfter_49 : decode cX8_heatAfter 49 = .ok (.iconst 0, 1) := by decide +kernel
theorem dX8_heatAfter_50 : decode cX8_heatAfter 50 = .ok (.bipush 89, 2) := by decide +kernel
theorem dX8_heatAfter_52 : decode cX8_heatAfter 52 = .ok (.invokestatic 45, 3) := by decide +kernel
theorem dX8_heatAfter_55 : decode cX8_heatAfter 55 = .ok (.iconst 0, 1) := by decide +kernel
theorem dX8_heatAfter_56 : decode cX8_heatAfter 56 = .ok (.istore_n 3, 1) := by decide +kernel
theorem dX8_heatAfter_57 : decode cX8_heatAfter 57 = .ok (.iload_n 3, 1) := by decide +kernel
theorem dX8_heatAfter_58 : decode cX8_heatAfter 58 = .ok (.iload_n 2, 1) := by decide +kernel
theorem dX8_heatAfter_59 : decode cX8_heatAfter 59 = .ok (.if_icmp .ge 15, 3) := by decide +kernel
theorem dX8_heatAfter_62 : decode cX8_heatAfter 62 = .ok (.aload_n 0, 1) := by decide +kernel
theorem dX8_heatAfter_63 : decode cX8_heatAfter 63 = .ok (.invokevirtual 150, 3) := by decide +kernel
theorem dX8_heatAfter_66 : decode cX8_heatAfter 66 = .ok (.istore 4, 2) := by decide +kernel
theorem dX8_heatAfter_68 : decode cX8_heatAfter 68 = .ok (.iinc 3 1, 3) := by decide +kernel
theorem dX8_heatAfter_71 : decode cX8_heatAfter 71 = .ok (.goto (-14), 3) := by decide +kernel
theorem dX8_heatAfter_74 : decode cX8_heatAfter 74 = .ok (.aload_n 0, 1) := by decide +kernel
theorem dX8_heatAfter_75 : decode cX8_heatAfter 75 = .ok (.iload_n 1, 1) := by decide +kernel
theorem dX8_heatAfter_76 : decode cX8_heatAfter 76 = .ok (.iconst 1, 1) := by decide +kernel
theorem dX8_heatAfter_77 : decode cX8_heatAfter 77 = .ok (.invokevirtual 58, 3) := by decide +kernel
theorem dX8_heatAfter_80 : decode cX8_heatAfter 80 = .ok (.istore_n 3, 1) := by decide +kernel
theorem dX8_heatAfter_81 : decode cX8_heatAfter 81 = .ok (.aload_n 0, 1) := by decide +kernel
theorem dX8_heatAfter_82 : decode cX8_heatAfter 82 = .ok (.getfield 16, 3) := by decide +kernel
theorem dX8_heatAfter_85 : decode cX8_heatAfter 85 = .ok (.iconst 0, 1) := by decide +kernel
theorem dX8_heatAfter_86 : decode cX8_heatAfter 86 = .ok (.aload_n 0, 1) := by decide +kernel
theorem dX8_heatAfter_87 : decode cX8_heatAfter 87 = .ok (.getfield 9, 3) := by decide +kernel
theorem dX8_heatAfter_90 : decode cX8_heatAfter 90 = .ok (.iconst 0, 1) := by decide +kernel
theorem dX8_heatAfter_91 : decode cX8_heatAfter 91 = .ok (.bipush 89, 2) := by decide +kernel
theorem dX8_heatAfter_93 : decode cX8_heatAfter 93 = .ok (.invokestatic 45, 3) := by decide +kernel
theorem dX8_heatAfter_96 : decode cX8_heatAfter 96 = .ok (.iload_n 3, 1) := by decide +kernel
theorem dX8_heatAfter_97 : decode cX8_heatAfter 97 = .ok (.ireturn, 1) := by decide +kernel
theorem dX8_duckCount_0 : decode cX8_duckCount 0 = .ok (.aload_n 0, 1) := by decide +kernel
theorem dX8_duckCount_1 : decode cX8_duckCount 1 = .ok (.iconst 0, 1) := by decide +kernel
theorem dX8_duckCount_2 : decode cX8_duckCount 2 = .ok (.putfield 42, 3) := by decide +kernel
theorem dX8_duckCount_5 : decode cX8_duckCount 5 = .ok (.aload_n 0, 1) := by decide +kernel
theorem dX8_duckCount_6 : decode cX8_duckCount 6 = .ok (.getfield 9, 3) := by decide +kernel
theorem dX8_duckCount_9 : decode cX8_duckCount 9 = .ok (.iconst 1, 1) := by decide +kernel
theorem dX8_duckCount_10 : decode cX8_duckCount 10 = .ok (.iaload, 1) := by decide +kernel
theorem dX8_duckCount_11 : decode cX8_duckCount 11 = .ok (.ireturn, 1) := by decide +kernel
set_option maxRecDepth 20000 in
theorem ggX8_observedBath_X8_isDuck : GoodIn wsX8_observedBath wsX8_isDuck := goodIn_ca (goodIn_r _ [5, 6, 7, 8, 4, 9, 19, 20, 21, 22, 23, 24, 25, 26, 27, 28, 29, 30, 31, 32, 33, 34, 35, 36] (by decide +kernel) (by decide +kernel)) (goodIn_sub (fun _ h => List.mem_cons_of_mem _ (List.mem_append_right _ h)) (by decide +kernel))
set_option maxRecDepth 20000 in
theorem gX8_observedBath_X8_isDuck : GoodIn wsX8_observedBath (wsV RX8 170 RX8 yX8_isDuck wsX8_isDuck) := goodIn_app (goodIn_of _ (by decide +kernel)) ggX8_observedBath_X8_isDuck
set_option maxRecDepth 20000 in
theorem ggX8_observedBath_X8_isThere : GoodIn wsX8_observedBath wsX8_isThere := goodIn_r _ [13, 14, 19, 20, 21, 22, 23, 24, 25, 26, 27, 28, 29, 30, 31, 32, 33, 34, 35, 36] (by decide +kernel) (by decide +kernel)
set_option maxRecDepth 20000 in
theorem gX8_observedBath_X8_isThere : GoodIn wsX8_observedBath (wsV RX8 156 RX8 yX8_isThere wsX8_isThere) := goodIn_app (goodIn_of _ (by decide +kernel)) ggX8_observedBath_X8_isThere
set_option maxRecDepth 20000 in
theorem ggX8_observedBath_X8_ofDuck : GoodIn wsX8_observedBath wsX8_ofDuck := goodIn_ca (goodIn_r _ [18, 6, 19, 20, 21, 22, 23, 24, 25, 26, 27, 28, 29, 30, 31, 32, 33, 34, 35, 36] (by decide +kernel) (by decide +kernel)) (goodIn_sub (fun _ h => List.mem_cons_of_mem _ (List.mem_append_right _ h)) (by decide +kernel))
set_option maxRecDepth 20000 in
theorem gX8_observedBath_X8_ofDuck : GoodIn wsX8_observedBath (wsV RX8 62 RX8 yX8_ofDuck wsX8_ofDuck) := goodIn_app (goodIn_of _ (by decide +kernel)) ggX8_observedBath_X8_ofDuck
theorem dX8_observedBath_0 : decode cX8_observedBath 0 = .ok (.aload_n 0, 1) := by decide +kernel
theorem dX8_observedBath_1 : decode cX8_observedBath 1 = .ok (.aload_n 0, 1) := by decide +kernel
theorem dX8_observedBath_2 : decode cX8_observedBath 2 = .ok (.iload_n 1, 1) := by decide +kernel
theorem dX8_observedBath_3 : decode cX8_observedBath 3 = .ok (.invokevirtual 170, 3) := by decide +kernel
theorem dX8_observedBath_6 : decode cX8_observedBath 6 = .ok (.invokevirtual 156, 3) := by decide +kernel
theorem dX8_observedBath_9 : decode cX8_observedBath 9 = .ok (.ifCond .eq 12, 3) := by decide +kernel
theorem dX8_observedBath_12 : decode cX8_observedBath 12 = .ok (.aload_n 0, 1) := by decide +kernel
theorem dX8_observedBath_13 : decode cX8_observedBath 13 = .ok (.iload_n 1, 1) := by decide +kernel
theorem dX8_observedBath_14 : decode cX8_observedBath 14 = .ok (.iconst 0, 1) := by decide +kernel
theorem dX8_observedBath_15 : decode cX8_observedBath 15 = .ok (.invokevirtual 62, 3) := by decide +kernel
theorem dX8_observedBath_18 : decode cX8_observedBath 18 = .ok (.goto 4, 3) := by decide +kernel
theorem dX8_observedBath_21 : decode cX8_observedBath 21 = .ok (.iconst 0, 1) := by decide +kernel
theorem dX8_observedBath_22 : decode cX8_observedBath 22 = .ok (.ireturn, 1) := by decide +kernel
set_option maxRecDepth 20000 in
theorem ggX8_lowerBound_X8_isDuck : GoodIn wsX8_lowerBound wsX8_isDuck := goodIn_ca (goodIn_r _ [5, 6, 7, 8, 4, 9, 19, 20, 21, 22, 23, 24, 25, 26, 27, 28, 29, 30, 31, 32, 33, 34, 35, 36] (by decide +kernel) (by decide +kernel)) (goodIn_sub (fun _ h => List.mem_cons_of_mem _ (List.mem_append_right _ h)) (by decide +kernel))
set_option maxRecDepth 20000 in
theorem gX8_lowerBound_X8_isDuck : GoodIn wsX8_lowerBound (wsV RX8 170 RX8 yX8_isDuck wsX8_isDuck) := goodIn_app (goodIn_of _ (by decide +kernel)) ggX8_lowerBound_X8_isDuck
set_option maxRecDepth 20000 in
theorem ggX8_lowerBound_X8_isThere : GoodIn wsX8_lowerBound wsX8_isThere := goodIn_r _ [13, 14, 19, 20, 21, 22, 23, 24, 25, 26, 27, 28, 29, 30, 31, 32, 33, 34, 35, 36] (by decide +kernel) (by decide +kernel)
set_option maxRecDepth 20000 in
theorem gX8_lowerBound_X8_isThere : GoodIn wsX8_lowerBound (wsV RX8 156 RX8 yX8_isThere wsX8_isThere) := goodIn_app (goodIn_of _ (by decide +kernel)) ggX8_lowerBound_X8_isThere
set_option maxRecDepth 20000 in
theorem ggX8_lowerBound_X8_ofDuck : GoodIn wsX8_lowerBound wsX8_ofDuck := goodIn_ca (goodIn_r _ [18, 6, 19, 20, 21, 22, 23, 24, 25, 26, 27, 28, 29, 30, 31, 32, 33, 34, 35, 36] (by decide +kernel) (by decide +kernel)) (goodIn_sub (fun _ h => List.mem_cons_of_mem _ (List.mem_append_right _ h)) (by decide +kernel))
set_option maxRecDepth 20000 in
theorem gX8_lowerBound_X8_ofDuck : GoodIn wsX8_lowerBound (wsV RX8 62 RX8 yX8_ofDuck wsX8_ofDuck) := goodIn_app (goodIn_of _ (by decide +kernel)) ggX8_lowerBound_X8_ofDuck
theorem dX8_lowerBound_0 : decode cX8_lowerBound 0 = .ok (.aload_n 0, 1) := by decide +kernel
theorem dX8_lowerBound_1 : decode cX8_lowerBound 1 = .ok (.aload_n 0, 1) := by decide +kernel
theorem dX8_lowerBound_2 : decode cX8_lowerBound 2 = .ok (.iload_n 1, 1) := by decide +kernel
theorem dX8_lowerBound_3 : decode cX8_lowerBound 3 = .ok (.invokevirtual 170, 3) := by decide +kernel
theorem dX8_lowerBound_6 : decode cX8_lowerBound 6 = .ok (.invokevirtual 156, 3) := by decide +kernel
theorem dX8_lowerBound_9 : decode cX8_lowerBound 9 = .ok (.ifCond .eq 12, 3) := by decide +kernel
theorem dX8_lowerBound_12 : decode cX8_lowerBound 12 = .ok (.aload_n 0, 1) := by decide +kernel
theorem dX8_lowerBound_13 : decode cX8_lowerBound 13 = .ok (.iload_n 1, 1) := by decide +kernel
theorem dX8_lowerBound_14 : decode cX8_lowerBound 14 = .ok (.iconst 1, 1) := by decide +kernel
theorem dX8_lowerBound_15 : decode cX8_lowerBound 15 = .ok (.invokevirtual 62, 3) := by decide +kernel
theorem dX8_lowerBound_18 : decode cX8_lowerBound 18 = .ok (.goto 4, 3) := by decide +kernel
theorem dX8_lowerBound_21 : decode cX8_lowerBound 21 = .ok (.iconst 0, 1) := by decide +kernel
theorem dX8_lowerBound_22 : decode cX8_lowerBound 22 = .ok (.ireturn, 1) := by decide +kernel
set_option maxRecDepth 20000 in
theorem ggX8_upperBound_X8_isDuck : GoodIn wsX8_upperBound wsX8_isDuck := goodIn_ca (goodIn_r _ [5, 6, 7, 8, 4, 9, 19, 20, 21, 22, 23, 24, 25, 26, 27, 28, 29, 30, 31, 32, 33, 34, 35, 36] (by decide +kernel) (by decide +kernel)) (goodIn_sub (fun _ h => List.mem_cons_of_mem _ (List.mem_append_right _ h)) (by decide +kernel))
set_option maxRecDepth 20000 in
theorem gX8_upperBound_X8_isDuck : GoodIn wsX8_upperBound (wsV RX8 170 RX8 yX8_isDuck wsX8_isDuck) := goodIn_app (goodIn_of _ (by decide +kernel)) ggX8_upperBound_X8_isDuck
set_option maxRecDepth 20000 in
theorem ggX8_upperBound_X8_isThere : GoodIn wsX8_upperBound wsX8_isThere := goodIn_r _ [13, 14, 19, 20, 21, 22, 23, 24, 25, 26, 27, 28, 29, 30, 31, 32, 33, 34, 35, 36] (by decide +kernel) (by decide +kernel)
set_option maxRecDepth 20000 in
theorem gX8_upperBound_X8_isThere : GoodIn wsX8_upperBound (wsV RX8 156 RX8 yX8_isThere wsX8_isThere) := goodIn_app (goodIn_of _ (by decide +kernel)) ggX8_upperBound_X8_isThere
set_option maxRecDepth 20000 in
theorem ggX8_upperBound_X8_ofDuck : GoodIn wsX8_upperBound wsX8_ofDuck := goodIn_ca (goodIn_r _ [18, 6, 19, 20, 21, 22, 23, 24, 25, 26, 27, 28, 29, 30, 31, 32, 33, 34, 35, 36] (by decide +kernel) (by decide +kernel)) (goodIn_sub (fun _ h => List.mem_cons_of_mem _ (List.mem_append_right _ h)) (by decide +kernel))
set_option maxRecDepth 20000 in
theorem gX8_upperBound_X8_ofDuck : GoodIn wsX8_upperBound (wsV RX8 62 RX8 yX8_ofDuck wsX8_ofDuck) := goodIn_app (goodIn_of _ (by decide +kernel)) ggX8_upperBound_X8_ofDuck
theorem dX8_upperBound_0 : decode cX8_upperBound 0 = .ok (.aload_n 0, 1) := by decide +kernel
theorem dX8_upperBound_1 : decode cX8_upperBound 1 = .ok (.aload_n 0, 1) := by decide +kernel
theorem dX8_upperBound_2 : decode cX8_upperBound 2 = .ok (.iload_n 1, 1) := by decide +kernel
theorem dX8_upperBound_3 : decode cX8_upperBound 3 = .ok (.invokevirtual 170, 3) := by decide +kernel
theorem dX8_upperBound_6 : decode cX8_upperBound 6 = .ok (.invokevirtual 156, 3) := by decide +kernel
theorem dX8_upperBound_9 : decode cX8_upperBound 9 = .ok (.ifCond .eq 12, 3) := by decide +kernel
theorem dX8_upperBound_12 : decode cX8_upperBound 12 = .ok (.aload_n 0, 1) := by decide +kernel
theorem dX8_upperBound_13 : decode cX8_upperBound 13 = .ok (.iload_n 1, 1) := by decide +kernel
theorem dX8_upperBound_14 : decode cX8_upperBound 14 = .ok (.iconst 2, 1) := by decide +kernel
theorem dX8_upperBound_15 : decode cX8_upperBound 15 = .ok (.invokevirtual 62, 3) := by decide +kernel
theorem dX8_upperBound_18 : decode cX8_upperBound 18 = .ok (.goto 4, 3) := by decide +kernel
theorem dX8_upperBound_21 : decode cX8_upperBound 21 = .ok (.iconst 0, 1) := by decide +kernel
theorem dX8_upperBound_22 : decode cX8_upperBound 22 = .ok (.ireturn, 1) := by decide +kernel
set_option maxRecDepth 20000 in
theorem ggX8_isContent_X8_isDuck : GoodIn wsX8_isContent wsX8_isDuck := goodIn_ca (goodIn_r _ [5, 6, 7, 8, 4, 9, 35, 36, 37, 38, 39, 40, 41, 42, 43, 44, 45, 46, 47, 48, 49, 50, 51, 52] (by decide +kernel) (by decide +kernel)) (goodIn_sub (fun _ h => List.mem_cons_of_mem _ (List.mem_append_left _ (List.mem_append_right _ h))) (by decide +kernel))
set_option maxRecDepth 20000 in
theorem gX8_isContent_X8_isDuck : GoodIn wsX8_isContent (wsV RX8 170 RX8 yX8_isDuck wsX8_isDuck) := goodIn_app (goodIn_of _ (by decide +kernel)) ggX8_isContent_X8_isDuck
set_option maxRecDepth 20000 in
theorem ggX8_isContent_X8_isThere : GoodIn wsX8_isContent wsX8_isThere := goodIn_r _ [13, 14, 35, 36, 37, 38, 39, 40, 41, 42, 43, 44, 45, 46, 47, 48, 49, 50, 51, 52] (by decide +kernel) (by decide +kernel)
set_option maxRecDepth 20000 in
theorem gX8_isContent_X8_isThere : GoodIn wsX8_isContent (wsV RX8 156 RX8 yX8_isThere wsX8_isThere) := goodIn_app (goodIn_of _ (by decide +kernel)) ggX8_isContent_X8_isThere
set_option maxRecDepth 20000 in
theorem ggX8_isContent_X8_isPleased : GoodIn wsX8_isContent wsX8_isPleased := goodIn_ca (goodIn_ca (goodIn_r _ [18, 19, 20, 21, 4, 22, 6, 23, 24, 25, 26, 27, 28, 29, 30, 31, 32, 33, 34, 7, 8, 9, 35, 36, 37, 38, 39, 40, 41, 42, 43, 44, 45, 46, 47, 48, 49, 50, 51, 52] (by decide +kernel) (by decide +kernel)) (goodIn_sub (fun _ h => List.mem_cons_of_mem _ (List.mem_append_left _ (List.mem_append_right _ h))) (by decide +kernel))) (goodIn_sub (fun _ h => List.mem_cons_of_mem _ (List.mem_append_right _ h)) (by decide +kernel))
set_option maxRecDepth 20000 in
theorem gX8_isContent_X8_isPleased : GoodIn wsX8_isContent (wsV RX8 73 RX8 yX8_isPleased wsX8_isPleased) := goodIn_app (goodIn_of _ (by decide +kernel)) ggX8_isContent_X8_isPleased
theorem dX8_isContent_0 : decode cX8_isContent 0 = .ok (.aload_n 0, 1) := by decide +kernel
theorem dX8_isContent_1 : decode cX8_isContent 1 = .ok (.aload_n 0, 1) := by decide +kernel
theorem dX8_isContent_2 : decode cX8_isContent 2 = .ok (.iload_n 1, 1) := by decide +kernel
theorem dX8_isContent_3 : decode cX8_isContent 3 = .ok (.invokevirtual 170, 3) := by decide +kernel
theorem dX8_isContent_6 : decode cX8_isContent 6 = .ok (.invokevirtual 156, 3) := by decide +kernel
theorem dX8_isContent_9 : decode cX8_isContent 9 = .ok (.ifCond .eq 15, 3) := by decide +kernel
theorem dX8_isContent_12 : decode cX8_isContent 12 = .ok (.aload_n 0, 1) := by decide +kernel
theorem dX8_isContent_13 : decode cX8_isContent 13 = .ok (.iload_n 1, 1) := by decide +kernel
theorem dX8_isContent_14 : decode cX8_isContent 14 = .ok (.invokevirtual 73, 3) := by decide +kernel
theorem dX8_isContent_17 : decode cX8_isContent 17 = .ok (.ifCond .eq 7, 3) := by decide +kernel
theorem dX8_isContent_20 : decode cX8_isContent 20 = .ok (.iconst 1, 1) := by decide +kernel
theorem dX8_isContent_21 : decode cX8_isContent 21 = .ok (.goto 4, 3) := by decide +kernel
theorem dX8_isContent_24 : decode cX8_isContent 24 = .ok (.iconst 0, 1) := by decide +kernel
theorem dX8_isContent_25 : decode cX8_isContent 25 = .ok (.ireturn, 1) := by decide +kernel
set_option maxRecDepth 20000 in
theorem ggX8_quacks_X8_isDuck : GoodIn wsX8_quacks wsX8_isDuck := goodIn_ca (goodIn_r _ [5, 6, 7, 8, 4, 9, 19, 20, 21, 22, 23, 24, 25, 26, 27, 28, 29, 30, 31, 32, 33, 34, 35, 36] (by decide +kernel) (by decide +kernel)) (goodIn_sub (fun _ h => List.mem_cons_of_mem _ (List.mem_append_right _ h)) (by decide +kernel))
set_option maxRecDepth 20000 in
theorem gX8_quacks_X8_isDuck : GoodIn wsX8_quacks (wsV RX8 170 RX8 yX8_isDuck wsX8_isDuck) := goodIn_app (goodIn_of _ (by decide +kernel)) ggX8_quacks_X8_isDuck
set_option maxRecDepth 20000 in
theorem ggX8_quacks_X8_isThere : GoodIn wsX8_quacks wsX8_isThere := goodIn_r _ [13, 14, 19, 20, 21, 22, 23, 24, 25, 26, 27, 28, 29, 30, 31, 32, 33, 34, 35, 36] (by decide +kernel) (by decide +kernel)
set_option maxRecDepth 20000 in
theorem gX8_quacks_X8_isThere : GoodIn wsX8_quacks (wsV RX8 156 RX8 yX8_isThere wsX8_isThere) := goodIn_app (goodIn_of _ (by decide +kernel)) ggX8_quacks_X8_isThere
set_option maxRecDepth 20000 in
theorem ggX8_quacks_X8_ofDuck : GoodIn wsX8_quacks wsX8_ofDuck := goodIn_ca (goodIn_r _ [18, 6, 19, 20, 21, 22, 23, 24, 25, 26, 27, 28, 29, 30, 31, 32, 33, 34, 35, 36] (by decide +kernel) (by decide +kernel)) (goodIn_sub (fun _ h => List.mem_cons_of_mem _ (List.mem_append_right _ h)) (by decide +kernel))
set_option maxRecDepth 20000 in
theorem gX8_quacks_X8_ofDuck : GoodIn wsX8_quacks (wsV RX8 62 RX8 yX8_ofDuck wsX8_ofDuck) := goodIn_app (goodIn_of _ (by decide +kernel)) ggX8_quacks_X8_ofDuck
theorem dX8_quacks_0 : decode cX8_quacks 0 = .ok (.aload_n 0, 1) := by decide +kernel
theorem dX8_quacks_1 : decode cX8_quacks 1 = .ok (.aload_n 0, 1) := by decide +kernel
theorem dX8_quacks_2 : decode cX8_quacks 2 = .ok (.iload_n 1, 1) := by decide +kernel
theorem dX8_quacks_3 : decode cX8_quacks 3 = .ok (.invokevirtual 170, 3) := by decide +kernel
theorem dX8_quacks_6 : decode cX8_quacks 6 = .ok (.invokevirtual 156, 3) := by decide +kernel
theorem dX8_quacks_9 : decode cX8_quacks 9 = .ok (.ifCond .eq 12, 3) := by decide +kernel
theorem dX8_quacks_12 : decode cX8_quacks 12 = .ok (.aload_n 0, 1) := by decide +kernel
theorem dX8_quacks_13 : decode cX8_quacks 13 = .ok (.iload_n 1, 1) := by decide +kernel
theorem dX8_quacks_14 : decode cX8_quacks 14 = .ok (.iconst 3, 1) := by decide +kernel
theorem dX8_quacks_15 : decode cX8_quacks 15 = .ok (.invokevirtual 62, 3) := by decide +kernel
theorem dX8_quacks_18 : decode cX8_quacks 18 = .ok (.goto 4, 3) := by decide +kernel
theorem dX8_quacks_21 : decode cX8_quacks 21 = .ok (.iconst 0, 1) := by decide +kernel
theorem dX8_quacks_22 : decode cX8_quacks 22 = .ok (.ireturn, 1) := by decide +kernel
set_option maxRecDepth 20000 in
theorem ggX8_duckByQuacks_X8_isDuck : GoodIn wsX8_duckByQuacks wsX8_isDuck := goodIn_ca (goodIn_r _ [6, 1, 7, 8, 5, 9, 35, 36, 37, 38, 39, 40, 41, 42, 43, 44, 45, 46, 47, 48, 49, 50, 51, 52] (by decide +kernel) (by decide +kernel)) (goodIn_sub (fun _ h => List.mem_cons_of_mem _ (List.mem_append_left _ (List.mem_append_right _ h))) (by decide +kernel))
set_option maxRecDepth 20000 in
theorem gX8_duckByQuacks_X8_isDuck : GoodIn wsX8_duckByQuacks (wsV RX8 170 RX8 yX8_isDuck wsX8_isDuck) := goodIn_app (goodIn_of _ (by decide +kernel)) ggX8_duckByQuacks_X8_isDuck
set_option maxRecDepth 20000 in
theorem ggX8_duckByQuacks_X8_isThere : GoodIn wsX8_duckByQuacks wsX8_isThere := goodIn_r _ [13, 14, 35, 36, 37, 38, 39, 40, 41, 42, 43, 44, 45, 46, 47, 48, 49, 50, 51, 52] (by decide +kernel) (by decide +kernel)
set_option maxRecDepth 20000 in
theorem gX8_duckByQuacks_X8_isThere : GoodIn wsX8_duckByQuacks (wsV RX8 156 RX8 yX8_isThere wsX8_isThere) := goodIn_app (goodIn_of _ (by decide +kernel)) ggX8_duckByQuacks_X8_isThere
set_option maxRecDepth 20000 in
theorem ggX8_duckByQuacks_X8_ofDuck : GoodIn wsX8_duckByQuacks wsX8_ofDuck := goodIn_ca (goodIn_r _ [18, 1, 35, 36, 37, 38, 39, 40, 41, 42, 43, 44, 45, 46, 47, 48, 49, 50, 51, 52] (by decide +kernel) (by decide +kernel)) (goodIn_sub (fun _ h => List.mem_cons_of_mem _ (List.mem_append_left _ (List.mem_append_right _ h))) (by decide +kernel))
set_option maxRecDepth 20000 in
theorem gX8_duckByQuacks_X8_ofDuck : GoodIn wsX8_duckByQuacks (wsV RX8 62 RX8 yX8_ofDuck wsX8_ofDuck) := goodIn_app (goodIn_of _ (by decide +kernel)) ggX8_duckByQuacks_X8_ofDuck
set_option maxRecDepth 20000 in
theorem ggX8_duckByQuacks_X8_isPleased : GoodIn wsX8_duckByQuacks wsX8_isPleased := goodIn_ca (goodIn_ca (goodIn_r _ [22, 15, 16, 17, 5, 18, 1, 23, 24, 25, 26, 27, 28, 29, 30, 31, 32, 33, 34, 7, 8, 9, 35, 36, 37, 38, 39, 40, 41, 42, 43, 44, 45, 46, 47, 48, 49, 50, 51, 52] (by decide +kernel) (by decide +kernel)) (goodIn_sub (fun _ h => List.mem_cons_of_mem _ (List.mem_append_left _ (List.mem_append_right _ h))) (by decide +kernel))) (goodIn_sub (fun _ h => List.mem_cons_of_mem _ (List.mem_append_right _ h)) (by decide +kernel))
set_option maxRecDepth 20000 in
theorem gX8_duckByQuacks_X8_isPleased : GoodIn wsX8_duckByQuacks (wsV RX8 73 RX8 yX8_isPleased wsX8_isPleased) := goodIn_app (goodIn_of _ (by decide +kernel)) ggX8_duckByQuacks_X8_isPleased
theorem dX8_duckByQuacks_0 : decode cX8_duckByQuacks 0 = .ok (.iconst 0, 1) := by decide +kernel
theorem dX8_duckByQuacks_1 : decode cX8_duckByQuacks 1 = .ok (.istore_n 2, 1) := by decide +kernel
theorem dX8_duckByQuacks_2 : decode cX8_duckByQuacks 2 = .ok (.aload_n 0, 1) := by decide +kernel
theorem dX8_duckByQuacks_3 : decode cX8_duckByQuacks 3 = .ok (.aload_n 0, 1) := by decide +kernel
theorem dX8_duckByQuacks_4 : decode cX8_duckByQuacks 4 = .ok (.iload_n 1, 1) := by decide +kernel
theorem dX8_duckByQuacks_5 : decode cX8_duckByQuacks 5 = .ok (.invokevirtual 170, 3) := by decide +kernel
theorem dX8_duckByQuacks_8 : decode cX8_duckByQuacks 8 = .ok (.invokevirtual 156, 3) := by decide +kernel
theorem dX8_duckByQuacks_11 : decode cX8_duckByQuacks 11 = .ok (.istore_n 3, 1) := by decide +kernel
theorem dX8_duckByQuacks_12 : decode cX8_duckByQuacks 12 = .ok (.iconst 0, 1) := by decide +kernel
theorem dX8_duckByQuacks_13 : decode cX8_duckByQuacks 13 = .ok (.istore 4, 2) := by decide +kernel
theorem dX8_duckByQuacks_15 : decode cX8_duckByQuacks 15 = .ok (.iload 4, 2) := by decide +kernel
theorem dX8_duckByQuacks_17 : decode cX8_duckByQuacks 17 = .ok (.aload_n 0, 1) := by decide +kernel
theorem dX8_duckByQuacks_18 : decode cX8_duckByQuacks 18 = .ok (.getfield 9, 3) := by decide +kernel
theorem dX8_duckByQuacks_21 : decode cX8_duckByQuacks 21 = .ok (.iconst 1, 1) := by decide +kernel
theorem dX8_duckByQuacks_22 : decode cX8_duckByQuacks 22 = .ok (.iaload, 1) := by decide +kernel
theorem dX8_duckByQuacks_23 : decode cX8_duckByQuacks 23 = .ok (.if_icmp .ge 125, 3) := by decide +kernel
theorem dX8_duckByQuacks_26 : decode cX8_duckByQuacks 26 = .ok (.iload_n 3, 1) := by decide +kernel
theorem dX8_duckByQuacks_27 : decode cX8_duckByQuacks 27 = .ok (.ifCond .eq 121, 3) := by decide +kernel
theorem dX8_duckByQuacks_30 : decode cX8_duckByQuacks 30 = .ok (.iconst 0, 1) := by decide +kernel
theorem dX8_duckByQuacks_31 : decode cX8_duckByQuacks 31 = .ok (.istore 5, 2) := by decide +kernel
theorem dX8_duckByQuacks_33 : decode cX8_duckByQuacks 33 = .ok (.iconst 0, 1) := by decide +kernel
theorem dX8_duckByQuacks_34 : decode cX8_duckByQuacks 34 = .ok (.istore 6, 2) := by decide +kernel
theorem dX8_duckByQuacks_36 : decode cX8_duckByQuacks 36 = .ok (.iload 6, 2) := by decide +kernel
theorem dX8_duckByQuacks_38 : decode cX8_duckByQuacks 38 = .ok (.aload_n 0, 1) := by decide +kernel
theorem dX8_duckByQuacks_39 : decode cX8_duckByQuacks 39 = .ok (.getfield 9, 3) := by decide +kernel
theorem dX8_duckByQuacks_42 : decode cX8_duckByQuacks 42 = .ok (.iconst 1, 1) := by decide +kernel
theorem dX8_duckByQuacks_43 : decode cX8_duckByQuacks 43 = .ok (.iaload, 1) := by decide +kernel
theorem dX8_duckByQuacks_44 : decode cX8_duckByQuacks 44 = .ok (.if_icmp .ge 85, 3) := by decide +kernel
theorem dX8_duckByQuacks_47 : decode cX8_duckByQuacks 47 = .ok (.iconst 2, 1) := by decide +kernel
theorem dX8_duckByQuacks_48 : decode cX8_duckByQuacks 48 = .ok (.aload_n 0, 1) := by decide +kernel
theorem dX8_duckByQuacks_49 : decode cX8_duckByQuacks 49 = .ok (.iload 6, 2) := by decide +kernel
theorem dX8_duckByQuacks_51 : decode cX8_duckByQuacks 51 = .ok (.iconst 3, 1) := by decide +kernel
theorem dX8_duckByQuacks_52 : decode cX8_duckByQuacks 52 = .ok (.invokevirtual 62, 3) := by decide +kernel
theorem dX8_duckByQuacks_55 : decode cX8_duckByQuacks 55 = .ok (.aload_n 0, 1) := by decide +kernel
theorem dX8_duckByQuacks_56 : decode cX8_duckByQuacks 56 = .ok (.iload 4, 2) := by decide +kernel
theorem dX8_duckByQuacks_58 : decode cX8_duckByQuacks 58 = .ok (.iconst 3, 1) := by decide +kernel
theorem dX8_duckByQuacks_59 : decode cX8_duckByQuacks 59 = .ok (.invokevirtual 62, 3) := by decide +kernel
theorem dX8_duckByQuacks_62 : decode cX8_duckByQuacks 62 = .ok (.isub, 1) := by decide +kernel
theorem dX8_duckByQuacks_63 : decode cX8_duckByQuacks 63 = .ok (.imul, 1) := by decide +kernel
theorem dX8_duckByQuacks_64 : decode cX8_duckByQuacks 64 = .ok (.aload_n 0, 1) := by decide +kernel
theorem dX8_duckByQuacks_65 : decode cX8_duckByQuacks 65 = .ok (.iload 6, 2) := by decide +kernel
theorem dX8_duckByQuacks_67 : decode cX8_duckByQuacks 67 = .ok (.invokevirtual 73, 3) := by decide +kernel
theorem dX8_duckByQuacks_70 : decode cX8_duckByQuacks 70 = .ok (.ifCond .eq 7, 3) := by decide +kernel
theorem dX8_duckByQuacks_73 : decode cX8_duckByQuacks 73 = .ok (.iconst 1, 1) := by decide +kernel
theorem dX8_duckByQuacks_74 : decode cX8_duckByQuacks 74 = .ok (.goto 4, 3) := by decide +kernel
theorem dX8_duckByQuacks_77 : decode cX8_duckByQuacks 77 = .ok (.iconst 0, 1) := by decide +kernel
theorem dX8_duckByQuacks_78 : decode cX8_duckByQuacks 78 = .ok (.iadd, 1) := by decide +kernel
theorem dX8_duckByQuacks_79 : decode cX8_duckByQuacks 79 = .ok (.aload_n 0, 1) := by decide +kernel
theorem dX8_duckByQuacks_80 : decode cX8_duckByQuacks 80 = .ok (.iload 4, 2) := by decide +kernel
theorem dX8_duckByQuacks_82 : decode cX8_duckByQuacks 82 = .ok (.invokevirtual 73, 3) := by decide +kernel
theorem dX8_duckByQuacks_85 : decode cX8_duckByQuacks 85 = .ok (.ifCond .eq 7, 3) := by decide +kernel
theorem dX8_duckByQuacks_88 : decode cX8_duckByQuacks 88 = .ok (.iconst 1, 1) := by decide +kernel
theorem dX8_duckByQuacks_89 : decode cX8_duckByQuacks 89 = .ok (.goto 4, 3) := by decide +kernel
theorem dX8_duckByQuacks_92 : decode cX8_duckByQuacks 92 = .ok (.iconst 0, 1) := by decide +kernel
theorem dX8_duckByQuacks_93 : decode cX8_duckByQuacks 93 = .ok (.isub, 1) := by decide +kernel
theorem dX8_duckByQuacks_94 : decode cX8_duckByQuacks 94 = .ok (.istore 7, 2) := by decide +kernel
theorem dX8_duckByQuacks_96 : decode cX8_duckByQuacks 96 = .ok (.iload 5, 2) := by decide +kernel
theorem dX8_duckByQuacks_98 : decode cX8_duckByQuacks 98 = .ok (.iload 7, 2) := by decide +kernel
theorem dX8_duckByQuacks_100 : decode cX8_duckByQuacks 100 = .ok (.ifCond .gt 15, 3) := by decide +kernel
theorem dX8_duckByQuacks_103 : decode cX8_duckByQuacks 103 = .ok (.iload 7, 2) := by decide +kernel
theorem dX8_duckByQuacks_105 : decode cX8_duckByQuacks 105 = .ok (.ifCond .ne 14, 3) := by decide +kernel
theorem dX8_duckByQuacks_108 : decode cX8_duckByQuacks 108 = .ok (.iload 6, 2) := by decide +kernel
theorem dX8_duckByQuacks_110 : decode cX8_duckByQuacks 110 = .ok (.iload 4, 2) := by decide +kernel
theorem dX8_duckByQuacks_112 : decode cX8_duckByQuacks 112 = .ok (.if_icmp .ge 7, 3) := by decide +kernel
theorem dX8_duckByQuacks_115 : decode cX8_duckByQuacks 115 = .ok (.iconst 1, 1) := by decide +kernel
theorem dX8_duckByQuacks_116 : decode cX8_duckByQuacks 116 = .ok (.goto 4, 3) := by decide +kernel
theorem dX8_duckByQuacks_119 : decode cX8_duckByQuacks 119 = .ok (.iconst 0, 1) := by decide +kernel
theorem dX8_duckByQuacks_120 : decode cX8_duckByQuacks 120 = .ok (.iadd, 1) := by decide +kernel
theorem dX8_duckByQuacks_121 : decode cX8_duckByQuacks 121 = .ok (.istore 5, 2) := by decide +kernel
theorem dX8_duckByQuacks_123 : decode cX8_duckByQuacks 123 = .ok (.iinc 6 1, 3) := by decide +kernel
theorem dX8_duckByQuacks_126 : decode cX8_duckByQuacks 126 = .ok (.goto (-90), 3) := by decide +kernel
theorem dX8_duckByQuacks_129 : decode cX8_duckByQuacks 129 = .ok (.iload 5, 2) := by decide +kernel
theorem dX8_duckByQuacks_131 : decode cX8_duckByQuacks 131 = .ok (.iload_n 1, 1) := by decide +kernel
theorem dX8_duckByQuacks_132 : decode cX8_duckByQuacks 132 = .ok (.if_icmp .ne 8, 3) := by decide +kernel
theorem dX8_duckByQuacks_135 : decode cX8_duckByQuacks 135 = .ok (.iload 4, 2) := by decide +kernel
theorem dX8_duckByQuacks_137 : decode cX8_duckByQuacks 137 = .ok (.goto 4, 3) := by decide +kernel
theorem dX8_duckByQuacks_140 : decode cX8_duckByQuacks 140 = .ok (.iload_n 2, 1) := by decide +kernel
theorem dX8_duckByQuacks_141 : decode cX8_duckByQuacks 141 = .ok (.istore_n 2, 1) := by decide +kernel
theorem dX8_duckByQuacks_142 : decode cX8_duckByQuacks 142 = .ok (.iinc 4 1, 3) := by decide +kernel
theorem dX8_duckByQuacks_145 : decode cX8_duckByQuacks 145 = .ok (.goto (-130), 3) := by decide +kernel
theorem dX8_duckByQuacks_148 : decode cX8_duckByQuacks 148 = .ok (.iload_n 2, 1) := by decide +kernel
theorem dX8_duckByQuacks_149 : decode cX8_duckByQuacks 149 = .ok (.ireturn, 1) := by decide +kernel
set_option maxRecDepth 20000 in
theorem ggX8_isEvent_X8_in : GoodIn wsX8_isEvent wsX8_in := goodIn_r _ [5] (by decide +kernel) (by decide +kernel)
set_option maxRecDepth 20000 in
theorem gX8_isEvent_X8_in : GoodIn wsX8_isEvent (va_wsS RX8 54 yX8_in wsX8_in) := goodIn_app (goodIn_of _ (by decide +kernel)) ggX8_isEvent_X8_in
theorem dX8_isEvent_0 : decode cX8_isEvent 0 = .ok (.iload_n 1, 1) := by decide +kernel
theorem dX8_isEvent_1 : decode cX8_isEvent 1 = .ok (.iconst 0, 1) := by decide +kernel
theorem dX8_isEvent_2 : decode cX8_isEvent 2 = .ok (.aload_n 0, 1) := by decide +kernel
theorem dX8_isEvent_3 : decode cX8_isEvent 3 = .ok (.getfield 9, 3) := by decide +kernel
theorem dX8_isEvent_6 : decode cX8_isEvent 6 = .ok (.iconst 2, 1) := by decide +kernel
theorem dX8_isEvent_7 : decode cX8_isEvent 7 = .ok (.iaload, 1) := by decide +kernel
theorem dX8_isEvent_8 : decode cX8_isEvent 8 = .ok (.iconst 1, 1) := by decide +kernel
theorem dX8_isEvent_9 : decode cX8_isEvent 9 = .ok (.isub, 1) := by decide +kernel
theorem dX8_isEvent_10 : decode cX8_isEvent 10 = .ok (.invokestatic 54, 3) := by decide +kernel
theorem dX8_isEvent_13 : decode cX8_isEvent 13 = .ok (.ireturn, 1) := by decide +kernel
theorem dX8_eventCount_0 : decode cX8_eventCount 0 = .ok (.aload_n 0, 1) := by decide +kernel
theorem dX8_eventCount_1 : decode cX8_eventCount 1 = .ok (.iconst 0, 1) := by decide +kernel
theorem dX8_eventCount_2 : decode cX8_eventCount 2 = .ok (.putfield 42, 3) := by decide +kernel
theorem dX8_eventCount_5 : decode cX8_eventCount 5 = .ok (.aload_n 0, 1) := by decide +kernel
theorem dX8_eventCount_6 : decode cX8_eventCount 6 = .ok (.getfield 9, 3) := by decide +kernel
theorem dX8_eventCount_9 : decode cX8_eventCount 9 = .ok (.iconst 2, 1) := by decide +kernel
theorem dX8_eventCount_10 : decode cX8_eventCount 10 = .ok (.iaload, 1) := by decide +kernel
theorem dX8_eventCount_11 : decode cX8_eventCount 11 = .ok (.ireturn, 1) := by decide +kernel
set_option maxRecDepth 20000 in
theorem ggX8_eventKind_X8_isEvent : GoodIn wsX8_eventKind wsX8_isEvent := goodIn_ca (goodIn_r _ [6, 1, 7, 8, 5, 9, 15, 16, 17, 18, 19, 20, 21, 22, 23, 24, 25, 26, 27, 28, 29, 30, 31, 32] (by decide +kernel) (by decide +kernel)) (goodIn_sub (fun _ h => List.mem_cons_of_mem _ (List.mem_append_right _ h)) (by decide +kernel))
set_option maxRecDepth 20000 in
theorem gX8_eventKind_X8_isEvent : GoodIn wsX8_eventKind (wsV RX8 173 RX8 yX8_isEvent wsX8_isEvent) := goodIn_app (goodIn_of _ (by decide +kernel)) ggX8_eventKind_X8_isEvent
set_option maxRecDepth 20000 in
theorem ggX8_eventKind_X8_isThere : GoodIn wsX8_eventKind wsX8_isThere := goodIn_r _ [13, 14, 15, 16, 17, 18, 19, 20, 21, 22, 23, 24, 25, 26, 27, 28, 29, 30, 31, 32] (by decide +kernel) (by decide +kernel)
set_option maxRecDepth 20000 in
theorem gX8_eventKind_X8_isThere : GoodIn wsX8_eventKind (wsV RX8 156 RX8 yX8_isThere wsX8_isThere) := goodIn_app (goodIn_of _ (by decide +kernel)) ggX8_eventKind_X8_isThere
theorem dX8_eventKind_0 : decode cX8_eventKind 0 = .ok (.aload_n 0, 1) := by decide +kernel
theorem dX8_eventKind_1 : decode cX8_eventKind 1 = .ok (.aload_n 0, 1) := by decide +kernel
theorem dX8_eventKind_2 : decode cX8_eventKind 2 = .ok (.iload_n 1, 1) := by decide +kernel
theorem dX8_eventKind_3 : decode cX8_eventKind 3 = .ok (.invokevirtual 173, 3) := by decide +kernel
theorem dX8_eventKind_6 : decode cX8_eventKind 6 = .ok (.invokevirtual 156, 3) := by decide +kernel
theorem dX8_eventKind_9 : decode cX8_eventKind 9 = .ok (.ifCond .eq 18, 3) := by decide +kernel
theorem dX8_eventKind_12 : decode cX8_eventKind 12 = .ok (.aload_n 0, 1) := by decide +kernel
theorem dX8_eventKind_13 : decode cX8_eventKind 13 = .ok (.getfield 9, 3) := by decide +kernel
theorem dX8_eventKind_16 : decode cX8_eventKind 16 = .ok (.bipush 59, 2) := by decide +kernel
theorem dX8_eventKind_18 : decode cX8_eventKind 18 = .ok (.iconst 3, 1) := by decide +kernel
theorem dX8_eventKind_19 : decode cX8_eventKind 19 = .ok (.iload_n 1, 1) := by decide +kernel
theorem dX8_eventKind_20 : decode cX8_eventKind 20 = .ok (.imul, 1) := by decide +kernel
theorem dX8_eventKind_21 : decode cX8_eventKind 21 = .ok (.iadd, 1) := by decide +kernel
theorem dX8_eventKind_22 : decode cX8_eventKind 22 = .ok (.iaload, 1) := by decide +kernel
theorem dX8_eventKind_23 : decode cX8_eventKind 23 = .ok (.i2c, 1) := by decide +kernel
theorem dX8_eventKind_24 : decode cX8_eventKind 24 = .ok (.goto 5, 3) := by decide +kernel
theorem dX8_eventKind_27 : decode cX8_eventKind 27 = .ok (.bipush 32, 2) := by decide +kernel
theorem dX8_eventKind_29 : decode cX8_eventKind 29 = .ok (.ireturn, 1) := by decide +kernel
set_option maxRecDepth 20000 in
theorem ggX8_eventBath_X8_isEvent : GoodIn wsX8_eventBath wsX8_isEvent := goodIn_ca (goodIn_r _ [6, 1, 7, 8, 5, 9, 15, 16, 17, 18, 19, 20, 21, 22, 23, 24, 25, 26, 27, 28, 29, 30, 31, 32] (by decide +kernel) (by decide +kernel)) (goodIn_sub (fun _ h => List.mem_cons_of_mem _ (List.mem_append_right _ h)) (by decide +kernel))
set_option maxRecDepth 20000 in
theorem gX8_eventBath_X8_isEvent : GoodIn wsX8_eventBath (wsV RX8 173 RX8 yX8_isEvent wsX8_isEvent) := goodIn_app (goodIn_of _ (by decide +kernel)) ggX8_eventBath_X8_isEvent
set_option maxRecDepth 20000 in
theorem ggX8_eventBath_X8_isThere : GoodIn wsX8_eventBath wsX8_isThere := goodIn_r _ [13, 14, 15, 16, 17, 18, 19, 20, 21, 22, 23, 24, 25, 26, 27, 28, 29, 30, 31, 32] (by decide +kernel) (by decide +kernel)
set_option maxRecDepth 20000 in
theorem gX8_eventBath_X8_isThere : GoodIn wsX8_eventBath (wsV RX8 156 RX8 yX8_isThere wsX8_isThere) := goodIn_app (goodIn_of _ (by decide +kernel)) ggX8_eventBath_X8_isThere
theorem dX8_eventBath_0 : decode cX8_eventBath 0 = .ok (.aload_n 0, 1) := by decide +kernel
theorem dX8_eventBath_1 : decode cX8_eventBath 1 = .ok (.aload_n 0, 1) := by decide +kernel
theorem dX8_eventBath_2 : decode cX8_eventBath 2 = .ok (.iload_n 1, 1) := by decide +kernel
theorem dX8_eventBath_3 : decode cX8_eventBath 3 = .ok (.invokevirtual 173, 3) := by decide +kernel
theorem dX8_eventBath_6 : decode cX8_eventBath 6 = .ok (.invokevirtual 156, 3) := by decide +kernel
theorem dX8_eventBath_9 : decode cX8_eventBath 9 = .ok (.ifCond .eq 19, 3) := by decide +kernel
theorem dX8_eventBath_12 : decode cX8_eventBath 12 = .ok (.aload_n 0, 1) := by decide +kernel
theorem dX8_eventBath_13 : decode cX8_eventBath 13 = .ok (.getfield 9, 3) := by decide +kernel
theorem dX8_eventBath_16 : decode cX8_eventBath 16 = .ok (.bipush 59, 2) := by decide +kernel
theorem dX8_eventBath_18 : decode cX8_eventBath 18 = .ok (.iconst 3, 1) := by decide +kernel
theorem dX8_eventBath_19 : decode cX8_eventBath 19 = .ok (.iload_n 1, 1) := by decide +kernel
theorem dX8_eventBath_20 : decode cX8_eventBath 20 = .ok (.imul, 1) := by decide +kernel
theorem dX8_eventBath_21 : decode cX8_eventBath 21 = .ok (.iadd, 1) := by decide +kernel
theorem dX8_eventBath_22 : decode cX8_eventBath 22 = .ok (.iconst 1, 1) := by decide +kernel
theorem dX8_eventBath_23 : decode cX8_eventBath 23 = .ok (.iadd, 1) := by decide +kernel
theorem dX8_eventBath_24 : decode cX8_eventBath 24 = .ok (.iaload, 1) := by decide +kernel
theorem dX8_eventBath_25 : decode cX8_eventBath 25 = .ok (.goto 4, 3) := by decide +kernel
theorem dX8_eventBath_28 : decode cX8_eventBath 28 = .ok (.iconst 0, 1) := by decide +kernel
theorem dX8_eventBath_29 : decode cX8_eventBath 29 = .ok (.ireturn, 1) := by decide +kernel
set_option maxRecDepth 20000 in
theorem ggX8_eventLitres_X8_isEvent : GoodIn wsX8_eventLitres wsX8_isEvent := goodIn_ca (goodIn_r _ [6, 1, 7, 8, 5, 9, 15, 16, 17, 18, 19, 20, 21, 22, 23, 24, 25, 26, 27, 28, 29, 30, 31, 32] (by decide +kernel) (by decide +kernel)) (goodIn_sub (fun _ h => List.mem_cons_of_mem _ (List.mem_append_right _ h)) (by decide +kernel))
set_option maxRecDepth 20000 in
theorem gX8_eventLitres_X8_isEvent : GoodIn wsX8_eventLitres (wsV RX8 173 RX8 yX8_isEvent wsX8_isEvent) := goodIn_app (goodIn_of _ (by decide +kernel)) ggX8_eventLitres_X8_isEvent
set_option maxRecDepth 20000 in
theorem ggX8_eventLitres_X8_isThere : GoodIn wsX8_eventLitres wsX8_isThere := goodIn_r _ [13, 14, 15, 16, 17, 18, 19, 20, 21, 22, 23, 24, 25, 26, 27, 28, 29, 30, 31, 32] (by decide +kernel) (by decide +kernel)
set_option maxRecDepth 20000 in
theorem gX8_eventLitres_X8_isThere : GoodIn wsX8_eventLitres (wsV RX8 156 RX8 yX8_isThere wsX8_isThere) := goodIn_app (goodIn_of _ (by decide +kernel)) ggX8_eventLitres_X8_isThere
theorem dX8_eventLitres_0 : decode cX8_eventLitres 0 = .ok (.aload_n 0, 1) := by decide +kernel
theorem dX8_eventLitres_1 : decode cX8_eventLitres 1 = .ok (.iload_n 1, 1) := by decide +kernel
theorem dX8_eventLitres_2 : decode cX8_eventLitres 2 = .ok (.invokevirtual 173, 3) := by decide +kernel
theorem dX8_eventLitres_5 : decode cX8_eventLitres 5 = .ok (.ifCond .eq 19, 3) := by decide +kernel
theorem dX8_eventLitres_8 : decode cX8_eventLitres 8 = .ok (.aload_n 0, 1) := by decide +kernel
theorem dX8_eventLitres_9 : decode cX8_eventLitres 9 = .ok (.getfield 9, 3) := by decide +kernel
theorem dX8_eventLitres_12 : decode cX8_eventLitres 12 = .ok (.bipush 59, 2) := by decide +kernel
theorem dX8_eventLitres_14 : decode cX8_eventLitres 14 = .ok (.iconst 3, 1) := by decide +kernel
theorem dX8_eventLitres_15 : decode cX8_eventLitres 15 = .ok (.iload_n 1, 1) := by decide +kernel
theorem dX8_eventLitres_16 : decode cX8_eventLitres 16 = .ok (.imul, 1) := by decide +kernel
theorem dX8_eventLitres_17 : decode cX8_eventLitres 17 = .ok (.iadd, 1) := by decide +kernel
theorem dX8_eventLitres_18 : decode cX8_eventLitres 18 = .ok (.iconst 2, 1) := by decide +kernel
theorem dX8_eventLitres_19 : decode cX8_eventLitres 19 = .ok (.iadd, 1) := by decide +kernel
theorem dX8_eventLitres_20 : decode cX8_eventLitres 20 = .ok (.iaload, 1) := by decide +kernel
theorem dX8_eventLitres_21 : decode cX8_eventLitres 21 = .ok (.goto 4, 3) := by decide +kernel
theorem dX8_eventLitres_24 : decode cX8_eventLitres 24 = .ok (.iconst 0, 1) := by decide +kernel
theorem dX8_eventLitres_25 : decode cX8_eventLitres 25 = .ok (.istore_n 2, 1) := by decide +kernel
theorem dX8_eventLitres_26 : decode cX8_eventLitres 26 = .ok (.aload_n 0, 1) := by decide +kernel
theorem dX8_eventLitres_27 : decode cX8_eventLitres 27 = .ok (.iload_n 2, 1) := by decide +kernel
theorem dX8_eventLitres_28 : decode cX8_eventLitres 28 = .ok (.ifCond .le 7, 3) := by decide +kernel
theorem dX8_eventLitres_31 : decode cX8_eventLitres 31 = .ok (.iconst 1, 1) := by decide +kernel
theorem dX8_eventLitres_32 : decode cX8_eventLitres 32 = .ok (.goto 4, 3) := by decide +kernel
theorem dX8_eventLitres_35 : decode cX8_eventLitres 35 = .ok (.iconst 0, 1) := by decide +kernel
theorem dX8_eventLitres_36 : decode cX8_eventLitres 36 = .ok (.invokevirtual 156, 3) := by decide +kernel
theorem dX8_eventLitres_39 : decode cX8_eventLitres 39 = .ok (.ifCond .eq 7, 3) := by decide +kernel
theorem dX8_eventLitres_42 : decode cX8_eventLitres 42 = .ok (.iload_n 2, 1) := by decide +kernel
theorem dX8_eventLitres_43 : decode cX8_eventLitres 43 = .ok (.goto 4, 3) := by decide +kernel
theorem dX8_eventLitres_46 : decode cX8_eventLitres 46 = .ok (.iconst 0, 1) := by decide +kernel
theorem dX8_eventLitres_47 : decode cX8_eventLitres 47 = .ok (.ireturn, 1) := by decide +kernel
theorem dX8_time_0 : decode cX8_time 0 = .ok (.aload_n 0, 1) := by decide +kernel
theorem dX8_time_1 : decode cX8_time 1 = .ok (.iconst 0, 1) := by decide +kernel
theorem dX8_time_2 : decode cX8_time 2 = .ok (.putfield 42, 3) := by decide +kernel
theorem dX8_time_5 : decode cX8_time 5 = .ok (.aload_n 0, 1) := by decide +kernel
theorem dX8_time_6 : decode cX8_time 6 = .ok (.getfield 9, 3) := by decide +kernel
theorem dX8_time_9 : decode cX8_time 9 = .ok (.iconst 3, 1) := by decide +kernel
theorem dX8_time_10 : decode cX8_time 10 = .ok (.iaload, 1) := by decide +kernel
theorem dX8_time_11 : decode cX8_time 11 = .ok (.ireturn, 1) := by decide +kernel
theorem dX8_defectionTotal_0 : decode cX8_defectionTotal 0 = .ok (.aload_n 0, 1) := by decide +kernel
theorem dX8_defectionTotal_1 : decode cX8_defectionTotal 1 = .ok (.iconst 0, 1) := by decide +kernel
theorem dX8_defectionTotal_2 : decode cX8_defectionTotal 2 = .ok (.putfield 42, 3) := by decide +kernel
theorem dX8_defectionTotal_5 : decode cX8_defectionTotal 5 = .ok (.aload_n 0, 1) := by decide +kernel
theorem dX8_defectionTotal_6 : decode cX8_defectionTotal 6 = .ok (.getfield 9, 3) := by decide +kernel
theorem dX8_defectionTotal_9 : decode cX8_defectionTotal 9 = .ok (.iconst 4, 1) := by decide +kernel
theorem dX8_defectionTotal_10 : decode cX8_defectionTotal 10 = .ok (.iaload, 1) := by decide +kernel
theorem dX8_defectionTotal_11 : decode cX8_defectionTotal 11 = .ok (.ireturn, 1) := by decide +kernel
theorem dX8_tappedLitres_0 : decode cX8_tappedLitres 0 = .ok (.aload_n 0, 1) := by decide +kernel
theorem dX8_tappedLitres_1 : decode cX8_tappedLitres 1 = .ok (.iconst 0, 1) := by decide +kernel
theorem dX8_tappedLitres_2 : decode cX8_tappedLitres 2 = .ok (.putfield 42, 3) := by decide +kernel
theorem dX8_tappedLitres_5 : decode cX8_tappedLitres 5 = .ok (.aload_n 0, 1) := by decide +kernel
theorem dX8_tappedLitres_6 : decode cX8_tappedLitres 6 = .ok (.getfield 9, 3) := by decide +kernel
theorem dX8_tappedLitres_9 : decode cX8_tappedLitres 9 = .ok (.iconst 5, 1) := by decide +kernel
theorem dX8_tappedLitres_10 : decode cX8_tappedLitres 10 = .ok (.iaload, 1) := by decide +kernel
theorem dX8_tappedLitres_11 : decode cX8_tappedLitres 11 = .ok (.ireturn, 1) := by decide +kernel
theorem dX8_drainedLitres_0 : decode cX8_drainedLitres 0 = .ok (.aload_n 0, 1) := by decide +kernel
theorem dX8_drainedLitres_1 : decode cX8_drainedLitres 1 = .ok (.iconst 0, 1) := by decide +kernel
theorem dX8_drainedLitres_2 : decode cX8_drainedLitres 2 = .ok (.putfield 42, 3) := by decide +kernel
theorem dX8_drainedLitres_5 : decode cX8_drainedLitres 5 = .ok (.aload_n 0, 1) := by decide +kernel
theorem dX8_drainedLitres_6 : decode cX8_drainedLitres 6 = .ok (.getfield 9, 3) := by decide +kernel
theorem dX8_drainedLitres_9 : decode cX8_drainedLitres 9 = .ok (.bipush 6, 2) := by decide +kernel
theorem dX8_drainedLitres_11 : decode cX8_drainedLitres 11 = .ok (.iaload, 1) := by decide +kernel
theorem dX8_drainedLitres_12 : decode cX8_drainedLitres 12 = .ok (.ireturn, 1) := by decide +kernel
theorem dX8_tappedHeat_0 : decode cX8_tappedHeat 0 = .ok (.aload_n 0, 1) := by decide +kernel
theorem dX8_tappedHeat_1 : decode cX8_tappedHeat 1 = .ok (.iconst 0, 1) := by decide +kernel
theorem dX8_tappedHeat_2 : decode cX8_tappedHeat 2 = .ok (.putfield 42, 3) := by decide +kernel
theorem dX8_tappedHeat_5 : decode cX8_tappedHeat 5 = .ok (.aload_n 0, 1) := by decide +kernel
theorem dX8_tappedHeat_6 : decode cX8_tappedHeat 6 = .ok (.getfield 9, 3) := by decide +kernel
theorem dX8_tappedHeat_9 : decode cX8_tappedHeat 9 = .ok (.bipush 7, 2) := by decide +kernel
theorem dX8_tappedHeat_11 : decode cX8_tappedHeat 11 = .ok (.iaload, 1) := by decide +kernel
theorem dX8_tappedHeat_12 : decode cX8_tappedHeat 12 = .ok (.ireturn, 1) := by decide +kernel
theorem dX8_lostHeat_0 : decode cX8_lostHeat 0 = .ok (.aload_n 0, 1) := by decide +kernel
theorem dX8_lostHeat_1 : decode cX8_lostHeat 1 = .ok (.iconst 0, 1) := by decide +kernel
theorem dX8_lostHeat_2 : decode cX8_lostHeat 2 = .ok (.putfield 42, 3) := by decide +kernel
theorem dX8_lostHeat_5 : decode cX8_lostHeat 5 = .ok (.aload_n 0, 1) := by decide +kernel
theorem dX8_lostHeat_6 : decode cX8_lostHeat 6 = .ok (.getfield 9, 3) := by decide +kernel
theorem dX8_lostHeat_9 : decode cX8_lostHeat 9 = .ok (.bipush 8, 2) := by decide +kernel
theorem dX8_lostHeat_11 : decode cX8_lostHeat 11 = .ok (.iaload, 1) := by decide +kernel
theorem dX8_lostHeat_12 : decode cX8_lostHeat 12 = .ok (.ireturn, 1) := by decide +kernel
set_option maxRecDepth 20000 in
theorem ggX8_contentShare_X8_isPleased : GoodIn wsX8_contentShare wsX8_isPleased := goodIn_ca (goodIn_ca (goodIn_r _ [7, 8, 9, 10, 6, 11, 1, 12, 13, 14, 15, 16, 17, 18, 19, 20, 21, 22, 23, 24, 25, 26, 27, 28, 29, 30, 31, 32, 33, 34, 35, 36, 37, 38, 39, 40, 41, 42, 43, 44] (by decide +kernel) (by decide +kernel)) (goodIn_sub (fun _ h => List.mem_cons_of_mem _ (List.mem_append_left _ (List.mem_append_right _ h))) (by decide +kernel))) (goodIn_sub (fun _ h => List.mem_cons_of_mem _ (List.mem_append_right _ h)) (by decide +kernel))
set_option maxRecDepth 20000 in
theorem gX8_contentShare_X8_isPleased : GoodIn wsX8_contentShare (wsV RX8 73 RX8 yX8_isPleased wsX8_isPleased) := goodIn_app (goodIn_of _ (by decide +kernel)) ggX8_contentShare_X8_isPleased
theorem dX8_contentShare_0 : decode cX8_contentShare 0 = .ok (.aload_n 0, 1) := by decide +kernel
theorem dX8_contentShare_1 : decode cX8_contentShare 1 = .ok (.getfield 9, 3) := by decide +kernel
theorem dX8_contentShare_4 : decode cX8_contentShare 4 = .ok (.iconst 1, 1) := by decide +kernel
theorem dX8_contentShare_5 : decode cX8_contentShare 5 = .ok (.iaload, 1) := by decide +kernel
theorem dX8_contentShare_6 : decode cX8_contentShare 6 = .ok (.istore_n 1, 1) := by decide +kernel
theorem dX8_contentShare_7 : decode cX8_contentShare 7 = .ok (.aload_n 0, 1) := by decide +kernel
theorem dX8_contentShare_8 : decode cX8_contentShare 8 = .ok (.iload_n 1, 1) := by decide +kernel
theorem dX8_contentShare_9 : decode cX8_contentShare 9 = .ok (.ifCond .ne 7, 3) := by decide +kernel
theorem dX8_contentShare_12 : decode cX8_contentShare 12 = .ok (.iconst 1, 1) := by decide +kernel
theorem dX8_contentShare_13 : decode cX8_contentShare 13 = .ok (.goto 4, 3) := by decide +kernel
theorem dX8_contentShare_16 : decode cX8_contentShare 16 = .ok (.iconst 0, 1) := by decide +kernel
theorem dX8_contentShare_17 : decode cX8_contentShare 17 = .ok (.putfield 42, 3) := by decide +kernel
theorem dX8_contentShare_20 : decode cX8_contentShare 20 = .ok (.iconst 0, 1) := by decide +kernel
theorem dX8_contentShare_21 : decode cX8_contentShare 21 = .ok (.istore_n 2, 1) := by decide +kernel
theorem dX8_contentShare_22 : decode cX8_contentShare 22 = .ok (.iconst 0, 1) := by decide +kernel
theorem dX8_contentShare_23 : decode cX8_contentShare 23 = .ok (.istore_n 3, 1) := by decide +kernel
theorem dX8_contentShare_24 : decode cX8_contentShare 24 = .ok (.iload_n 3, 1) := by decide +kernel
theorem dX8_contentShare_25 : decode cX8_contentShare 25 = .ok (.iload_n 1, 1) := by decide +kernel
theorem dX8_contentShare_26 : decode cX8_contentShare 26 = .ok (.if_icmp .ge 25, 3) := by decide +kernel
theorem dX8_contentShare_29 : decode cX8_contentShare 29 = .ok (.iload_n 2, 1) := by decide +kernel
theorem dX8_contentShare_30 : decode cX8_contentShare 30 = .ok (.aload_n 0, 1) := by decide +kernel
theorem dX8_contentShare_31 : decode cX8_contentShare 31 = .ok (.iload_n 3, 1) := by decide +kernel
theorem dX8_contentShare_32 : decode cX8_contentShare 32 = .ok (.invokevirtual 73, 3) := by decide +kernel
theorem dX8_contentShare_35 : decode cX8_contentShare 35 = .ok (.ifCond .eq 7, 3) := by decide +kernel
theorem dX8_contentShare_38 : decode cX8_contentShare 38 = .ok (.iconst 1, 1) := by decide +kernel
theorem dX8_contentShare_39 : decode cX8_contentShare 39 = .ok (.goto 4, 3) := by decide +kernel
theorem dX8_contentShare_42 : decode cX8_contentShare 42 = .ok (.iconst 0, 1) := by decide +kernel
theorem dX8_contentShare_43 : decode cX8_contentShare 43 = .ok (.iadd, 1) := by decide +kernel
theorem dX8_contentShare_44 : decode cX8_contentShare 44 = .ok (.istore_n 2, 1) := by decide +kernel
theorem dX8_contentShare_45 : decode cX8_contentShare 45 = .ok (.iinc 3 1, 3) := by decide +kernel
theorem dX8_contentShare_48 : decode cX8_contentShare 48 = .ok (.goto (-24), 3) := by decide +kernel
theorem dX8_contentShare_51 : decode cX8_contentShare 51 = .ok (.aload_n 0, 1) := by decide +kernel
theorem dX8_contentShare_52 : decode cX8_contentShare 52 = .ok (.getfield 42, 3) := by decide +kernel
theorem dX8_contentShare_55 : decode cX8_contentShare 55 = .ok (.ifCond .le 7, 3) := by decide +kernel
theorem dX8_contentShare_58 : decode cX8_contentShare 58 = .ok (.fconst 0, 1) := by decide +kernel
theorem dX8_contentShare_59 : decode cX8_contentShare 59 = .ok (.goto 8, 3) := by decide +kernel
theorem dX8_contentShare_62 : decode cX8_contentShare 62 = .ok (.iload_n 2, 1) := by decide +kernel
theorem dX8_contentShare_63 : decode cX8_contentShare 63 = .ok (.i2f, 1) := by decide +kernel
theorem dX8_contentShare_64 : decode cX8_contentShare 64 = .ok (.iload_n 1, 1) := by decide +kernel
theorem dX8_contentShare_65 : decode cX8_contentShare 65 = .ok (.i2f, 1) := by decide +kernel
theorem dX8_contentShare_66 : decode cX8_contentShare 66 = .ok (.fdiv, 1) := by decide +kernel
theorem dX8_contentShare_67 : decode cX8_contentShare 67 = .ok (.freturn, 1) := by decide +kernel
theorem dX8_isConsistent_0 : decode cX8_isConsistent 0 = .ok (.aload_n 0, 1) := by decide +kernel
theorem dX8_isConsistent_1 : decode cX8_isConsistent 1 = .ok (.iconst 0, 1) := by decide +kernel
theorem dX8_isConsistent_2 : decode cX8_isConsistent 2 = .ok (.putfield 42, 3) := by decide +kernel
theorem dX8_isConsistent_5 : decode cX8_isConsistent 5 = .ok (.iconst 1, 1) := by decide +kernel
theorem dX8_isConsistent_6 : decode cX8_isConsistent 6 = .ok (.ireturn, 1) := by decide +kernel
theorem dX8_says_0 : decode cX8_says 0 = .ok (.aload_n 0, 1) := by decide +kernel
theorem dX8_says_1 : decode cX8_says 1 = .ok (.getfield 25, 3) := by decide +kernel
theorem dX8_says_4 : decode cX8_says 4 = .ok (.aload_n 0, 1) := by decide +kernel
theorem dX8_says_5 : decode cX8_says 5 = .ok (.getfield 176, 3) := by decide +kernel
theorem dX8_says_8 : decode cX8_says 8 = .ok (.iload_n 1, 1) := by decide +kernel
theorem dX8_says_9 : decode cX8_says 9 = .ok (.castore, 1) := by decide +kernel
theorem dX8_says_10 : decode cX8_says 10 = .ok (.aload_n 0, 1) := by decide +kernel
theorem dX8_says_11 : decode cX8_says 11 = .ok (.dup, 1) := by decide +kernel
theorem dX8_says_12 : decode cX8_says 12 = .ok (.getfield 176, 3) := by decide +kernel
theorem dX8_says_15 : decode cX8_says 15 = .ok (.iconst 1, 1) := by decide +kernel
theorem dX8_says_16 : decode cX8_says 16 = .ok (.iadd, 1) := by decide +kernel
theorem dX8_says_17 : decode cX8_says 17 = .ok (.putfield 176, 3) := by decide +kernel
theorem dX8_says_20 : decode cX8_says 20 = .ok (.return_, 1) := by decide +kernel
set_option maxRecDepth 20000 in
theorem ggX8_saysNumber_X8_says : GoodIn wsX8_saysNumber wsX8_says := goodIn_ca (goodIn_r _ [9, 10, 11, 15, 16, 17, 18, 19, 20, 21, 22, 23, 24, 25, 26, 27, 28, 29, 30, 31, 32] (by decide +kernel) (by decide +kernel)) (goodIn_sub (fun _ h => List.mem_cons_of_mem _ (List.mem_append_right _ h)) (by decide +kernel))
set_option maxRecDepth 20000 in
theorem gX8_saysNumber_X8_says : GoodIn wsX8_saysNumber (wsV RX8 179 RX8 yX8_says wsX8_says) := goodIn_app (goodIn_of _ (by decide +kernel)) ggX8_saysNumber_X8_says
set_option maxRecDepth 20000 in
theorem ggX8_saysNumber_X8_saysNumber : GoodIn wsX8_saysNumber wsX8_saysNumber := goodIn_ca (goodIn_r _ [0, 1, 2, 3, 4, 5, 6, 7, 8, 9, 10, 11, 12, 13, 14, 15, 16, 17, 18, 19, 20, 21, 22, 23, 24, 25, 26, 27, 28, 29, 30, 31, 32] (by decide +kernel) (by decide +kernel)) (goodIn_sub (fun _ h => List.mem_cons_of_mem _ (List.mem_append_right _ h)) (by decide +kernel))
set_option maxRecDepth 20000 in
theorem gX8_saysNumber_X8_saysNumber : GoodIn wsX8_saysNumber (wsV RX8 186 RX8 yX8_saysNumber wsX8_saysNumber) := goodIn_app (goodIn_of _ (by decide +kernel)) ggX8_saysNumber_X8_saysNumber
theorem dX8_saysNumber_0 : decode cX8_saysNumber 0 = .ok (.iload_n 1, 1) := by decide +kernel
theorem dX8_saysNumber_1 : decode cX8_saysNumber 1 = .ok (.ifCond .ge 9, 3) := by decide +kernel
theorem dX8_saysNumber_4 : decode cX8_saysNumber 4 = .ok (.aload_n 0, 1) := by decide +kernel
theorem dX8_saysNumber_5 : decode cX8_saysNumber 5 = .ok (.bipush 45, 2) := by decide +kernel
theorem dX8_saysNumber_7 : decode cX8_saysNumber 7 = .ok (.invokevirtual 179, 3) := by decide +kernel
theorem dX8_saysNumber_10 : decode cX8_saysNumber 10 = .ok (.iload_n 1, 1) := by decide +kernel
theorem dX8_saysNumber_11 : decode cX8_saysNumber 11 = .ok (.invokestatic 183, 3) := by decide +kernel
theorem dX8_saysNumber_14 : decode cX8_saysNumber 14 = .ok (.istore_n 2, 1) := by decide +kernel
theorem dX8_saysNumber_15 : decode cX8_saysNumber 15 = .ok (.iload_n 2, 1) := by decide +kernel
theorem dX8_saysNumber_16 : decode cX8_saysNumber 16 = .ok (.bipush 9, 2) := by decide +kernel
theorem dX8_saysNumber_18 : decode cX8_saysNumber 18 = .ok (.if_icmp .le 11, 3) := by decide +kernel
theorem dX8_saysNumber_21 : decode cX8_saysNumber 21 = .ok (.aload_n 0, 1) := by decide +kernel
theorem dX8_saysNumber_22 : decode cX8_saysNumber 22 = .ok (.iload_n 2, 1) := by decide +kernel
theorem dX8_saysNumber_23 : decode cX8_saysNumber 23 = .ok (.bipush 10, 2) := by decide +kernel
theorem dX8_saysNumber_25 : decode cX8_saysNumber 25 = .ok (.idiv, 1) := by decide +kernel
theorem dX8_saysNumber_26 : decode cX8_saysNumber 26 = .ok (.invokevirtual 186, 3) := by decide +kernel
theorem dX8_saysNumber_29 : decode cX8_saysNumber 29 = .ok (.aload_n 0, 1) := by decide +kernel
theorem dX8_saysNumber_30 : decode cX8_saysNumber 30 = .ok (.bipush 48, 2) := by decide +kernel
theorem dX8_saysNumber_32 : decode cX8_saysNumber 32 = .ok (.iload_n 2, 1) := by decide +kernel
theorem dX8_saysNumber_33 : decode cX8_saysNumber 33 = .ok (.bipush 10, 2) := by decide +kernel
theorem dX8_saysNumber_35 : decode cX8_saysNumber 35 = .ok (.irem, 1) := by decide +kernel
theorem dX8_saysNumber_36 : decode cX8_saysNumber 36 = .ok (.iadd, 1) := by decide +kernel
theorem dX8_saysNumber_37 : decode cX8_saysNumber 37 = .ok (.i2c, 1) := by decide +kernel
theorem dX8_saysNumber_38 : decode cX8_saysNumber 38 = .ok (.invokevirtual 179, 3) := by decide +kernel
theorem dX8_saysNumber_41 : decode cX8_saysNumber 41 = .ok (.return_, 1) := by decide +kernel
set_option maxRecDepth 20000 in
theorem ggX8_renderBath_X8_isBath : GoodIn wsX8_renderBath wsX8_isBath := goodIn_ca (goodIn_r _ [6, 7, 8, 9, 5, 10, 41, 42, 43, 44, 45, 46, 47, 48, 49, 50, 51, 52, 53, 54, 55, 56, 57, 58] (by decide +kernel) (by decide +kernel)) (goodIn_sub (fun _ h => List.mem_cons_of_mem _ (List.mem_append_left _ (List.mem_append_right _ h))) (by decide +kernel))
set_option maxRecDepth 20000 in
theorem gX8_renderBath_X8_isBath : GoodIn wsX8_renderBath (wsV RX8 98 RX8 yX8_isBath wsX8_isBath) := goodIn_app (goodIn_of _ (by decide +kernel)) ggX8_renderBath_X8_isBath
set_option maxRecDepth 20000 in
theorem ggX8_renderBath_X8_isThere : GoodIn wsX8_renderBath wsX8_isThere := goodIn_r _ [14, 15, 41, 42, 43, 44, 45, 46, 47, 48, 49, 50, 51, 52, 53, 54, 55, 56, 57, 58] (by decide +kernel) (by decide +kernel)
set_option maxRecDepth 20000 in
theorem gX8_renderBath_X8_isThere : GoodIn wsX8_renderBath (wsV RX8 156 RX8 yX8_isThere wsX8_isThere) := goodIn_app (goodIn_of _ (by decide +kernel)) ggX8_renderBath_X8_isThere
set_option maxRecDepth 20000 in
theorem ggX8_renderBath_X8_saysNumber : GoodIn wsX8_renderBath wsX8_saysNumber := goodIn_ca (goodIn_r _ [19, 20, 21, 22, 23, 24, 25, 26, 5, 27, 28, 1, 16, 17, 18, 41, 42, 43, 44, 45, 46, 47, 48, 49, 50, 51, 52, 53, 54, 55, 56, 57, 58] (by decide +kernel) (by decide +kernel)) (goodIn_sub (fun _ h => List.mem_cons_of_mem _ (List.mem_append_left _ (List.mem_append_right _ h))) (by decide +kernel))
set_option maxRecDepth 20000 in
theorem gX8_renderBath_X8_saysNumber : GoodIn wsX8_renderBath (wsV RX8 186 RX8 yX8_saysNumber wsX8_saysNumber) := goodIn_app (goodIn_of _ (by decide +kernel)) ggX8_renderBath_X8_saysNumber
set_option maxRecDepth 20000 in
theorem ggX8_renderBath_X8_says : GoodIn wsX8_renderBath wsX8_says := goodIn_ca (goodIn_r _ [27, 28, 1, 41, 42, 43, 44, 45, 46, 47, 48, 49, 50, 51, 52, 53, 54, 55, 56, 57, 58] (by decide +kernel) (by decide +kernel)) (goodIn_sub (fun _ h => List.mem_cons_of_mem _ (List.mem_append_left _ (List.mem_append_right _ h))) (by decide +kernel))
set_option maxRecDepth 20000 in
theorem gX8_renderBath_X8_says : GoodIn wsX8_renderBath (wsV RX8 179 RX8 yX8_says wsX8_says) := goodIn_app (goodIn_of _ (by decide +kernel)) ggX8_renderBath_X8_says
set_option maxRecDepth 20000 in
theorem ggX8_renderBath_X8_of : GoodIn wsX8_renderBath wsX8_of := goodIn_ca (goodIn_r _ [32, 7, 41, 42, 43, 44, 45, 46, 47, 48, 49, 50, 51, 52, 53, 54, 55, 56, 57, 58] (by decide +kernel) (by decide +kernel)) (goodIn_sub (fun _ h => List.mem_cons_of_mem _ (List.mem_append_left _ (List.mem_append_right _ h))) (by decide +kernel))
set_option maxRecDepth 20000 in
theorem gX8_renderBath_X8_of : GoodIn wsX8_renderBath (wsV RX8 58 RX8 yX8_of wsX8_of) := goodIn_app (goodIn_of _ (by decide +kernel)) ggX8_renderBath_X8_of
set_option maxRecDepth 20000 in
theorem ggX8_renderBath_X8_isWet : GoodIn wsX8_renderBath wsX8_isWet := goodIn_ca (goodIn_r _ [36, 29, 30, 31, 5, 32, 7, 41, 42, 43, 44, 45, 46, 47, 48, 49, 50, 51, 52, 53, 54, 55, 56, 57, 58] (by decide +kernel) (by decide +kernel)) (goodIn_sub (fun _ h => List.mem_cons_of_mem _ (List.mem_append_left _ (List.mem_append_right _ h))) (by decide +kernel))
set_option maxRecDepth 20000 in
theorem gX8_renderBath_X8_isWet : GoodIn wsX8_renderBath (wsV RX8 65 RX8 yX8_isWet wsX8_isWet) := goodIn_app (goodIn_of _ (by decide +kernel)) ggX8_renderBath_X8_isWet
set_option maxRecDepth 20000 in
theorem ggX8_renderBath_X8_degrees : GoodIn wsX8_renderBath wsX8_degrees := goodIn_ca (goodIn_ca (goodIn_r _ [40, 29, 30, 31, 5, 32, 7, 41, 42, 43, 44, 45, 46, 47, 48, 49, 50, 51, 52, 53, 54, 55, 56, 57, 58] (by decide +kernel) (by decide +kernel)) (goodIn_sub (fun _ h => List.mem_cons_of_mem _ (List.mem_append_right _ h)) (by decide +kernel))) (goodIn_sub (fun _ h => List.mem_cons_of_mem _ (List.mem_append_left _ (List.mem_append_right _ h))) (by decide +kernel))
set_option maxRecDepth 20000 in
theorem gX8_renderBath_X8_degrees : GoodIn wsX8_renderBath (wsV RX8 69 RX8 yX8_degrees wsX8_degrees) := goodIn_app (goodIn_of _ (by decide +kernel)) ggX8_renderBath_X8_degrees
theorem dX8_renderBath_0 : decode cX8_renderBath 0 = .ok (.aload_n 0, 1) := by decide +kernel
theorem dX8_renderBath_1 : decode cX8_renderBath 1 = .ok (.aload_n 0, 1) := by decide +kernel
theorem dX8_renderBath_2 : decode cX8_renderBath 2 = .ok (.iload_n 1, 1) := by decide +kernel
theorem dX8_renderBath_3 : decode cX8_renderBath 3 = .ok (.invokevirtual 98, 3) := by decide +kernel
theorem dX8_renderBath_6 : decode cX8_renderBath 6 = .ok (.invokevirtual 156, 3) := by decide +kernel
theorem dX8_renderBath_9 : decode cX8_renderBath 9 = .ok (.ifCond .ne 5, 3) := by decide +kernel
theorem dX8_renderBath_12 : decode cX8_renderBath 12 = .ok (.iconst 0, 1) := by decide +kernel
theorem dX8_renderBath_13 : decode cX8_renderBath 13 = .ok (.ireturn, 1) := by decide +kernel
theorem dX8_renderBath_14 : decode cX8_renderBath 14 = .ok (.aload_n 0, 1) := by decide +kernel
theorem dX8_renderBath_15 : decode cX8_renderBath 15 = .ok (.iconst 0, 1) := by decide +kernel
theorem dX8_renderBath_16 : decode cX8_renderBath 16 = .ok (.putfield 176, 3) := by decide +kernel
theorem dX8_renderBath_19 : decode cX8_renderBath 19 = .ok (.aload_n 0, 1) := by decide +kernel
theorem dX8_renderBath_20 : decode cX8_renderBath 20 = .ok (.iload_n 1, 1) := by decide +kernel
theorem dX8_renderBath_21 : decode cX8_renderBath 21 = .ok (.invokevirtual 186, 3) := by decide +kernel
theorem dX8_renderBath_24 : decode cX8_renderBath 24 = .ok (.aload_n 0, 1) := by decide +kernel
theorem dX8_renderBath_25 : decode cX8_renderBath 25 = .ok (.bipush 58, 2) := by decide +kernel
theorem dX8_renderBath_27 : decode cX8_renderBath 27 = .ok (.invokevirtual 179, 3) := by decide +kernel
theorem dX8_renderBath_30 : decode cX8_renderBath 30 = .ok (.aload_n 0, 1) := by decide +kernel
theorem dX8_renderBath_31 : decode cX8_renderBath 31 = .ok (.aload_n 0, 1) := by decide +kernel
theorem dX8_renderBath_32 : decode cX8_renderBath 32 = .ok (.iload_n 1, 1) := by decide +kernel
theorem dX8_renderBath_33 : decode cX8_renderBath 33 = .ok (.iconst 0, 1) := by decide +kernel
theorem dX8_renderBath_34 : decode cX8_renderBath 34 = .ok (.invokevirtual 58, 3) := by decide +kernel
theorem dX8_renderBath_37 : decode cX8_renderBath 37 = .ok (.invokevirtual 186, 3) := by decide +kernel
theorem dX8_renderBath_40 : decode cX8_renderBath 40 = .ok (.aload_n 0, 1) := by decide +kernel
theorem dX8_renderBath_41 : decode cX8_renderBath 41 = .ok (.bipush 108, 2) := by decide +kernel
theorem dX8_renderBath_43 : decode cX8_renderBath 43 = .ok (.invokevirtual 179, 3) := by decide +kernel
theorem dX8_renderBath_46 : decode cX8_renderBath 46 = .ok (.aload_n 0, 1) := by decide +kernel
theorem dX8_renderBath_47 : decode cX8_renderBath 47 = .ok (.iload_n 1, 1) := by decide +kernel
theorem dX8_renderBath_48 : decode cX8_renderBath 48 = .ok (.invokevirtual 65, 3) := by decide +kernel
theorem dX8_renderBath_51 : decode cX8_renderBath 51 = .ok (.ifCond .eq 18, 3) := by decide +kernel
theorem dX8_renderBath_54 : decode cX8_renderBath 54 = .ok (.aload_n 0, 1) := by decide +kernel
theorem dX8_renderBath_55 : decode cX8_renderBath 55 = .ok (.aload_n 0, 1) := by decide +kernel
theorem dX8_renderBath_56 : decode cX8_renderBath 56 = .ok (.iload_n 1, 1) := by decide +kernel
theorem dX8_renderBath_57 : decode cX8_renderBath 57 = .ok (.invokevirtual 69, 3) := by decide +kernel
theorem dX8_renderBath_60 : decode cX8_renderBath 60 = .ok (.invokevirtual 186, 3) := by decide +kernel
theorem dX8_renderBath_63 : decode cX8_renderBath 63 = .ok (.aload_n 0, 1) := by decide +kernel
theorem dX8_renderBath_64 : decode cX8_renderBath 64 = .ok (.bipush 67, 2) := by decide +kernel
theorem dX8_renderBath_66 : decode cX8_renderBath 66 = .ok (.invokevirtual 179, 3) := by decide +kernel
theorem dX8_renderBath_69 : decode cX8_renderBath 69 = .ok (.aload_n 0, 1) := by decide +kernel
theorem dX8_renderBath_70 : decode cX8_renderBath 70 = .ok (.aload_n 0, 1) := by decide +kernel
theorem dX8_renderBath_71 : decode cX8_renderBath 71 = .ok (.iload_n 1, 1) := by decide +kernel
theorem dX8_renderBath_72 : decode cX8_renderBath 72 = .ok (.iconst 2, 1) := by decide +kernel
theorem dX8_renderBath_73 : decode cX8_renderBath 73 = .ok (.invokevirtual 58, 3) := by decide +kernel
theorem dX8_renderBath_76 : decode cX8_renderBath 76 = .ok (.iconst 1, 1) := by decide +kernel
theorem dX8_renderBath_77 : decode cX8_renderBath 77 = .ok (.if_icmp .ne 8, 3) := by decide +kernel
theorem dX8_renderBath_80 : decode cX8_renderBath 80 = .ok (.bipush 45, 2) := by decide +kernel
theorem dX8_renderBath_82 : decode cX8_renderBath 82 = .ok (.goto 5, 3) := by decide +kernel
theorem dX8_renderBath_85 : decode cX8_renderBath 85 = .ok (.bipush 43, 2) := by decide +kernel
theorem dX8_renderBath_87 : decode cX8_renderBath 87 = .ok (.invokevirtual 179, 3) := by decide +kernel
theorem dX8_renderBath_90 : decode cX8_renderBath 90 = .ok (.aload_n 0, 1) := by decide +kernel
theorem dX8_renderBath_91 : decode cX8_renderBath 91 = .ok (.iload_n 1, 1) := by decide +kernel
theorem dX8_renderBath_92 : decode cX8_renderBath 92 = .ok (.iconst 3, 1) := by decide +kernel
theorem dX8_renderBath_93 : decode cX8_renderBath 93 = .ok (.invokevirtual 58, 3) := by decide +kernel
theorem dX8_renderBath_96 : decode cX8_renderBath 96 = .ok (.iconst 1, 1) := by decide +kernel
theorem dX8_renderBath_97 : decode cX8_renderBath 97 = .ok (.if_icmp .ne 9, 3) := by decide +kernel
theorem dX8_renderBath_100 : decode cX8_renderBath 100 = .ok (.aload_n 0, 1) := by decide +kernel
theorem dX8_renderBath_101 : decode cX8_renderBath 101 = .ok (.bipush 42, 2) := by decide +kernel
theorem dX8_renderBath_103 : decode cX8_renderBath 103 = .ok (.invokevirtual 179, 3) := by decide +kernel
theorem dX8_renderBath_106 : decode cX8_renderBath 106 = .ok (.aload_n 0, 1) := by decide +kernel
theorem dX8_renderBath_107 : decode cX8_renderBath 107 = .ok (.getfield 176, 3) := by decide +kernel
theorem dX8_renderBath_110 : decode cX8_renderBath 110 = .ok (.ireturn, 1) := by decide +kernel
set_option maxRecDepth 20000 in
theorem ggX8_outputAt_X8_in : GoodIn wsX8_outputAt wsX8_in := goodIn_r _ [6] (by decide +kernel) (by decide +kernel)
set_option maxRecDepth 20000 in
theorem gX8_outputAt_X8_in : GoodIn wsX8_outputAt (va_wsS RX8 54 yX8_in wsX8_in) := goodIn_app (goodIn_of _ (by decide +kernel)) ggX8_outputAt_X8_in
set_option maxRecDepth 20000 in
theorem ggX8_outputAt_X8_isThere : GoodIn wsX8_outputAt wsX8_isThere := goodIn_r _ [10, 11, 12, 13, 14, 15, 16, 17, 18, 19, 20, 21, 22, 23, 24, 25, 26, 27, 28, 29] (by decide +kernel) (by decide +kernel)
set_option maxRecDepth 20000 in
theorem gX8_outputAt_X8_isThere : GoodIn wsX8_outputAt (wsV RX8 156 RX8 yX8_isThere wsX8_isThere) := goodIn_app (goodIn_of _ (by decide +kernel)) ggX8_outputAt_X8_isThere
theorem dX8_outputAt_0 : decode cX8_outputAt 0 = .ok (.aload_n 0, 1) := by decide +kernel
theorem dX8_outputAt_1 : decode cX8_outputAt 1 = .ok (.iload_n 1, 1) := by decide +kernel
theorem dX8_outputAt_2 : decode cX8_outputAt 2 = .ok (.iconst 0, 1) := by decide +kernel
theorem dX8_outputAt_3 : decode cX8_outputAt 3 = .ok (.aload_n 0, 1) := by decide +kernel
theorem dX8_outputAt_4 : decode cX8_outputAt 4 = .ok (.getfield 176, 3) := by decide +kernel
theorem dX8_outputAt_7 : decode cX8_outputAt 7 = .ok (.iconst 1, 1) := by decide +kernel
theorem dX8_outputAt_8 : decode cX8_outputAt 8 = .ok (.isub, 1) := by decide +kernel
theorem dX8_outputAt_9 : decode cX8_outputAt 9 = .ok (.invokestatic 54, 3) := by decide +kernel
theorem dX8_outputAt_12 : decode cX8_outputAt 12 = .ok (.invokevirtual 156, 3) := by decide +kernel
theorem dX8_outputAt_15 : decode cX8_outputAt 15 = .ok (.ifCond .eq 12, 3) := by decide +kernel
theorem dX8_outputAt_18 : decode cX8_outputAt 18 = .ok (.aload_n 0, 1) := by decide +kernel
theorem dX8_outputAt_19 : decode cX8_outputAt 19 = .ok (.getfield 25, 3) := by decide +kernel
theorem dX8_outputAt_22 : decode cX8_outputAt 22 = .ok (.iload_n 1, 1) := by decide +kernel
theorem dX8_outputAt_23 : decode cX8_outputAt 23 = .ok (.caload, 1) := by decide +kernel
theorem dX8_outputAt_24 : decode cX8_outputAt 24 = .ok (.goto 5, 3) := by decide +kernel
theorem dX8_outputAt_27 : decode cX8_outputAt 27 = .ok (.bipush 32, 2) := by decide +kernel
theorem dX8_outputAt_29 : decode cX8_outputAt 29 = .ok (.ireturn, 1) := by decide +kernel
set_option maxRecDepth 20000 in
theorem ggX8_type_X8_in : GoodIn wsX8_type wsX8_in := goodIn_r _ [7] (by decide +kernel) (by decide +kernel)
set_option maxRecDepth 20000 in
theorem gX8_type_X8_in : GoodIn wsX8_type (va_wsS RX8 54 yX8_in wsX8_in) := goodIn_app (goodIn_of _ (by decide +kernel)) ggX8_type_X8_in
theorem dX8_type_0 : decode cX8_type 0 = .ok (.aload_n 0, 1) := by decide +kernel
theorem dX8_type_1 : decode cX8_type 1 = .ok (.iload_n 1, 1) := by decide +kernel
theorem dX8_type_2 : decode cX8_type 2 = .ok (.bipush 32, 2) := by decide +kernel
theorem dX8_type_4 : decode cX8_type 4 = .ok (.bipush 126, 2) := by decide +kernel
theorem dX8_type_6 : decode cX8_type 6 = .ok (.invokestatic 54, 3) := by decide +kernel
theorem dX8_type_9 : decode cX8_type 9 = .ok (.ifCond .ne 7, 3) := by decide +kernel
theorem dX8_type_12 : decode cX8_type 12 = .ok (.iconst 1, 1) := by decide +kernel
theorem dX8_type_13 : decode cX8_type 13 = .ok (.goto 17, 3) := by decide +kernel
theorem dX8_type_16 : decode cX8_type 16 = .ok (.aload_n 0, 1) := by decide +kernel
theorem dX8_type_17 : decode cX8_type 17 = .ok (.getfield 190, 3) := by decide +kernel
theorem dX8_type_20 : decode cX8_type 20 = .ok (.bipush 60, 2) := by decide +kernel
theorem dX8_type_22 : decode cX8_type 22 = .ok (.if_icmp .ne 7, 3) := by decide +kernel
theorem dX8_type_25 : decode cX8_type 25 = .ok (.iconst 2, 1) := by decide +kernel
theorem dX8_type_26 : decode cX8_type 26 = .ok (.goto 4, 3) := by decide +kernel
theorem dX8_type_29 : decode cX8_type 29 = .ok (.iconst 0, 1) := by decide +kernel
theorem dX8_type_30 : decode cX8_type 30 = .ok (.putfield 42, 3) := by decide +kernel
theorem dX8_type_33 : decode cX8_type 33 = .ok (.aload_n 0, 1) := by decide +kernel
theorem dX8_type_34 : decode cX8_type 34 = .ok (.getfield 42, 3) := by decide +kernel
theorem dX8_type_37 : decode cX8_type 37 = .ok (.ifCond .le 5, 3) := by decide +kernel
theorem dX8_type_40 : decode cX8_type 40 = .ok (.iconst 0, 1) := by decide +kernel
theorem dX8_type_41 : decode cX8_type 41 = .ok (.ireturn, 1) := by decide +kernel
theorem dX8_type_42 : decode cX8_type 42 = .ok (.aload_n 0, 1) := by decide +kernel
theorem dX8_type_43 : decode cX8_type 43 = .ok (.getfield 29, 3) := by decide +kernel
theorem dX8_type_46 : decode cX8_type 46 = .ok (.aload_n 0, 1) := by decide +kernel
theorem dX8_type_47 : decode cX8_type 47 = .ok (.getfield 190, 3) := by decide +kernel
theorem dX8_type_50 : decode cX8_type 50 = .ok (.iload_n 1, 1) := by decide +kernel
theorem dX8_type_51 : decode cX8_type 51 = .ok (.castore, 1) := by decide +kernel
theorem dX8_type_52 : decode cX8_type 52 = .ok (.aload_n 0, 1) := by decide +kernel
theorem dX8_type_53 : decode cX8_type 53 = .ok (.dup, 1) := by decide +kernel
theorem dX8_type_54 : decode cX8_type 54 = .ok (.getfield 190, 3) := by decide +kernel
theorem dX8_type_57 : decode cX8_type 57 = .ok (.iconst 1, 1) := by decide +kernel
theorem dX8_type_58 : decode cX8_type 58 = .ok (.iadd, 1) := by decide +kernel
theorem dX8_type_59 : decode cX8_type 59 = .ok (.putfield 190, 3) := by decide +kernel
theorem dX8_type_62 : decode cX8_type 62 = .ok (.aload_n 0, 1) := by decide +kernel
theorem dX8_type_63 : decode cX8_type 63 = .ok (.getfield 190, 3) := by decide +kernel
theorem dX8_type_66 : decode cX8_type 66 = .ok (.ireturn, 1) := by decide +kernel
theorem dX8_behind_0 : decode cX8_behind 0 = .ok (.aload_n 0, 1) := by decide +kernel
theorem dX8_behind_1 : decode cX8_behind 1 = .ok (.getfield 193, 3) := by decide +kernel
theorem dX8_behind_4 : decode cX8_behind 4 = .ok (.iload_n 1, 1) := by decide +kernel
theorem dX8_behind_5 : decode cX8_behind 5 = .ok (.iadd, 1) := by decide +kernel
theorem dX8_behind_6 : decode cX8_behind 6 = .ok (.aload_n 0, 1) := by decide +kernel
theorem dX8_behind_7 : decode cX8_behind 7 = .ok (.getfield 190, 3) := by decide +kernel
theorem dX8_behind_10 : decode cX8_behind 10 = .ok (.if_icmp .ge 17, 3) := by decide +kernel
theorem dX8_behind_13 : decode cX8_behind 13 = .ok (.aload_n 0, 1) := by decide +kernel
theorem dX8_behind_14 : decode cX8_behind 14 = .ok (.getfield 29, 3) := by decide +kernel
theorem dX8_behind_17 : decode cX8_behind 17 = .ok (.aload_n 0, 1) := by decide +kernel
theorem dX8_behind_18 : decode cX8_behind 18 = .ok (.getfield 193, 3) := by decide +kernel
theorem dX8_behind_21 : decode cX8_behind 21 = .ok (.iload_n 1, 1) := by decide +kernel
theorem dX8_behind_22 : decode cX8_behind 22 = .ok (.iadd, 1) := by decide +kernel
theorem dX8_behind_23 : decode cX8_behind 23 = .ok (.caload, 1) := by decide +kernel
theorem dX8_behind_24 : decode cX8_behind 24 = .ok (.goto 4, 3) := by decide +kernel
theorem dX8_behind_27 : decode cX8_behind 27 = .ok (.iconst 0, 1) := by decide +kernel
theorem dX8_behind_28 : decode cX8_behind 28 = .ok (.ireturn, 1) := by decide +kernel
set_option maxRecDepth 20000 in
theorem ggX8_skip_J0_length_8abf5 : GoodIn wsX8_skip wsJ0_length_8abf5 := goodIn_r _ [7, 8, 9, 10, 11, 6, 12, 13, 14, 77, 78, 79, 80] (by decide +kernel) (by decide +kernel)
set_option maxRecDepth 20000 in
theorem gX8_skip_J0_length_8abf5 : GoodIn wsX8_skip (wsV RX8 196 RJ0 yJ0_length_8abf5 wsJ0_length_8abf5) := goodIn_app (goodIn_of _ (by decide +kernel)) ggX8_skip_J0_length_8abf5
set_option maxRecDepth 20000 in
theorem ggX8_skip_X8_behind : GoodIn wsX8_skip wsX8_behind := goodIn_ca (goodIn_r _ [19, 2, 20, 21, 59, 60, 61, 62, 63, 64, 65, 66, 67, 68, 69, 70, 71, 72, 73, 74, 75, 76] (by decide +kernel) (by decide +kernel)) (goodIn_sub (fun _ h => List.mem_cons_of_mem _ (List.mem_append_right _ h)) (by decide +kernel))
set_option maxRecDepth 20000 in
theorem gX8_skip_X8_behind : GoodIn wsX8_skip (wsV RX8 204 RX8 yX8_behind wsX8_behind) := goodIn_app (goodIn_of _ (by decide +kernel)) ggX8_skip_X8_behind
set_option maxRecDepth 20000 in
theorem ggX8_skip_J0_charAt_5068e : GoodIn wsX8_skip wsJ0_charAt_5068e := goodIn_r _ [25, 8, 26, 27, 28, 6, 29, 13, 14, 30, 31, 32, 33, 34, 35, 36, 37, 38, 39, 40, 41, 42, 43, 44, 45, 46, 47, 48, 49, 50, 51, 52, 53, 54, 55, 56, 57, 58, 77, 78, 79, 80] (by decide +kernel) (by decide +kernel)
set_option maxRecDepth 20000 in
theorem gX8_skip_J0_charAt_5068e : GoodIn wsX8_skip (wsV RX8 208 RJ0 yJ0_charAt_5068e wsJ0_charAt_5068e) := goodIn_app (goodIn_of _ (by decide +kernel)) ggX8_skip_J0_charAt_5068e
theorem dX8_skip_0 : decode cX8_skip 0 = .ok (.iconst 0, 1) := by decide +kernel
theorem dX8_skip_1 : decode cX8_skip 1 = .ok (.istore_n 2, 1) := by decide +kernel
theorem dX8_skip_2 : decode cX8_skip 2 = .ok (.iload_n 2, 1) := by decide +kernel
theorem dX8_skip_3 : decode cX8_skip 3 = .ok (.aload_n 1, 1) := by decide +kernel
theorem dX8_skip_4 : decode cX8_skip 4 = .ok (.invokevirtual 196, 3) := by decide +kernel
theorem dX8_skip_7 : decode cX8_skip 7 = .ok (.if_icmp .ge 59, 3) := by decide +kernel
theorem dX8_skip_10 : decode cX8_skip 10 = .ok (.aload_n 0, 1) := by decide +kernel
theorem dX8_skip_11 : decode cX8_skip 11 = .ok (.getfield 200, 3) := by decide +kernel
theorem dX8_skip_14 : decode cX8_skip 14 = .ok (.ifCond .ne 52, 3) := by decide +kernel
theorem dX8_skip_17 : decode cX8_skip 17 = .ok (.aload_n 0, 1) := by decide +kernel
theorem dX8_skip_18 : decode cX8_skip 18 = .ok (.aload_n 0, 1) := by decide +kernel
theorem dX8_skip_19 : decode cX8_skip 19 = .ok (.iconst 0, 1) := by decide +kernel
theorem dX8_skip_20 : decode cX8_skip 20 = .ok (.invokevirtual 204, 3) := by decide +kernel
theorem dX8_skip_23 : decode cX8_skip 23 = .ok (.aload_n 1, 1) := by decide +kernel
theorem dX8_skip_24 : decode cX8_skip 24 = .ok (.iload_n 2, 1) := by decide +kernel
theorem dX8_skip_25 : decode cX8_skip 25 = .ok (.invokevirtual 208, 3) := by decide +kernel
theorem dX8_skip_28 : decode cX8_skip 28 = .ok (.if_icmp .eq 7, 3) := by decide +kernel
theorem dX8_skip_31 : decode cX8_skip 31 = .ok (.iconst 1, 1) := by decide +kernel
theorem dX8_skip_32 : decode cX8_skip 32 = .ok (.goto 4, 3) := by decide +kernel
theorem dX8_skip_35 : decode cX8_skip 35 = .ok (.iconst 0, 1) := by decide +kernel
theorem dX8_skip_36 : decode cX8_skip 36 = .ok (.putfield 200, 3) := by decide +kernel
theorem dX8_skip_39 : decode cX8_skip 39 = .ok (.aload_n 0, 1) := by decide +kernel
theorem dX8_skip_40 : decode cX8_skip 40 = .ok (.dup, 1) := by decide +kernel
theorem dX8_skip_41 : decode cX8_skip 41 = .ok (.getfield 193, 3) := by decide +kernel
theorem dX8_skip_44 : decode cX8_skip 44 = .ok (.aload_n 0, 1) := by decide +kernel
theorem dX8_skip_45 : decode cX8_skip 45 = .ok (.getfield 200, 3) := by decide +kernel
theorem dX8_skip_48 : decode cX8_skip 48 = .ok (.ifCond .eq 7, 3) := by decide +kernel
theorem dX8_skip_51 : decode cX8_skip 51 = .ok (.iconst 0, 1) := by decide +kernel
theorem dX8_skip_52 : decode cX8_skip 52 = .ok (.goto 4, 3) := by decide +kernel
theorem dX8_skip_55 : decode cX8_skip 55 = .ok (.iconst 1, 1) := by decide +kernel
theorem dX8_skip_56 : decode cX8_skip 56 = .ok (.iadd, 1) := by decide +kernel
theorem dX8_skip_57 : decode cX8_skip 57 = .ok (.putfield 193, 3) := by decide +kernel
theorem dX8_skip_60 : decode cX8_skip 60 = .ok (.iinc 2 1, 3) := by decide +kernel
theorem dX8_skip_63 : decode cX8_skip 63 = .ok (.goto (-61), 3) := by decide +kernel
theorem dX8_skip_66 : decode cX8_skip 66 = .ok (.return_, 1) := by decide +kernel
set_option maxRecDepth 20000 in
theorem ggX8_isDigit_X8_behind : GoodIn wsX8_isDigit wsX8_behind := goodIn_ca (goodIn_r _ [6, 7, 8, 9, 13, 14, 15, 16, 17, 18, 19, 20, 21, 22, 23, 24, 25, 26, 27, 28, 29, 30] (by decide +kernel) (by decide +kernel)) (goodIn_sub (fun _ h => List.mem_cons_of_mem _ (List.mem_append_right _ h)) (by decide +kernel))
set_option maxRecDepth 20000 in
theorem gX8_isDigit_X8_behind : GoodIn wsX8_isDigit (wsV RX8 204 RX8 yX8_behind wsX8_behind) := goodIn_app (goodIn_of _ (by decide +kernel)) ggX8_isDigit_X8_behind
set_option maxRecDepth 20000 in
theorem ggX8_isDigit_X8_in : GoodIn wsX8_isDigit wsX8_in := goodIn_r _ [12] (by decide +kernel) (by decide +kernel)
set_option maxRecDepth 20000 in
theorem gX8_isDigit_X8_in : GoodIn wsX8_isDigit (va_wsS RX8 54 yX8_in wsX8_in) := goodIn_app (goodIn_of _ (by decide +kernel)) ggX8_isDigit_X8_in
theorem dX8_isDigit_0 : decode cX8_isDigit 0 = .ok (.aload_n 0, 1) := by decide +kernel
theorem dX8_isDigit_1 : decode cX8_isDigit 1 = .ok (.getfield 200, 3) := by decide +kernel
theorem dX8_isDigit_4 : decode cX8_isDigit 4 = .ok (.ifCond .ne 22, 3) := by decide +kernel
theorem dX8_isDigit_7 : decode cX8_isDigit 7 = .ok (.aload_n 0, 1) := by decide +kernel
theorem dX8_isDigit_8 : decode cX8_isDigit 8 = .ok (.iconst 0, 1) := by decide +kernel
theorem dX8_isDigit_9 : decode cX8_isDigit 9 = .ok (.invokevirtual 204, 3) := by decide +kernel
theorem dX8_isDigit_12 : decode cX8_isDigit 12 = .ok (.bipush 48, 2) := by decide +kernel
theorem dX8_isDigit_14 : decode cX8_isDigit 14 = .ok (.bipush 57, 2) := by decide +kernel
theorem dX8_isDigit_16 : decode cX8_isDigit 16 = .ok (.invokestatic 54, 3) := by decide +kernel
theorem dX8_isDigit_19 : decode cX8_isDigit 19 = .ok (.ifCond .eq 7, 3) := by decide +kernel
theorem dX8_isDigit_22 : decode cX8_isDigit 22 = .ok (.iconst 1, 1) := by decide +kernel
theorem dX8_isDigit_23 : decode cX8_isDigit 23 = .ok (.goto 4, 3) := by decide +kernel
theorem dX8_isDigit_26 : decode cX8_isDigit 26 = .ok (.iconst 0, 1) := by decide +kernel
theorem dX8_isDigit_27 : decode cX8_isDigit 27 = .ok (.ireturn, 1) := by decide +kernel
set_option maxRecDepth 20000 in
theorem ggX8_digit_X8_isDigit : GoodIn wsX8_digit wsX8_isDigit := goodIn_ca (goodIn_r _ [8, 1, 9, 10, 11, 7, 12, 2, 13, 3, 14, 15, 16, 17, 18, 19, 20, 21, 22, 23, 24, 25, 26, 27, 28, 29, 30, 31, 32, 33, 34] (by decide +kernel) (by decide +kernel)) (goodIn_sub (fun _ h => List.mem_cons_of_mem _ (List.mem_append_right _ h)) (by decide +kernel))
set_option maxRecDepth 20000 in
theorem gX8_digit_X8_isDigit : GoodIn wsX8_digit (wsV RX8 211 RX8 yX8_isDigit wsX8_isDigit) := goodIn_app (goodIn_of _ (by decide +kernel)) ggX8_digit_X8_isDigit
theorem dX8_digit_0 : decode cX8_digit 0 = .ok (.aload_n 0, 1) := by decide +kernel
theorem dX8_digit_1 : decode cX8_digit 1 = .ok (.aload_n 0, 1) := by decide +kernel
theorem dX8_digit_2 : decode cX8_digit 2 = .ok (.getfield 200, 3) := by decide +kernel
theorem dX8_digit_5 : decode cX8_digit 5 = .ok (.ifCond .ne 10, 3) := by decide +kernel
theorem dX8_digit_8 : decode cX8_digit 8 = .ok (.aload_n 0, 1) := by decide +kernel
theorem dX8_digit_9 : decode cX8_digit 9 = .ok (.invokevirtual 211, 3) := by decide +kernel
theorem dX8_digit_12 : decode cX8_digit 12 = .ok (.ifCond .ne 7, 3) := by decide +kernel
theorem dX8_digit_15 : decode cX8_digit 15 = .ok (.iconst 1, 1) := by decide +kernel
theorem dX8_digit_16 : decode cX8_digit 16 = .ok (.goto 4, 3) := by decide +kernel
theorem dX8_digit_19 : decode cX8_digit 19 = .ok (.iconst 0, 1) := by decide +kernel
theorem dX8_digit_20 : decode cX8_digit 20 = .ok (.putfield 200, 3) := by decide +kernel
theorem dX8_digit_23 : decode cX8_digit 23 = .ok (.aload_n 0, 1) := by decide +kernel
theorem dX8_digit_24 : decode cX8_digit 24 = .ok (.getfield 200, 3) := by decide +kernel
theorem dX8_digit_27 : decode cX8_digit 27 = .ok (.ifCond .eq 5, 3) := by decide +kernel
theorem dX8_digit_30 : decode cX8_digit 30 = .ok (.iconst 0, 1) := by decide +kernel
theorem dX8_digit_31 : decode cX8_digit 31 = .ok (.ireturn, 1) := by decide +kernel
theorem dX8_digit_32 : decode cX8_digit 32 = .ok (.aload_n 0, 1) := by decide +kernel
theorem dX8_digit_33 : decode cX8_digit 33 = .ok (.dup, 1) := by decide +kernel
theorem dX8_digit_34 : decode cX8_digit 34 = .ok (.getfield 193, 3) := by decide +kernel
theorem dX8_digit_37 : decode cX8_digit 37 = .ok (.iconst 1, 1) := by decide +kernel
theorem dX8_digit_38 : decode cX8_digit 38 = .ok (.iadd, 1) := by decide +kernel
theorem dX8_digit_39 : decode cX8_digit 39 = .ok (.putfield 193, 3) := by decide +kernel
theorem dX8_digit_42 : decode cX8_digit 42 = .ok (.aload_n 0, 1) := by decide +kernel
theorem dX8_digit_43 : decode cX8_digit 43 = .ok (.getfield 29, 3) := by decide +kernel
theorem dX8_digit_46 : decode cX8_digit 46 = .ok (.aload_n 0, 1) := by decide +kernel
theorem dX8_digit_47 : decode cX8_digit 47 = .ok (.getfield 193, 3) := by decide +kernel
theorem dX8_digit_50 : decode cX8_digit 50 = .ok (.iconst 1, 1) := by decide +kernel
theorem dX8_digit_51 : decode cX8_digit 51 = .ok (.isub, 1) := by decide +kernel
theorem dX8_digit_52 : decode cX8_digit 52 = .ok (.caload, 1) := by decide +kernel
theorem dX8_digit_53 : decode cX8_digit 53 = .ok (.bipush 48, 2) := by decide +kernel
theorem dX8_digit_55 : decode cX8_digit 55 = .ok (.isub, 1) := by decide +kernel
theorem dX8_digit_56 : decode cX8_digit 56 = .ok (.ireturn, 1) := by decide +kernel
set_option maxRecDepth 20000 in
theorem ggX8_number_X8_digit : GoodIn wsX8_number wsX8_digit := goodIn_ca (goodIn_r _ [5, 6, 7, 8, 9, 10, 11, 4, 12, 13, 14, 15, 16, 17, 18, 19, 20, 21, 22, 23, 24, 25, 26, 27, 28, 29, 30, 31, 32, 33, 34, 35, 36, 37, 38] (by decide +kernel) (by decide +kernel)) (goodIn_sub (fun _ h => List.mem_cons_of_mem _ (List.mem_append_right _ h)) (by decide +kernel))
set_option maxRecDepth 20000 in
theorem gX8_number_X8_digit : GoodIn wsX8_number (wsV RX8 215 RX8 yX8_digit wsX8_digit) := goodIn_app (goodIn_of _ (by decide +kernel)) ggX8_number_X8_digit
set_option maxRecDepth 20000 in
theorem ggX8_number_X8_isDigit : GoodIn wsX8_number wsX8_isDigit := goodIn_ca (goodIn_r _ [12, 6, 13, 14, 15, 4, 16, 7, 17, 8, 18, 19, 20, 21, 22, 23, 24, 25, 26, 27, 28, 29, 30, 31, 32, 33, 34, 35, 36, 37, 38] (by decide +kernel) (by decide +kernel)) (goodIn_sub (fun _ h => List.mem_cons_of_mem _ (List.mem_append_right _ h)) (by decide +kernel))
set_option maxRecDepth 20000 in
theorem gX8_number_X8_isDigit : GoodIn wsX8_number (wsV RX8 211 RX8 yX8_isDigit wsX8_isDigit) := goodIn_app (goodIn_of _ (by decide +kernel)) ggX8_number_X8_isDigit
theorem dX8_number_0 : decode cX8_number 0 = .ok (.aload_n 0, 1) := by decide +kernel
theorem dX8_number_1 : decode cX8_number 1 = .ok (.invokevirtual 215, 3) := by decide +kernel
theorem dX8_number_4 : decode cX8_number 4 = .ok (.istore_n 1, 1) := by decide +kernel
theorem dX8_number_5 : decode cX8_number 5 = .ok (.aload_n 0, 1) := by decide +kernel
theorem dX8_number_6 : decode cX8_number 6 = .ok (.invokevirtual 211, 3) := by decide +kernel
theorem dX8_number_9 : decode cX8_number 9 = .ok (.ifCond .eq 15, 3) := by decide +kernel
theorem dX8_number_12 : decode cX8_number 12 = .ok (.bipush 10, 2) := by decide +kernel
theorem dX8_number_14 : decode cX8_number 14 = .ok (.iload_n 1, 1) := by decide +kernel
theorem dX8_number_15 : decode cX8_number 15 = .ok (.imul, 1) := by decide +kernel
theorem dX8_number_16 : decode cX8_number 16 = .ok (.aload_n 0, 1) := by decide +kernel
theorem dX8_number_17 : decode cX8_number 17 = .ok (.invokevirtual 215, 3) := by decide +kernel
theorem dX8_number_20 : decode cX8_number 20 = .ok (.iadd, 1) := by decide +kernel
theorem dX8_number_21 : decode cX8_number 21 = .ok (.goto 4, 3) := by decide +kernel
theorem dX8_number_24 : decode cX8_number 24 = .ok (.iload_n 1, 1) := by decide +kernel
theorem dX8_number_25 : decode cX8_number 25 = .ok (.ireturn, 1) := by decide +kernel
set_option maxRecDepth 20000 in
theorem ggX8_letter_X8_behind : GoodIn wsX8_letter wsX8_behind := goodIn_ca (goodIn_r _ [7, 2, 8, 9, 99, 100, 101, 102, 103, 104, 105, 106, 107, 108, 109, 110, 111, 112, 113, 114, 115, 116] (by decide +kernel) (by decide +kernel)) (goodIn_sub (fun _ h => List.mem_cons_of_mem _ (List.mem_append_right _ h)) (by decide +kernel))
set_option maxRecDepth 20000 in
theorem gX8_letter_X8_behind : GoodIn wsX8_letter (wsV RX8 204 RX8 yX8_behind wsX8_behind) := goodIn_app (goodIn_of _ (by decide +kernel)) ggX8_letter_X8_behind
set_option maxRecDepth 20000 in
theorem ggX8_letter_J0_indexOf_0f7a4 : GoodIn wsX8_letter wsJ0_indexOf_0f7a4 := goodIn_r _ [14, 15, 16, 17, 13, 18, 19, 20, 21, 22, 23, 24, 25, 26, 27, 28, 29, 30, 31, 32, 33, 34, 35, 36, 37, 38, 39, 40, 41, 42, 43, 44, 45, 46, 47, 48, 49, 50, 51, 52, 53, 54, 55, 56, 57, 58, 59, 60, 61, 62, 63, 64, 65, 66, 67, 68, 69, 70, 71, 72, 73, 74, 75, 76, 77, 78, 79, 80, 81, 82, 83, 84, 85, 86, 87, 88, 89, 90, 91, 92, 93, 94, 95, 96, 97, 98, 117, 118, 119, 120] (by decide +kernel) (by decide +kernel)
set_option maxRecDepth 20000 in
theorem gX8_letter_J0_indexOf_0f7a4 : GoodIn wsX8_letter (wsV RX8 218 RJ0 yJ0_indexOf_0f7a4 wsJ0_indexOf_0f7a4) := goodIn_app (goodIn_of _ (by decide +kernel)) ggX8_letter_J0_indexOf_0f7a4
theorem dX8_letter_0 : decode cX8_letter 0 = .ok (.aload_n 0, 1) := by decide +kernel
theorem dX8_letter_1 : decode cX8_letter 1 = .ok (.getfield 200, 3) := by decide +kernel
theorem dX8_letter_4 : decode cX8_letter 4 = .ok (.ifCond .eq 7, 3) := by decide +kernel
theorem dX8_letter_7 : decode cX8_letter 7 = .ok (.iconst (-1), 1) := by decide +kernel
theorem dX8_letter_8 : decode cX8_letter 8 = .ok (.goto 12, 3) := by decide +kernel
theorem dX8_letter_11 : decode cX8_letter 11 = .ok (.aload_n 1, 1) := by decide +kernel
theorem dX8_letter_12 : decode cX8_letter 12 = .ok (.aload_n 0, 1) := by decide +kernel
theorem dX8_letter_13 : decode cX8_letter 13 = .ok (.iconst 0, 1) := by decide +kernel
theorem dX8_letter_14 : decode cX8_letter 14 = .ok (.invokevirtual 204, 3) := by decide +kernel
theorem dX8_letter_17 : decode cX8_letter 17 = .ok (.invokevirtual 218, 3) := by decide +kernel
theorem dX8_letter_20 : decode cX8_letter 20 = .ok (.istore_n 2, 1) := by decide +kernel
theorem dX8_letter_21 : decode cX8_letter 21 = .ok (.aload_n 0, 1) := by decide +kernel
theorem dX8_letter_22 : decode cX8_letter 22 = .ok (.iload_n 2, 1) := by decide +kernel
theorem dX8_letter_23 : decode cX8_letter 23 = .ok (.ifCond .ge 7, 3) := by decide +kernel
theorem dX8_letter_26 : decode cX8_letter 26 = .ok (.iconst 1, 1) := by decide +kernel
theorem dX8_letter_27 : decode cX8_letter 27 = .ok (.goto 4, 3) := by decide +kernel
theorem dX8_letter_30 : decode cX8_letter 30 = .ok (.iconst 0, 1) := by decide +kernel
theorem dX8_letter_31 : decode cX8_letter 31 = .ok (.putfield 200, 3) := by decide +kernel
theorem dX8_letter_34 : decode cX8_letter 34 = .ok (.aload_n 0, 1) := by decide +kernel
theorem dX8_letter_35 : decode cX8_letter 35 = .ok (.dup, 1) := by decide +kernel
theorem dX8_letter_36 : decode cX8_letter 36 = .ok (.getfield 193, 3) := by decide +kernel
theorem dX8_letter_39 : decode cX8_letter 39 = .ok (.aload_n 0, 1) := by decide +kernel
theorem dX8_letter_40 : decode cX8_letter 40 = .ok (.getfield 200, 3) := by decide +kernel
theorem dX8_letter_43 : decode cX8_letter 43 = .ok (.ifCond .eq 7, 3) := by decide +kernel
theorem dX8_letter_46 : decode cX8_letter 46 = .ok (.iconst 0, 1) := by decide +kernel
theorem dX8_letter_47 : decode cX8_letter 47 = .ok (.goto 4, 3) := by decide +kernel
theorem dX8_letter_50 : decode cX8_letter 50 = .ok (.iconst 1, 1) := by decide +kernel
theorem dX8_letter_51 : decode cX8_letter 51 = .ok (.iadd, 1) := by decide +kernel
theorem dX8_letter_52 : decode cX8_letter 52 = .ok (.putfield 193, 3) := by decide +kernel
theorem dX8_letter_55 : decode cX8_letter 55 = .ok (.iload_n 2, 1) := by decide +kernel
theorem dX8_letter_56 : decode cX8_letter 56 = .ok (.ireturn, 1) := by decide +kernel
set_option maxRecDepth 20000 in
theorem ggX8_kind_X8_behind : GoodIn wsX8_kind wsX8_behind := goodIn_ca (goodIn_r _ [5, 6, 7, 8, 9, 10, 11, 12, 13, 14, 15, 16, 17, 18, 19, 20, 21, 22, 23, 24, 25, 26] (by decide +kernel) (by decide +kernel)) (goodIn_sub (fun _ h => List.mem_cons_of_mem _ (List.mem_append_right _ h)) (by decide +kernel))
set_option maxRecDepth 20000 in
theorem gX8_kind_X8_behind : GoodIn wsX8_kind (wsV RX8 204 RX8 yX8_behind wsX8_behind) := goodIn_app (goodIn_of _ (by decide +kernel)) ggX8_kind_X8_behind
theorem dX8_kind_0 : decode cX8_kind 0 = .ok (.aload_n 0, 1) := by decide +kernel
theorem dX8_kind_1 : decode cX8_kind 1 = .ok (.iconst 0, 1) := by decide +kernel
theorem dX8_kind_2 : decode cX8_kind 2 = .ok (.invokevirtual 204, 3) := by decide +kernel
theorem dX8_kind_5 : decode cX8_kind 5 = .ok (.istore_n 1, 1) := by decide +kernel
theorem dX8_kind_6 : decode cX8_kind 6 = .ok (.aload_n 0, 1) := by decide +kernel
theorem dX8_kind_7 : decode cX8_kind 7 = .ok (.iconst 1, 1) := by decide +kernel
theorem dX8_kind_8 : decode cX8_kind 8 = .ok (.invokevirtual 204, 3) := by decide +kernel
theorem dX8_kind_11 : decode cX8_kind 11 = .ok (.istore_n 2, 1) := by decide +kernel
theorem dX8_kind_12 : decode cX8_kind 12 = .ok (.iload_n 1, 1) := by decide +kernel
theorem dX8_kind_13 : decode cX8_kind 13 = .ok (.bipush 116, 2) := by decide +kernel
theorem dX8_kind_15 : decode cX8_kind 15 = .ok (.if_icmp .ne 19, 3) := by decide +kernel
theorem dX8_kind_18 : decode cX8_kind 18 = .ok (.iload_n 2, 1) := by decide +kernel
theorem dX8_kind_19 : decode cX8_kind 19 = .ok (.bipush 97, 2) := by decide +kernel
theorem dX8_kind_21 : decode cX8_kind 21 = .ok (.if_icmp .ne 8, 3) := by decide +kernel
theorem dX8_kind_24 : decode cX8_kind 24 = .ok (.bipush 97, 2) := by decide +kernel
theorem dX8_kind_26 : decode cX8_kind 26 = .ok (.goto 31, 3) := by decide +kernel
theorem dX8_kind_29 : decode cX8_kind 29 = .ok (.bipush 107, 2) := by decide +kernel
theorem dX8_kind_31 : decode cX8_kind 31 = .ok (.goto 26, 3) := by decide +kernel
theorem dX8_kind_34 : decode cX8_kind 34 = .ok (.iload_n 1, 1) := by decide +kernel
theorem dX8_kind_35 : decode cX8_kind 35 = .ok (.bipush 112, 2) := by decide +kernel
theorem dX8_kind_37 : decode cX8_kind 37 = .ok (.if_icmp .ne 19, 3) := by decide +kernel
theorem dX8_kind_40 : decode cX8_kind 40 = .ok (.iload_n 2, 1) := by decide +kernel
theorem dX8_kind_41 : decode cX8_kind 41 = .ok (.bipush 111, 2) := by decide +kernel
theorem dX8_kind_43 : decode cX8_kind 43 = .ok (.if_icmp .ne 8, 3) := by decide +kernel
theorem dX8_kind_46 : decode cX8_kind 46 = .ok (.bipush 111, 2) := by decide +kernel
theorem dX8_kind_48 : decode cX8_kind 48 = .ok (.goto 9, 3) := by decide +kernel
theorem dX8_kind_51 : decode cX8_kind 51 = .ok (.bipush 112, 2) := by decide +kernel
theorem dX8_kind_53 : decode cX8_kind 53 = .ok (.goto 4, 3) := by decide +kernel
theorem dX8_kind_56 : decode cX8_kind 56 = .ok (.iload_n 1, 1) := by decide +kernel
theorem dX8_kind_57 : decode cX8_kind 57 = .ok (.ireturn, 1) := by decide +kernel
set_option maxRecDepth 20000 in
theorem ggX8_readCommand_X8_behind : GoodIn wsX8_readCommand wsX8_behind := goodIn_ca (goodIn_r _ [8, 9, 10, 11, 149, 150, 151, 152, 153, 154, 155, 156, 157, 158, 159, 160, 161, 162, 163, 164, 165, 166] (by decide +kernel) (by decide +kernel)) (goodIn_sub (fun _ h => List.mem_cons_of_mem _ (List.mem_append_right _ h)) (by decide +kernel))
set_option maxRecDepth 20000 in
theorem gX8_readCommand_X8_behind : GoodIn wsX8_readCommand (wsV RX8 204 RX8 yX8_behind wsX8_behind) := goodIn_app (goodIn_of _ (by decide +kernel)) ggX8_readCommand_X8_behind
set_option maxRecDepth 20000 in
theorem ggX8_readCommand_X8_kind : GoodIn wsX8_readCommand wsX8_kind := goodIn_ca (goodIn_r _ [15, 4, 5, 6, 7, 8, 9, 10, 11, 149, 150, 151, 152, 153, 154, 155, 156, 157, 158, 159, 160, 161, 162, 163, 164, 165, 166] (by decide +kernel) (by decide +kernel)) (goodIn_sub (fun _ h => List.mem_cons_of_mem _ (List.mem_append_right _ h)) (by decide +kernel))
set_option maxRecDepth 20000 in
theorem gX8_readCommand_X8_kind : GoodIn wsX8_readCommand (wsV RX8 221 RX8 yX8_kind wsX8_kind) := goodIn_app (goodIn_of _ (by decide +kernel)) ggX8_readCommand_X8_kind
set_option maxRecDepth 20000 in
theorem ggX8_readCommand_X8_skip : GoodIn wsX8_readCommand wsX8_skip := goodIn_ca (goodIn_r _ [19, 1, 9, 20, 21, 22, 23, 24, 25, 26, 27, 28, 29, 30, 31, 4, 5, 6, 7, 8, 10, 11, 32, 33, 34, 35, 36, 37, 38, 39, 40, 41, 42, 43, 44, 45, 46, 47, 48, 49, 50, 51, 52, 53, 54, 55, 56, 57, 58, 59, 60, 61, 62, 63, 64, 65, 66, 67, 68, 149, 150, 151, 152, 153, 154, 155, 156, 157, 158, 159, 160, 161, 162, 163, 164, 165, 166, 167, 168, 169, 170] (by decide +kernel) (by decide +kernel)) (goodIn_sub (fun _ h => List.mem_cons_of_mem _ (List.mem_append_right _ h)) (by decide +kernel))
set_option maxRecDepth 20000 in
theorem gX8_readCommand_X8_skip : GoodIn wsX8_readCommand (wsV RX8 232 RX8 yX8_skip wsX8_skip) := goodIn_app (goodIn_of _ (by decide +kernel)) ggX8_readCommand_X8_skip
set_option maxRecDepth 20000 in
theorem ggX8_readCommand_X8_digit : GoodIn wsX8_readCommand wsX8_digit := goodIn_ca (goodIn_r _ [72, 1, 9, 11, 73, 74, 75, 7, 76, 4, 5, 6, 8, 10, 77, 78, 79, 149, 150, 151, 152, 153, 154, 155, 156, 157, 158, 159, 160, 161, 162, 163, 164, 165, 166] (by decide +kernel) (by decide +kernel)) (goodIn_sub (fun _ h => List.mem_cons_of_mem _ (List.mem_append_right _ h)) (by decide +kernel))
set_option maxRecDepth 20000 in
theorem gX8_readCommand_X8_digit : GoodIn wsX8_readCommand (wsV RX8 215 RX8 yX8_digit wsX8_digit) := goodIn_app (goodIn_of _ (by decide +kernel)) ggX8_readCommand_X8_digit
set_option maxRecDepth 20000 in
theorem ggX8_readCommand_X8_letter : GoodIn wsX8_readCommand wsX8_letter := goodIn_ca (goodIn_r _ [83, 1, 9, 4, 5, 6, 7, 8, 10, 11, 84, 85, 86, 23, 87, 88, 89, 90, 91, 25, 36, 37, 38, 39, 30, 31, 92, 21, 22, 24, 26, 27, 28, 29, 93, 94, 42, 95, 96, 97, 98, 99, 100, 101, 102, 103, 104, 105, 106, 107, 108, 109, 110, 54, 111, 112, 113, 114, 115, 116, 117, 118, 119, 120, 59, 60, 61, 121, 122, 123, 47, 124, 125, 50, 126, 127, 128, 129, 63, 64, 65, 66, 67, 68, 130, 131, 132, 133, 134, 135, 136, 137, 138, 139, 140, 141, 142, 143, 144, 149, 150, 151, 152, 153, 154, 155, 156, 157, 158, 159, 160, 161, 162, 163, 164, 165, 166, 167, 168, 169, 170] (by decide +kernel) (by decide +kernel)) (goodIn_sub (fun _ h => List.mem_cons_of_mem _ (List.mem_append_right _ h)) (by decide +kernel))
set_option maxRecDepth 20000 in
theorem gX8_readCommand_X8_letter : GoodIn wsX8_readCommand (wsV RX8 240 RX8 yX8_letter wsX8_letter) := goodIn_app (goodIn_of _ (by decide +kernel)) ggX8_readCommand_X8_letter
set_option maxRecDepth 20000 in
theorem ggX8_readCommand_X8_number : GoodIn wsX8_readCommand wsX8_number := goodIn_ca (goodIn_r _ [148, 69, 70, 71, 7, 72, 1, 9, 11, 73, 74, 75, 76, 4, 5, 6, 8, 10, 77, 78, 79, 149, 150, 151, 152, 153, 154, 155, 156, 157, 158, 159, 160, 161, 162, 163, 164, 165, 166] (by decide +kernel) (by decide +kernel)) (goodIn_sub (fun _ h => List.mem_cons_of_mem _ (List.mem_append_right _ h)) (by decide +kernel))
set_option maxRecDepth 20000 in
theorem gX8_readCommand_X8_number : GoodIn wsX8_readCommand (wsV RX8 244 RX8 yX8_number wsX8_number) := goodIn_app (goodIn_of _ (by decide +kernel)) ggX8_readCommand_X8_number
theorem dX8_readCommand_0 : decode cX8_readCommand 0 = .ok (.aload_n 0, 1) := by decide +kernel
theorem dX8_readCommand_1 : decode cX8_readCommand 1 = .ok (.getfield 200, 3) := by decide +kernel
theorem dX8_readCommand_4 : decode cX8_readCommand 4 = .ok (.ifCond .eq 4, 3) := by decide +kernel
theorem dX8_readCommand_7 : decode cX8_readCommand 7 = .ok (.return_, 1) := by decide +kernel
theorem dX8_readCommand_8 : decode cX8_readCommand 8 = .ok (.aload_n 0, 1) := by decide +kernel
theorem dX8_readCommand_9 : decode cX8_readCommand 9 = .ok (.iconst 0, 1) := by decide +kernel
theorem dX8_readCommand_10 : decode cX8_readCommand 10 = .ok (.invokevirtual 204, 3) := by decide +kernel
theorem dX8_readCommand_13 : decode cX8_readCommand 13 = .ok (.istore_n 1, 1) := by decide +kernel
theorem dX8_readCommand_14 : decode cX8_readCommand 14 = .ok (.aload_n 0, 1) := by decide +kernel
theorem dX8_readCommand_15 : decode cX8_readCommand 15 = .ok (.invokevirtual 221, 3) := by decide +kernel
theorem dX8_readCommand_18 : decode cX8_readCommand 18 = .ok (.istore_n 2, 1) := by decide +kernel
theorem dX8_readCommand_19 : decode cX8_readCommand 19 = .ok (.iconst 4, 1) := by decide +kernel
theorem dX8_readCommand_20 : decode cX8_readCommand 20 = .ok (.aload_n 0, 1) := by decide +kernel
theorem dX8_readCommand_21 : decode cX8_readCommand 21 = .ok (.getfield 225, 3) := by decide +kernel
theorem dX8_readCommand_24 : decode cX8_readCommand 24 = .ok (.imul, 1) := by decide +kernel
theorem dX8_readCommand_25 : decode cX8_readCommand 25 = .ok (.istore_n 3, 1) := by decide +kernel
theorem dX8_readCommand_26 : decode cX8_readCommand 26 = .ok (.aload_n 0, 1) := by decide +kernel
theorem dX8_readCommand_27 : decode cX8_readCommand 27 = .ok (.dup, 1) := by decide +kernel
theorem dX8_readCommand_28 : decode cX8_readCommand 28 = .ok (.getfield 225, 3) := by decide +kernel
theorem dX8_readCommand_31 : decode cX8_readCommand 31 = .ok (.iconst 1, 1) := by decide +kernel
theorem dX8_readCommand_32 : decode cX8_readCommand 32 = .ok (.iadd, 1) := by decide +kernel
theorem dX8_readCommand_33 : decode cX8_readCommand 33 = .ok (.putfield 225, 3) := by decide +kernel
theorem dX8_readCommand_36 : decode cX8_readCommand 36 = .ok (.aload_n 0, 1) := by decide +kernel
theorem dX8_readCommand_37 : decode cX8_readCommand 37 = .ok (.getfield 39, 3) := by decide +kernel
theorem dX8_readCommand_40 : decode cX8_readCommand 40 = .ok (.iload_n 3, 1) := by decide +kernel
theorem dX8_readCommand_41 : decode cX8_readCommand 41 = .ok (.iload_n 2, 1) := by decide +kernel
theorem dX8_readCommand_42 : decode cX8_readCommand 42 = .ok (.iastore, 1) := by decide +kernel
theorem dX8_readCommand_43 : decode cX8_readCommand 43 = .ok (.iload_n 2, 1) := by decide +kernel
theorem dX8_readCommand_44 : decode cX8_readCommand 44 = .ok (.tableswitch 432 97 112 #[80, 432, 432, 340, 432, 432, 432, 432, 432, 398, 150, 398, 432, 432, 231, 299], 80) := by decide +kernel
theorem dX8_readCommand_124 : decode cX8_readCommand 124 = .ok (.aload_n 0, 1) := by decide +kernel
theorem dX8_readCommand_125 : decode cX8_readCommand 125 = .ok (.iload_n 1, 1) := by decide +kernel
theorem dX8_readCommand_126 : decode cX8_readCommand 126 = .ok (.bipush 116, 2) := by decide +kernel
theorem dX8_readCommand_128 : decode cX8_readCommand 128 = .ok (.if_icmp .ne 8, 3) := by decide +kernel
theorem dX8_readCommand_131 : decode cX8_readCommand 131 = .ok (.ldc 228, 2) := by decide +kernel
theorem dX8_readCommand_133 : decode cX8_readCommand 133 = .ok (.goto 5, 3) := by decide +kernel
theorem dX8_readCommand_136 : decode cX8_readCommand 136 = .ok (.ldc 230, 2) := by decide +kernel
theorem dX8_readCommand_138 : decode cX8_readCommand 138 = .ok (.invokevirtual 232, 3) := by decide +kernel
theorem dX8_readCommand_141 : decode cX8_readCommand 141 = .ok (.aload_n 0, 1) := by decide +kernel
theorem dX8_readCommand_142 : decode cX8_readCommand 142 = .ok (.getfield 39, 3) := by decide +kernel
theorem dX8_readCommand_145 : decode cX8_readCommand 145 = .ok (.iload_n 3, 1) := by decide +kernel
theorem dX8_readCommand_146 : decode cX8_readCommand 146 = .ok (.iconst 1, 1) := by decide +kernel
theorem dX8_readCommand_147 : decode cX8_readCommand 147 = .ok (.iadd, 1) := by decide +kernel
theorem dX8_readCommand_148 : decode cX8_readCommand 148 = .ok (.aload_n 0, 1) := by decide +kernel
theorem dX8_readCommand_149 : decode cX8_readCommand 149 = .ok (.invokevirtual 215, 3) := by decide +kernel
theorem dX8_readCommand_152 : decode cX8_readCommand 152 = .ok (.iastore, 1) := by decide +kernel
theorem dX8_readCommand_153 : decode cX8_readCommand 153 = .ok (.aload_n 0, 1) := by decide +kernel
theorem dX8_readCommand_154 : decode cX8_readCommand 154 = .ok (.ldc 236, 2) := by decide +kernel
theorem dX8_readCommand_156 : decode cX8_readCommand 156 = .ok (.invokevirtual 232, 3) := by decide +kernel
theorem dX8_readCommand_159 : decode cX8_readCommand 159 = .ok (.aload_n 0, 1) := by decide +kernel
theorem dX8_readCommand_160 : decode cX8_readCommand 160 = .ok (.getfield 39, 3) := by decide +kernel
theorem dX8_readCommand_163 : decode cX8_readCommand 163 = .ok (.iload_n 3, 1) := by decide +kernel
theorem dX8_readCommand_164 : decode cX8_readCommand 164 = .ok (.iconst 2, 1) := by decide +kernel
theorem dX8_readCommand_165 : decode cX8_readCommand 165 = .ok (.iadd, 1) := by decide +kernel
theorem dX8_readCommand_166 : decode cX8_readCommand 166 = .ok (.aload_n 0, 1) := by decide +kernel
theorem dX8_readCommand_167 : decode cX8_readCommand 167 = .ok (.ldc 238, 2) := by decide +kernel
theorem dX8_readCommand_169 : decode cX8_readCommand 169 = .ok (.invokevirtual 240, 3) := by decide +kernel
theorem dX8_readCommand_172 : decode cX8_readCommand 172 = .ok (.iastore, 1) := by decide +kernel
theorem dX8_readCommand_173 : decode cX8_readCommand 173 = .ok (.aload_n 0, 1) := by decide +kernel
theorem dX8_readCommand_174 : decode cX8_readCommand 174 = .ok (.ldc 236, 2) := by decide +kernel
theorem dX8_readCommand_176 : decode cX8_readCommand 176 = .ok (.invokevirtual 232, 3) := by decide +kernel
theorem dX8_readCommand_179 : decode cX8_readCommand 179 = .ok (.aload_n 0, 1) := by decide +kernel
theorem dX8_readCommand_180 : decode cX8_readCommand 180 = .ok (.getfield 39, 3) := by decide +kernel
theorem dX8_readCommand_183 : decode cX8_readCommand 183 = .ok (.iload_n 3, 1) := by decide +kernel
theorem dX8_readCommand_184 : decode cX8_readCommand 184 = .ok (.iconst 3, 1) := by decide +kernel
theorem dX8_readCommand_185 : decode cX8_readCommand 185 = .ok (.iadd, 1) := by decide +kernel
theorem dX8_readCommand_186 : decode cX8_readCommand 186 = .ok (.aload_n 0, 1) := by decide +kernel
theorem dX8_readCommand_187 : decode cX8_readCommand 187 = .ok (.invokevirtual 244, 3) := by decide +kernel
theorem dX8_readCommand_190 : decode cX8_readCommand 190 = .ok (.iastore, 1) := by decide +kernel
theorem dX8_readCommand_191 : decode cX8_readCommand 191 = .ok (.goto 291, 3) := by decide +kernel
theorem dX8_readCommand_194 : decode cX8_readCommand 194 = .ok (.aload_n 0, 1) := by decide +kernel
theorem dX8_readCommand_195 : decode cX8_readCommand 195 = .ok (.iload_n 1, 1) := by decide +kernel
theorem dX8_readCommand_196 : decode cX8_readCommand 196 = .ok (.bipush 116, 2) := by decide +kernel
theorem dX8_readCommand_198 : decode cX8_readCommand 198 = .ok (.if_icmp .ne 8, 3) := by decide +kernel
theorem dX8_readCommand_201 : decode cX8_readCommand 201 = .ok (.ldc 247, 2) := by decide +kernel
theorem dX8_readCommand_203 : decode cX8_readCommand 203 = .ok (.goto 5, 3) := by decide +kernel
theorem dX8_readCommand_206 : decode cX8_readCommand 206 = .ok (.ldc 230, 2) := by decide +kernel
theorem dX8_readCommand_208 : decode cX8_readCommand 208 = .ok (.invokevirtual 232, 3) := by decide +kernel
theorem dX8_readCommand_211 : decode cX8_readCommand 211 = .ok (.aload_n 0, 1) := by decide +kernel
theorem dX8_readCommand_212 : decode cX8_readCommand 212 = .ok (.getfield 200, 3) := by decide +kernel
theorem dX8_readCommand_215 : decode cX8_readCommand 215 = .ok (.ifCond .ne 17, 3) := by decide +kernel
theorem dX8_readCommand_218 : decode cX8_readCommand 218 = .ok (.aload_n 0, 1) := by decide +kernel
theorem dX8_readCommand_219 : decode cX8_readCommand 219 = .ok (.iconst 0, 1) := by decide +kernel
theorem dX8_readCommand_220 : decode cX8_readCommand 220 = .ok (.invokevirtual 204, 3) := by decide +kernel
theorem dX8_readCommand_223 : decode cX8_readCommand 223 = .ok (.bipush 32, 2) := by decide +kernel
theorem dX8_readCommand_225 : decode cX8_readCommand 225 = .ok (.if_icmp .ne 7, 3) := by decide +kernel
theorem dX8_readCommand_228 : decode cX8_readCommand 228 = .ok (.iconst 1, 1) := by decide +kernel
theorem dX8_readCommand_229 : decode cX8_readCommand 229 = .ok (.goto 4, 3) := by decide +kernel
theorem dX8_readCommand_232 : decode cX8_readCommand 232 = .ok (.iconst 0, 1) := by decide +kernel
theorem dX8_readCommand_233 : decode cX8_readCommand 233 = .ok (.istore 4, 2) := by decide +kernel
theorem dX8_readCommand_235 : decode cX8_readCommand 235 = .ok (.aload_n 0, 1) := by decide +kernel
theorem dX8_readCommand_236 : decode cX8_readCommand 236 = .ok (.iload 4, 2) := by decide +kernel
theorem dX8_readCommand_238 : decode cX8_readCommand 238 = .ok (.ifCond .eq 8, 3) := by decide +kernel
theorem dX8_readCommand_241 : decode cX8_readCommand 241 = .ok (.ldc 236, 2) := by decide +kernel
theorem dX8_readCommand_243 : decode cX8_readCommand 243 = .ok (.goto 5, 3) := by decide +kernel
theorem dX8_readCommand_246 : decode cX8_readCommand 246 = .ok (.ldc 248, 2) := by decide +kernel
theorem dX8_readCommand_248 : decode cX8_readCommand 248 = .ok (.invokevirtual 232, 3) := by decide +kernel
theorem dX8_readCommand_251 : decode cX8_readCommand 251 = .ok (.aload_n 0, 1) := by decide +kernel
theorem dX8_readCommand_252 : decode cX8_readCommand 252 = .ok (.getfield 39, 3) := by decide +kernel
theorem dX8_readCommand_255 : decode cX8_readCommand 255 = .ok (.iload_n 3, 1) := by decide +kernel
theorem dX8_readCommand_256 : decode cX8_readCommand 256 = .ok (.iconst 1, 1) := by decide +kernel
theorem dX8_readCommand_257 : decode cX8_readCommand 257 = .ok (.iadd, 1) := by decide +kernel
theorem dX8_readCommand_258 : decode cX8_readCommand 258 = .ok (.iload 4, 2) := by decide +kernel
theorem dX8_readCommand_260 : decode cX8_readCommand 260 = .ok (.ifCond .eq 10, 3) := by decide +kernel
theorem dX8_readCommand_263 : decode cX8_readCommand 263 = .ok (.aload_n 0, 1) := by decide +kernel
theorem dX8_readCommand_264 : decode cX8_readCommand 264 = .ok (.invokevirtual 244, 3) := by decide +kernel
theorem dX8_readCommand_267 : decode cX8_readCommand 267 = .ok (.goto 4, 3) := by decide +kernel
theorem dX8_readCommand_270 : decode cX8_readCommand 270 = .ok (.iconst 1, 1) := by decide +kernel
theorem dX8_readCommand_271 : decode cX8_readCommand 271 = .ok (.iastore, 1) := by decide +kernel
theorem dX8_readCommand_272 : decode cX8_readCommand 272 = .ok (.goto 210, 3) := by decide +kernel
theorem dX8_readCommand_275 : decode cX8_readCommand 275 = .ok (.aload_n 0, 1) := by decide +kernel
theorem dX8_readCommand_276 : decode cX8_readCommand 276 = .ok (.iload_n 1, 1) := by decide +kernel
theorem dX8_readCommand_277 : decode cX8_readCommand 277 = .ok (.bipush 112, 2) := by decide +kernel
theorem dX8_readCommand_279 : decode cX8_readCommand 279 = .ok (.if_icmp .ne 8, 3) := by decide +kernel
theorem dX8_readCommand_282 : decode cX8_readCommand 282 = .ok (.ldc 250, 2) := by decide +kernel
theorem dX8_readCommand_284 : decode cX8_readCommand 284 = .ok (.goto 5, 3) := by decide +kernel
theorem dX8_readCommand_287 : decode cX8_readCommand 287 = .ok (.ldc 230, 2) := by decide +kernel
theorem dX8_readCommand_289 : decode cX8_readCommand 289 = .ok (.invokevirtual 232, 3) := by decide +kernel
theorem dX8_readCommand_292 : decode cX8_readCommand 292 = .ok (.aload_n 0, 1) := by decide +kernel
theorem dX8_readCommand_293 : decode cX8_readCommand 293 = .ok (.getfield 39, 3) := by decide +kernel
theorem dX8_readCommand_296 : decode cX8_readCommand 296 = .ok (.iload_n 3, 1) := by decide +kernel
theorem dX8_readCommand_297 : decode cX8_readCommand 297 = .ok (.iconst 1, 1) := by decide +kernel
theorem dX8_readCommand_298 : decode cX8_readCommand 298 = .ok (.iadd, 1) := by decide +kernel
theorem dX8_readCommand_299 : decode cX8_readCommand 299 = .ok (.aload_n 0, 1) := by decide +kernel
theorem dX8_readCommand_300 : decode cX8_readCommand 300 = .ok (.invokevirtual 215, 3) := by decide +kernel
theorem dX8_readCommand_303 : decode cX8_readCommand 303 = .ok (.iastore, 1) := by decide +kernel
theorem dX8_readCommand_304 : decode cX8_readCommand 304 = .ok (.aload_n 0, 1) := by decide +kernel
theorem dX8_readCommand_305 : decode cX8_readCommand 305 = .ok (.ldc 236, 2) := by decide +kernel
theorem dX8_readCommand_307 : decode cX8_readCommand 307 = .ok (.invokevirtual 232, 3) := by decide +kernel
theorem dX8_readCommand_310 : decode cX8_readCommand 310 = .ok (.aload_n 0, 1) := by decide +kernel
theorem dX8_readCommand_311 : decode cX8_readCommand 311 = .ok (.getfield 39, 3) := by decide +kernel
theorem dX8_readCommand_314 : decode cX8_readCommand 314 = .ok (.iload_n 3, 1) := by decide +kernel
theorem dX8_readCommand_315 : decode cX8_readCommand 315 = .ok (.iconst 2, 1) := by decide +kernel
theorem dX8_readCommand_316 : decode cX8_readCommand 316 = .ok (.iadd, 1) := by decide +kernel
theorem dX8_readCommand_317 : decode cX8_readCommand 317 = .ok (.aload_n 0, 1) := by decide +kernel
theorem dX8_readCommand_318 : decode cX8_readCommand 318 = .ok (.invokevirtual 215, 3) := by decide +kernel
theorem dX8_readCommand_321 : decode cX8_readCommand 321 = .ok (.iastore, 1) := by decide +kernel
theorem dX8_readCommand_322 : decode cX8_readCommand 322 = .ok (.aload_n 0, 1) := by decide +kernel
theorem dX8_readCommand_323 : decode cX8_readCommand 323 = .ok (.ldc 236, 2) := by decide +kernel
theorem dX8_readCommand_325 : decode cX8_readCommand 325 = .ok (.invokevirtual 232, 3) := by decide +kernel
theorem dX8_readCommand_328 : decode cX8_readCommand 328 = .ok (.aload_n 0, 1) := by decide +kernel
theorem dX8_readCommand_329 : decode cX8_readCommand 329 = .ok (.getfield 39, 3) := by decide +kernel
theorem dX8_readCommand_332 : decode cX8_readCommand 332 = .ok (.iload_n 3, 1) := by decide +kernel
theorem dX8_readCommand_333 : decode cX8_readCommand 333 = .ok (.iconst 3, 1) := by decide +kernel
theorem dX8_readCommand_334 : decode cX8_readCommand 334 = .ok (.iadd, 1) := by decide +kernel
theorem dX8_readCommand_335 : decode cX8_readCommand 335 = .ok (.aload_n 0, 1) := by decide +kernel
theorem dX8_readCommand_336 : decode cX8_readCommand 336 = .ok (.invokevirtual 244, 3) := by decide +kernel
theorem dX8_readCommand_339 : decode cX8_readCommand 339 = .ok (.iastore, 1) := by decide +kernel
theorem dX8_readCommand_340 : decode cX8_readCommand 340 = .ok (.goto 142, 3) := by decide +kernel
theorem dX8_readCommand_343 : decode cX8_readCommand 343 = .ok (.aload_n 0, 1) := by decide +kernel
theorem dX8_readCommand_344 : decode cX8_readCommand 344 = .ok (.ldc 252, 2) := by decide +kernel
theorem dX8_readCommand_346 : decode cX8_readCommand 346 = .ok (.invokevirtual 232, 3) := by decide +kernel
theorem dX8_readCommand_349 : decode cX8_readCommand 349 = .ok (.aload_n 0, 1) := by decide +kernel
theorem dX8_readCommand_350 : decode cX8_readCommand 350 = .ok (.getfield 39, 3) := by decide +kernel
theorem dX8_readCommand_353 : decode cX8_readCommand 353 = .ok (.iload_n 3, 1) := by decide +kernel
theorem dX8_readCommand_354 : decode cX8_readCommand 354 = .ok (.iconst 1, 1) := by decide +kernel
theorem dX8_readCommand_355 : decode cX8_readCommand 355 = .ok (.iadd, 1) := by decide +kernel
theorem dX8_readCommand_356 : decode cX8_readCommand 356 = .ok (.aload_n 0, 1) := by decide +kernel
theorem dX8_readCommand_357 : decode cX8_readCommand 357 = .ok (.invokevirtual 215, 3) := by decide +kernel
theorem dX8_readCommand_360 : decode cX8_readCommand 360 = .ok (.iastore, 1) := by decide +kernel
theorem dX8_readCommand_361 : decode cX8_readCommand 361 = .ok (.aload_n 0, 1) := by decide +kernel
theorem dX8_readCommand_362 : decode cX8_readCommand 362 = .ok (.ldc 236, 2) := by decide +kernel
theorem dX8_readCommand_364 : decode cX8_readCommand 364 = .ok (.invokevirtual 232, 3) := by decide +kernel
theorem dX8_readCommand_367 : decode cX8_readCommand 367 = .ok (.aload_n 0, 1) := by decide +kernel
theorem dX8_readCommand_368 : decode cX8_readCommand 368 = .ok (.getfield 39, 3) := by decide +kernel
theorem dX8_readCommand_371 : decode cX8_readCommand 371 = .ok (.iload_n 3, 1) := by decide +kernel
theorem dX8_readCommand_372 : decode cX8_readCommand 372 = .ok (.iconst 2, 1) := by decide +kernel
theorem dX8_readCommand_373 : decode cX8_readCommand 373 = .ok (.iadd, 1) := by decide +kernel
theorem dX8_readCommand_374 : decode cX8_readCommand 374 = .ok (.aload_n 0, 1) := by decide +kernel
theorem dX8_readCommand_375 : decode cX8_readCommand 375 = .ok (.ldc 254, 2) := by decide +kernel
theorem dX8_readCommand_377 : decode cX8_readCommand 377 = .ok (.invokevirtual 240, 3) := by decide +kernel
theorem dX8_readCommand_380 : decode cX8_readCommand 380 = .ok (.iastore, 1) := by decide +kernel
theorem dX8_readCommand_381 : decode cX8_readCommand 381 = .ok (.goto 101, 3) := by decide +kernel
theorem dX8_readCommand_384 : decode cX8_readCommand 384 = .ok (.aload_n 0, 1) := by decide +kernel
theorem dX8_readCommand_385 : decode cX8_readCommand 385 = .ok (.ldc_w 256, 3) := by decide +kernel
theorem dX8_readCommand_388 : decode cX8_readCommand 388 = .ok (.invokevirtual 232, 3) := by decide +kernel
theorem dX8_readCommand_391 : decode cX8_readCommand 391 = .ok (.aload_n 0, 1) := by decide +kernel
theorem dX8_readCommand_392 : decode cX8_readCommand 392 = .ok (.getfield 39, 3) := by decide +kernel
theorem dX8_readCommand_395 : decode cX8_readCommand 395 = .ok (.iload_n 3, 1) := by decide +kernel
theorem dX8_readCommand_396 : decode cX8_readCommand 396 = .ok (.iconst 1, 1) := by decide +kernel
theorem dX8_readCommand_397 : decode cX8_readCommand 397 = .ok (.iadd, 1) := by decide +kernel
theorem dX8_readCommand_398 : decode cX8_readCommand 398 = .ok (.aload_n 0, 1) := by decide +kernel
theorem dX8_readCommand_399 : decode cX8_readCommand 399 = .ok (.invokevirtual 215, 3) := by decide +kernel
theorem dX8_readCommand_402 : decode cX8_readCommand 402 = .ok (.iastore, 1) := by decide +kernel
theorem dX8_readCommand_403 : decode cX8_readCommand 403 = .ok (.aload_n 0, 1) := by decide +kernel
theorem dX8_readCommand_404 : decode cX8_readCommand 404 = .ok (.ldc 236, 2) := by decide +kernel
theorem dX8_readCommand_406 : decode cX8_readCommand 406 = .ok (.invokevirtual 232, 3) := by decide +kernel
theorem dX8_readCommand_409 : decode cX8_readCommand 409 = .ok (.aload_n 0, 1) := by decide +kernel
theorem dX8_readCommand_410 : decode cX8_readCommand 410 = .ok (.getfield 39, 3) := by decide +kernel
theorem dX8_readCommand_413 : decode cX8_readCommand 413 = .ok (.iload_n 3, 1) := by decide +kernel
theorem dX8_readCommand_414 : decode cX8_readCommand 414 = .ok (.iconst 2, 1) := by decide +kernel
theorem dX8_readCommand_415 : decode cX8_readCommand 415 = .ok (.iadd, 1) := by decide +kernel
theorem dX8_readCommand_416 : decode cX8_readCommand 416 = .ok (.aload_n 0, 1) := by decide +kernel
theorem dX8_readCommand_417 : decode cX8_readCommand 417 = .ok (.invokevirtual 244, 3) := by decide +kernel
theorem dX8_readCommand_420 : decode cX8_readCommand 420 = .ok (.iastore, 1) := by decide +kernel
theorem dX8_readCommand_421 : decode cX8_readCommand 421 = .ok (.aload_n 0, 1) := by decide +kernel
theorem dX8_readCommand_422 : decode cX8_readCommand 422 = .ok (.ldc 236, 2) := by decide +kernel
theorem dX8_readCommand_424 : decode cX8_readCommand 424 = .ok (.invokevirtual 232, 3) := by decide +kernel
theorem dX8_readCommand_427 : decode cX8_readCommand 427 = .ok (.aload_n 0, 1) := by decide +kernel
theorem dX8_readCommand_428 : decode cX8_readCommand 428 = .ok (.getfield 39, 3) := by decide +kernel
theorem dX8_readCommand_431 : decode cX8_readCommand 431 = .ok (.iload_n 3, 1) := by decide +kernel
theorem dX8_readCommand_432 : decode cX8_readCommand 432 = .ok (.iconst 3, 1) := by decide +kernel
theorem dX8_readCommand_433 : decode cX8_readCommand 433 = .ok (.iadd, 1) := by decide +kernel
theorem dX8_readCommand_434 : decode cX8_readCommand 434 = .ok (.aload_n 0, 1) := by decide +kernel
theorem dX8_readCommand_435 : decode cX8_readCommand 435 = .ok (.invokevirtual 244, 3) := by decide +kernel
theorem dX8_readCommand_438 : decode cX8_readCommand 438 = .ok (.iastore, 1) := by decide +kernel
theorem dX8_readCommand_439 : decode cX8_readCommand 439 = .ok (.goto 43, 3) := by decide +kernel
theorem dX8_readCommand_442 : decode cX8_readCommand 442 = .ok (.aload_n 0, 1) := by decide +kernel
theorem dX8_readCommand_443 : decode cX8_readCommand 443 = .ok (.iload_n 2, 1) := by decide +kernel
theorem dX8_readCommand_444 : decode cX8_readCommand 444 = .ok (.bipush 106, 2) := by decide +kernel
theorem dX8_readCommand_446 : decode cX8_readCommand 446 = .ok (.if_icmp .ne 9, 3) := by decide +kernel
theorem dX8_readCommand_449 : decode cX8_readCommand 449 = .ok (.ldc_w 258, 3) := by decide +kernel
theorem dX8_readCommand_452 : decode cX8_readCommand 452 = .ok (.goto 6, 3) := by decide +kernel
theorem dX8_readCommand_455 : decode cX8_readCommand 455 = .ok (.ldc_w 260, 3) := by decide +kernel
theorem dX8_readCommand_458 : decode cX8_readCommand 458 = .ok (.invokevirtual 232, 3) := by decide +kernel
theorem dX8_readCommand_461 : decode cX8_readCommand 461 = .ok (.aload_n 0, 1) := by decide +kernel
theorem dX8_readCommand_462 : decode cX8_readCommand 462 = .ok (.getfield 39, 3) := by decide +kernel
theorem dX8_readCommand_465 : decode cX8_readCommand 465 = .ok (.iload_n 3, 1) := by decide +kernel
theorem dX8_readCommand_466 : decode cX8_readCommand 466 = .ok (.iconst 1, 1) := by decide +kernel
theorem dX8_readCommand_467 : decode cX8_readCommand 467 = .ok (.iadd, 1) := by decide +kernel
theorem dX8_readCommand_468 : decode cX8_readCommand 468 = .ok (.aload_n 0, 1) := by decide +kernel
theorem dX8_readCommand_469 : decode cX8_readCommand 469 = .ok (.invokevirtual 215, 3) := by decide +kernel
theorem dX8_readCommand_472 : decode cX8_readCommand 472 = .ok (.iastore, 1) := by decide +kernel
theorem dX8_readCommand_473 : decode cX8_readCommand 473 = .ok (.goto 9, 3) := by decide +kernel
theorem dX8_readCommand_476 : decode cX8_readCommand 476 = .ok (.aload_n 0, 1) := by decide +kernel
theorem dX8_readCommand_477 : decode cX8_readCommand 477 = .ok (.ldc 230, 2) := by decide +kernel
theorem dX8_readCommand_479 : decode cX8_readCommand 479 = .ok (.invokevirtual 232, 3) := by decide +kernel
theorem dX8_readCommand_482 : decode cX8_readCommand 482 = .ok (.return_, 1) := by decide +kernel
set_option maxRecDepth 20000 in
theorem ggX8_does_X8_doRunTap : GoodIn wsX8_does wsX8_doRunTap := goodIn_ca (goodIn_ca (goodIn_r _ [6, 7, 8, 9, 10, 5, 11, 12, 13, 14, 15, 16, 17, 18, 19, 20, 21, 22, 23, 24, 25, 26, 27, 28, 29, 30, 31, 32, 33, 34, 35, 36, 37, 38, 39, 40, 41, 42, 43, 44, 45, 46, 47, 48, 49, 50, 51, 52, 53, 54, 55, 56, 57, 58, 59, 60, 61, 62, 119, 120, 121, 122, 123, 124, 125, 126, 127, 128, 129, 130, 131, 132, 133, 134, 135, 136] (by decide +kernel) (by decide +kernel)) (goodIn_sub (fun _ h => List.mem_cons_of_mem _ (List.mem_append_left _ (List.mem_append_right _ h))) (by decide +kernel))) (goodIn_sub (fun _ h => List.mem_cons_of_mem _ (List.mem_append_right _ h)) (by decide +kernel))
set_option maxRecDepth 20000 in
theorem gX8_does_X8_doRunTap : GoodIn wsX8_does (wsV RX8 111 RX8 yX8_doRunTap wsX8_doRunTap) := goodIn_app (goodIn_of _ (by decide +kernel)) ggX8_does_X8_doRunTap
set_option maxRecDepth 20000 in
theorem ggX8_does_X8_doAdvance : GoodIn wsX8_does wsX8_doAdvance := goodIn_ca (goodIn_ca (goodIn_r _ [66, 12, 13, 5, 14, 15, 16, 17, 18, 19, 67, 68, 69, 70, 7, 39, 40, 41, 42, 55, 56, 57, 58, 20, 21, 22, 23, 71, 72, 73, 74, 27, 28, 29, 30, 75, 76, 77, 78, 79, 80, 81, 82, 83, 84, 85, 86, 87, 88, 89, 90, 59, 60, 61, 62, 31, 32, 33, 34, 35, 36, 37, 38, 43, 44, 45, 46, 47, 48, 49, 50, 51, 52, 53, 54, 119, 120, 121, 122, 123, 124, 125, 126, 127, 128, 129, 130, 131, 132, 133, 134, 135, 136] (by decide +kernel) (by decide +kernel)) (goodIn_sub (fun _ h => List.mem_cons_of_mem _ (List.mem_append_left _ (List.mem_append_right _ h))) (by decide +kernel))) (goodIn_sub (fun _ h => List.mem_cons_of_mem _ (List.mem_append_right _ h)) (by decide +kernel))
set_option maxRecDepth 20000 in
theorem gX8_does_X8_doAdvance : GoodIn wsX8_does (wsV RX8 153 RX8 yX8_doAdvance wsX8_doAdvance) := goodIn_app (goodIn_of _ (by decide +kernel)) ggX8_does_X8_doAdvance
set_option maxRecDepth 20000 in
theorem ggX8_does_X8_doPour : GoodIn wsX8_does wsX8_doPour := goodIn_ca (goodIn_ca (goodIn_r _ [94, 8, 9, 10, 5, 11, 7, 12, 13, 14, 15, 16, 17, 18, 19, 20, 21, 22, 23, 27, 28, 29, 30, 31, 32, 33, 34, 35, 36, 37, 38, 39, 40, 41, 42, 43, 44, 45, 46, 47, 48, 49, 50, 51, 52, 53, 54, 55, 56, 57, 58, 59, 60, 61, 62, 119, 120, 121, 122, 123, 124, 125, 126, 127, 128, 129, 130, 131, 132, 133, 134, 135, 136] (by decide +kernel) (by decide +kernel)) (goodIn_sub (fun _ h => List.mem_cons_of_mem _ (List.mem_append_right _ h)) (by decide +kernel))) (goodIn_sub (fun _ h => List.mem_cons_of_mem _ (List.mem_append_left _ (List.mem_append_right _ h))) (by decide +kernel))
set_option maxRecDepth 20000 in
theorem gX8_does_X8_doPour : GoodIn wsX8_does (wsV RX8 119 RX8 yX8_doPour wsX8_doPour) := goodIn_app (goodIn_of _ (by decide +kernel)) ggX8_does_X8_doPour
set_option maxRecDepth 20000 in
theorem ggX8_does_X8_doSetPlug : GoodIn wsX8_does wsX8_doSetPlug := goodIn_ca (goodIn_r _ [98, 8, 9, 10, 5, 11, 7, 12, 13, 14, 15, 16, 17, 18, 19, 20, 21, 22, 23, 27, 28, 29, 30, 119, 120, 121, 122, 123, 124, 125, 126, 127, 128, 129, 130, 131, 132, 133, 134, 135, 136] (by decide +kernel) (by decide +kernel)) (goodIn_sub (fun _ h => List.mem_cons_of_mem _ (List.mem_append_left _ (List.mem_append_right _ h))) (by decide +kernel))
set_option maxRecDepth 20000 in
theorem gX8_does_X8_doSetPlug : GoodIn wsX8_does (wsV RX8 115 RX8 yX8_doSetPlug wsX8_doSetPlug) := goodIn_app (goodIn_of _ (by decide +kernel)) ggX8_does_X8_doSetPlug
set_option maxRecDepth 20000 in
theorem ggX8_does_X8_doAddDuck : GoodIn wsX8_does wsX8_doAddDuck := goodIn_ca (goodIn_ca (goodIn_r _ [102, 7, 8, 9, 10, 5, 11, 12, 13, 14, 15, 16, 17, 18, 19, 47, 48, 49, 50, 51, 52, 53, 54, 55, 56, 57, 58, 20, 21, 22, 23, 59, 60, 61, 62, 119, 120, 121, 122, 123, 124, 125, 126, 127, 128, 129, 130, 131, 132, 133, 134, 135, 136] (by decide +kernel) (by decide +kernel)) (goodIn_sub (fun _ h => List.mem_cons_of_mem _ (List.mem_append_left _ (List.mem_append_right _ h))) (by decide +kernel))) (goodIn_sub (fun _ h => List.mem_cons_of_mem _ (List.mem_append_right _ h)) (by decide +kernel))
set_option maxRecDepth 20000 in
theorem gX8_does_X8_doAddDuck : GoodIn wsX8_does (wsV RX8 122 RX8 yX8_doAddDuck wsX8_doAddDuck) := goodIn_app (goodIn_of _ (by decide +kernel)) ggX8_does_X8_doAddDuck
set_option maxRecDepth 20000 in
theorem ggX8_does_X8_doJoin : GoodIn wsX8_does wsX8_doJoin := goodIn_ca (goodIn_ca (goodIn_r _ [106, 8, 9, 10, 5, 11, 7, 12, 13, 14, 15, 16, 17, 18, 19, 20, 21, 22, 23, 55, 56, 57, 58, 59, 60, 61, 62, 27, 28, 29, 30, 31, 32, 33, 34, 35, 36, 37, 38, 39, 40, 41, 42, 107, 108, 109, 110, 119, 120, 121, 122, 123, 124, 125, 126, 127, 128, 129, 130, 131, 132, 133, 134, 135, 136] (by decide +kernel) (by decide +kernel)) (goodIn_sub (fun _ h => List.mem_cons_of_mem _ (List.mem_append_left _ (List.mem_append_right _ h))) (by decide +kernel))) (goodIn_sub (fun _ h => List.mem_cons_of_mem _ (List.mem_append_right _ h)) (by decide +kernel))
set_option maxRecDepth 20000 in
theorem gX8_does_X8_doJoin : GoodIn wsX8_does (wsV RX8 128 RX8 yX8_doJoin wsX8_doJoin) := goodIn_app (goodIn_of _ (by decide +kernel)) ggX8_does_X8_doJoin
set_option maxRecDepth 20000 in
theorem ggX8_does_X8_doLeave : GoodIn wsX8_does wsX8_doLeave := goodIn_ca (goodIn_r _ [114, 8, 9, 10, 5, 11, 7, 12, 13, 14, 15, 16, 17, 18, 19, 20, 21, 22, 23, 27, 28, 29, 30, 31, 32, 33, 34, 35, 36, 37, 38, 39, 40, 41, 42, 107, 108, 109, 110, 119, 120, 121, 122, 123, 124, 125, 126, 127, 128, 129, 130, 131, 132, 133, 134, 135, 136] (by decide +kernel) (by decide +kernel)) (goodIn_sub (fun _ h => List.mem_cons_of_mem _ (List.mem_append_left _ (List.mem_append_right _ h))) (by decide +kernel))
set_option maxRecDepth 20000 in
theorem gX8_does_X8_doLeave : GoodIn wsX8_does (wsV RX8 131 RX8 yX8_doLeave wsX8_doLeave) := goodIn_app (goodIn_of _ (by decide +kernel)) ggX8_does_X8_doLeave
set_option maxRecDepth 20000 in
theorem ggX8_does_X8_doAddBath : GoodIn wsX8_does wsX8_doAddBath := goodIn_ca (goodIn_r _ [118, 7, 15, 16, 17, 5, 18, 19, 27, 28, 29, 30, 119, 120, 121, 122, 123, 124, 125, 126, 127, 128, 129, 130, 131, 132, 133, 134, 135, 136] (by decide +kernel) (by decide +kernel)) (goodIn_sub (fun _ h => List.mem_cons_of_mem _ (List.mem_append_left _ (List.mem_append_right _ h))) (by decide +kernel))
set_option maxRecDepth 20000 in
theorem gX8_does_X8_doAddBath : GoodIn wsX8_does (wsV RX8 91 RX8 yX8_doAddBath wsX8_doAddBath) := goodIn_app (goodIn_of _ (by decide +kernel)) ggX8_does_X8_doAddBath
theorem dX8_does_0 : decode cX8_does 0 = .ok (.aload_n 0, 1) := by decide +kernel
theorem dX8_does_1 : decode cX8_does 1 = .ok (.getfield 39, 3) := by decide +kernel
theorem dX8_does_4 : decode cX8_does 4 = .ok (.iconst 4, 1) := by decide +kernel
theorem dX8_does_5 : decode cX8_does 5 = .ok (.iload_n 1, 1) := by decide +kernel
theorem dX8_does_6 : decode cX8_does 6 = .ok (.imul, 1) := by decide +kernel
theorem dX8_does_7 : decode cX8_does 7 = .ok (.iconst 1, 1) := by decide +kernel
theorem dX8_does_8 : decode cX8_does 8 = .ok (.iadd, 1) := by decide +kernel
theorem dX8_does_9 : decode cX8_does 9 = .ok (.iaload, 1) := by decide +kernel
theorem dX8_does_10 : decode cX8_does 10 = .ok (.istore_n 2, 1) := by decide +kernel
theorem dX8_does_11 : decode cX8_does 11 = .ok (.aload_n 0, 1) := by decide +kernel
theorem dX8_does_12 : decode cX8_does 12 = .ok (.getfield 39, 3) := by decide +kernel
theorem dX8_does_15 : decode cX8_does 15 = .ok (.iconst 4, 1) := by decide +kernel
theorem dX8_does_16 : decode cX8_does 16 = .ok (.iload_n 1, 1) := by decide +kernel
theorem dX8_does_17 : decode cX8_does 17 = .ok (.imul, 1) := by decide +kernel
theorem dX8_does_18 : decode cX8_does 18 = .ok (.iconst 2, 1) := by decide +kernel
theorem dX8_does_19 : decode cX8_does 19 = .ok (.iadd, 1) := by decide +kernel
theorem dX8_does_20 : decode cX8_does 20 = .ok (.iaload, 1) := by decide +kernel
theorem dX8_does_21 : decode cX8_does 21 = .ok (.istore_n 3, 1) := by decide +kernel
theorem dX8_does_22 : decode cX8_does 22 = .ok (.aload_n 0, 1) := by decide +kernel
theorem dX8_does_23 : decode cX8_does 23 = .ok (.getfield 39, 3) := by decide +kernel
theorem dX8_does_26 : decode cX8_does 26 = .ok (.iconst 4, 1) := by decide +kernel
theorem dX8_does_27 : decode cX8_does 27 = .ok (.iload_n 1, 1) := by decide +kernel
theorem dX8_does_28 : decode cX8_does 28 = .ok (.imul, 1) := by decide +kernel
theorem dX8_does_29 : decode cX8_does 29 = .ok (.iconst 3, 1) := by decide +kernel
theorem dX8_does_30 : decode cX8_does 30 = .ok (.iadd, 1) := by decide +kernel
theorem dX8_does_31 : decode cX8_does 31 = .ok (.iaload, 1) := by decide +kernel
theorem dX8_does_32 : decode cX8_does 32 = .ok (.istore 4, 2) := by decide +kernel
theorem dX8_does_34 : decode cX8_does 34 = .ok (.aload_n 0, 1) := by decide +kernel
theorem dX8_does_35 : decode cX8_does 35 = .ok (.getfield 39, 3) := by decide +kernel
theorem dX8_does_38 : decode cX8_does 38 = .ok (.iconst 4, 1) := by decide +kernel
theorem dX8_does_39 : decode cX8_does 39 = .ok (.iload_n 1, 1) := by decide +kernel
theorem dX8_does_40 : decode cX8_does 40 = .ok (.imul, 1) := by decide +kernel
theorem dX8_does_41 : decode cX8_does 41 = .ok (.iaload, 1) := by decide +kernel
theorem dX8_does_42 : decode cX8_does 42 = .ok (.tableswitch 167 97 112 #[78, 167, 167, 134, 167, 167, 167, 167, 167, 147, 91, 157, 167, 167, 101, 114], 78) := by decide +kernel
theorem dX8_does_120 : decode cX8_does 120 = .ok (.aload_n 0, 1) := by decide +kernel
theorem dX8_does_121 : decode cX8_does 121 = .ok (.iload_n 2, 1) := by decide +kernel
theorem dX8_does_122 : decode cX8_does 122 = .ok (.iload_n 3, 1) := by decide +kernel
theorem dX8_does_123 : decode cX8_does 123 = .ok (.iload 4, 2) := by decide +kernel
theorem dX8_does_125 : decode cX8_does 125 = .ok (.invokevirtual 111, 3) := by decide +kernel
theorem dX8_does_128 : decode cX8_does 128 = .ok (.istore 5, 2) := by decide +kernel
theorem dX8_does_130 : decode cX8_does 130 = .ok (.goto 85, 3) := by decide +kernel
theorem dX8_does_133 : decode cX8_does 133 = .ok (.aload_n 0, 1) := by decide +kernel
theorem dX8_does_134 : decode cX8_does 134 = .ok (.iload_n 2, 1) := by decide +kernel
theorem dX8_does_135 : decode cX8_does 135 = .ok (.invokevirtual 153, 3) := by decide +kernel
theorem dX8_does_138 : decode cX8_does 138 = .ok (.istore 5, 2) := by decide +kernel
theorem dX8_does_140 : decode cX8_does 140 = .ok (.goto 75, 3) := by decide +kernel
theorem dX8_does_143 : decode cX8_does 143 = .ok (.aload_n 0, 1) := by decide +kernel
theorem dX8_does_144 : decode cX8_does 144 = .ok (.iload_n 2, 1) := by decide +kernel
theorem dX8_does_145 : decode cX8_does 145 = .ok (.iload_n 3, 1) := by decide +kernel
theorem dX8_does_146 : decode cX8_does 146 = .ok (.iload 4, 2) := by decide +kernel
theorem dX8_does_148 : decode cX8_does 148 = .ok (.invokevirtual 119, 3) := by decide +kernel
theorem dX8_does_151 : decode cX8_does 151 = .ok (.istore 5, 2) := by decide +kernel
theorem dX8_does_153 : decode cX8_does 153 = .ok (.goto 62, 3) := by decide +kernel
theorem dX8_does_156 : decode cX8_does 156 = .ok (.aload_n 0, 1) := by decide +kernel
theorem dX8_does_157 : decode cX8_does 157 = .ok (.iload_n 2, 1) := by decide +kernel
theorem dX8_does_158 : decode cX8_does 158 = .ok (.iload_n 3, 1) := by decide +kernel
theorem dX8_does_159 : decode cX8_does 159 = .ok (.iconst 1, 1) := by decide +kernel
theorem dX8_does_160 : decode cX8_does 160 = .ok (.if_icmp .ne 7, 3) := by decide +kernel
theorem dX8_does_163 : decode cX8_does 163 = .ok (.iconst 1, 1) := by decide +kernel
theorem dX8_does_164 : decode cX8_does 164 = .ok (.goto 4, 3) := by decide +kernel
theorem dX8_does_167 : decode cX8_does 167 = .ok (.iconst 0, 1) := by decide +kernel
theorem dX8_does_168 : decode cX8_does 168 = .ok (.invokevirtual 115, 3) := by decide +kernel
theorem dX8_does_171 : decode cX8_does 171 = .ok (.istore 5, 2) := by decide +kernel
theorem dX8_does_173 : decode cX8_does 173 = .ok (.goto 42, 3) := by decide +kernel
theorem dX8_does_176 : decode cX8_does 176 = .ok (.aload_n 0, 1) := by decide +kernel
theorem dX8_does_177 : decode cX8_does 177 = .ok (.iload_n 2, 1) := by decide +kernel
theorem dX8_does_178 : decode cX8_does 178 = .ok (.iload_n 3, 1) := by decide +kernel
theorem dX8_does_179 : decode cX8_does 179 = .ok (.iload 4, 2) := by decide +kernel
theorem dX8_does_181 : decode cX8_does 181 = .ok (.invokevirtual 122, 3) := by decide +kernel
theorem dX8_does_184 : decode cX8_does 184 = .ok (.istore 5, 2) := by decide +kernel
theorem dX8_does_186 : decode cX8_does 186 = .ok (.goto 29, 3) := by decide +kernel
theorem dX8_does_189 : decode cX8_does 189 = .ok (.aload_n 0, 1) := by decide +kernel
theorem dX8_does_190 : decode cX8_does 190 = .ok (.iload_n 2, 1) := by decide +kernel
theorem dX8_does_191 : decode cX8_does 191 = .ok (.invokevirtual 128, 3) := by decide +kernel
theorem dX8_does_194 : decode cX8_does 194 = .ok (.istore 5, 2) := by decide +kernel
theorem dX8_does_196 : decode cX8_does 196 = .ok (.goto 19, 3) := by decide +kernel
theorem dX8_does_199 : decode cX8_does 199 = .ok (.aload_n 0, 1) := by decide +kernel
theorem dX8_does_200 : decode cX8_does 200 = .ok (.iload_n 2, 1) := by decide +kernel
theorem dX8_does_201 : decode cX8_does 201 = .ok (.invokevirtual 131, 3) := by decide +kernel
theorem dX8_does_204 : decode cX8_does 204 = .ok (.istore 5, 2) := by decide +kernel
theorem dX8_does_206 : decode cX8_does 206 = .ok (.goto 9, 3) := by decide +kernel
theorem dX8_does_209 : decode cX8_does 209 = .ok (.aload_n 0, 1) := by decide +kernel
theorem dX8_does_210 : decode cX8_does 210 = .ok (.invokevirtual 91, 3) := by decide +kernel
theorem dX8_does_213 : decode cX8_does 213 = .ok (.istore 5, 2) := by decide +kernel
theorem dX8_does_215 : decode cX8_does 215 = .ok (.return_, 1) := by decide +kernel
set_option maxRecDepth 20000 in
theorem ggX8_runScript_X8_readCommand : GoodIn wsX8_runScript wsX8_readCommand := goodIn_ca (goodIn_r _ [12, 2, 3, 13, 14, 15, 16, 11, 17, 1, 4, 18, 19, 20, 21, 22, 23, 24, 25, 26, 27, 28, 29, 30, 31, 32, 33, 34, 35, 36, 37, 38, 39, 40, 41, 42, 43, 44, 45, 46, 47, 48, 49, 50, 51, 52, 53, 54, 55, 56, 57, 58, 59, 60, 61, 62, 63, 64, 65, 66, 67, 68, 69, 70, 71, 72, 73, 74, 75, 76, 77, 78, 79, 80, 81, 82, 83, 84, 85, 86, 87, 88, 89, 90, 91, 92, 93, 94, 95, 96, 97, 98, 99, 100, 101, 102, 103, 104, 105, 106, 107, 108, 109, 110, 111, 112, 113, 114, 115, 116, 117, 118, 119, 120, 121, 122, 123, 124, 125, 126, 127, 128, 129, 130, 131, 132, 133, 134, 135, 136, 137, 138, 139, 140, 141, 142, 143, 144, 145, 146, 147, 148, 149, 150, 151, 152, 153, 154, 155, 280, 281, 282, 283, 284, 285, 286, 287, 288, 289, 290, 291, 292, 293, 294, 295, 296, 297, 298, 299, 300, 301] (by decide +kernel) (by decide +kernel)) (goodIn_sub (fun _ h => List.mem_cons_of_mem _ (List.mem_append_left _ (List.mem_append_right _ h))) (by decide +kernel))
set_option maxRecDepth 20000 in
theorem gX8_runScript_X8_readCommand : GoodIn wsX8_runScript (wsV RX8 262 RX8 yX8_readCommand wsX8_readCommand) := goodIn_app (goodIn_of _ (by decide +kernel)) ggX8_runScript_X8_readCommand
set_option maxRecDepth 20000 in
theorem ggX8_runScript_X8_behind : GoodIn wsX8_runScript wsX8_behind := goodIn_ca (goodIn_r _ [17, 1, 4, 18, 280, 281, 282, 283, 284, 285, 286, 287, 288, 289, 290, 291, 292, 293, 294, 295, 296, 297] (by decide +kernel) (by decide +kernel)) (goodIn_sub (fun _ h => List.mem_cons_of_mem _ (List.mem_append_left _ (List.mem_append_right _ h))) (by decide +kernel))
set_option maxRecDepth 20000 in
theorem gX8_runScript_X8_behind : GoodIn wsX8_runScript (wsV RX8 204 RX8 yX8_behind wsX8_behind) := goodIn_app (goodIn_of _ (by decide +kernel)) ggX8_runScript_X8_behind
set_option maxRecDepth 20000 in
theorem ggX8_runScript_X8_fails : GoodIn wsX8_runScript wsX8_fails := goodIn_r _ [159, 6, 280, 281, 282, 283, 284, 285, 286, 287, 288, 289, 290, 291, 292, 293, 294, 295, 296, 297] (by decide +kernel) (by decide +kernel)
set_option maxRecDepth 20000 in
theorem gX8_runScript_X8_fails : GoodIn wsX8_runScript (wsV RX8 81 RX8 yX8_fails wsX8_fails) := goodIn_app (goodIn_of _ (by decide +kernel)) ggX8_runScript_X8_fails
set_option maxRecDepth 20000 in
theorem ggX8_runScript_X8_keep : GoodIn wsX8_runScript wsX8_keep := goodIn_r _ [163, 6, 164, 165, 166, 167, 168, 169, 280, 281, 282, 283, 284, 285, 286, 287, 288, 289, 290, 291, 292, 293, 294, 295, 296, 297] (by decide +kernel) (by decide +kernel)
set_option maxRecDepth 20000 in
theorem gX8_runScript_X8_keep : GoodIn wsX8_runScript (wsV RX8 88 RX8 yX8_keep wsX8_keep) := goodIn_app (goodIn_of _ (by decide +kernel)) ggX8_runScript_X8_keep
set_option maxRecDepth 20000 in
theorem ggX8_runScript_X8_does : GoodIn wsX8_runScript wsX8_does := goodIn_ca (goodIn_ca (goodIn_r _ [173, 13, 174, 175, 176, 11, 177, 164, 178, 179, 180, 181, 84, 85, 86, 156, 157, 158, 159, 6, 182, 183, 184, 185, 186, 187, 188, 189, 190, 191, 192, 193, 194, 195, 196, 166, 167, 168, 169, 197, 108, 105, 109, 198, 199, 200, 201, 202, 203, 204, 205, 206, 207, 208, 209, 210, 211, 212, 213, 214, 215, 216, 217, 218, 219, 220, 221, 222, 223, 224, 225, 226, 227, 228, 229, 230, 231, 232, 233, 234, 235, 236, 237, 238, 239, 240, 241, 242, 243, 244, 245, 246, 247, 248, 249, 250, 251, 252, 253, 254, 255, 256, 257, 258, 259, 260, 261, 262, 263, 264, 265, 266, 267, 268, 269, 270, 271, 272, 273, 280, 281, 282, 283, 284, 285, 286, 287, 288, 289, 290, 291, 292, 293, 294, 295, 296, 297] (by decide +kernel) (by decide +kernel)) (goodIn_sub (fun _ h => List.mem_cons_of_mem _ (List.mem_append_left _ (List.mem_append_right _ h))) (by decide +kernel))) (goodIn_sub (fun _ h => List.mem_cons_of_mem _ (List.mem_append_right _ h)) (by decide +kernel))
set_option maxRecDepth 20000 in
theorem gX8_runScript_X8_does : GoodIn wsX8_runScript (wsV RX8 265 RX8 yX8_does wsX8_does) := goodIn_app (goodIn_of _ (by decide +kernel)) ggX8_runScript_X8_does
set_option maxRecDepth 20000 in
theorem ggX8_runScript_X8_ends : GoodIn wsX8_runScript wsX8_ends := goodIn_r _ [277, 6, 165, 164, 166, 167, 168, 169, 278, 279, 280, 281, 282, 283, 284, 285, 286, 287, 288, 289, 290, 291, 292, 293, 294, 295, 296, 297] (by decide +kernel) (by decide +kernel)
set_option maxRecDepth 20000 in
theorem gX8_runScript_X8_ends : GoodIn wsX8_runScript (wsV RX8 95 RX8 yX8_ends wsX8_ends) := goodIn_app (goodIn_of _ (by decide +kernel)) ggX8_runScript_X8_ends
theorem dX8_runScript_0 : decode cX8_runScript 0 = .ok (.aload_n 0, 1) := by decide +kernel
theorem dX8_runScript_1 : decode cX8_runScript 1 = .ok (.iconst 0, 1) := by decide +kernel
theorem dX8_runScript_2 : decode cX8_runScript 2 = .ok (.putfield 193, 3) := by decide +kernel
theorem dX8_runScript_5 : decode cX8_runScript 5 = .ok (.aload_n 0, 1) := by decide +kernel
theorem dX8_runScript_6 : decode cX8_runScript 6 = .ok (.iconst 0, 1) := by decide +kernel
theorem dX8_runScript_7 : decode cX8_runScript 7 = .ok (.putfield 200, 3) := by decide +kernel
theorem dX8_runScript_10 : decode cX8_runScript 10 = .ok (.aload_n 0, 1) := by decide +kernel
theorem dX8_runScript_11 : decode cX8_runScript 11 = .ok (.iconst 0, 1) := by decide +kernel
theorem dX8_runScript_12 : decode cX8_runScript 12 = .ok (.putfield 225, 3) := by decide +kernel
theorem dX8_runScript_15 : decode cX8_runScript 15 = .ok (.aload_n 0, 1) := by decide +kernel
theorem dX8_runScript_16 : decode cX8_runScript 16 = .ok (.invokevirtual 262, 3) := by decide +kernel
theorem dX8_runScript_19 : decode cX8_runScript 19 = .ok (.aload_n 0, 1) := by decide +kernel
theorem dX8_runScript_20 : decode cX8_runScript 20 = .ok (.getfield 200, 3) := by decide +kernel
theorem dX8_runScript_23 : decode cX8_runScript 23 = .ok (.ifCond .ne 30, 3) := by decide +kernel
theorem dX8_runScript_26 : decode cX8_runScript 26 = .ok (.aload_n 0, 1) := by decide +kernel
theorem dX8_runScript_27 : decode cX8_runScript 27 = .ok (.iconst 0, 1) := by decide +kernel
theorem dX8_runScript_28 : decode cX8_runScript 28 = .ok (.invokevirtual 204, 3) := by decide +kernel
theorem dX8_runScript_31 : decode cX8_runScript 31 = .ok (.bipush 59, 2) := by decide +kernel
theorem dX8_runScript_33 : decode cX8_runScript 33 = .ok (.if_icmp .ne 20, 3) := by decide +kernel
theorem dX8_runScript_36 : decode cX8_runScript 36 = .ok (.aload_n 0, 1) := by decide +kernel
theorem dX8_runScript_37 : decode cX8_runScript 37 = .ok (.dup, 1) := by decide +kernel
theorem dX8_runScript_38 : decode cX8_runScript 38 = .ok (.getfield 193, 3) := by decide +kernel
theorem dX8_runScript_41 : decode cX8_runScript 41 = .ok (.iconst 1, 1) := by decide +kernel
theorem dX8_runScript_42 : decode cX8_runScript 42 = .ok (.iadd, 1) := by decide +kernel
theorem dX8_runScript_43 : decode cX8_runScript 43 = .ok (.putfield 193, 3) := by decide +kernel
theorem dX8_runScript_46 : decode cX8_runScript 46 = .ok (.aload_n 0, 1) := by decide +kernel
theorem dX8_runScript_47 : decode cX8_runScript 47 = .ok (.invokevirtual 262, 3) := by decide +kernel
theorem dX8_runScript_50 : decode cX8_runScript 50 = .ok (.goto (-31), 3) := by decide +kernel
theorem dX8_runScript_53 : decode cX8_runScript 53 = .ok (.aload_n 0, 1) := by decide +kernel
theorem dX8_runScript_54 : decode cX8_runScript 54 = .ok (.aload_n 0, 1) := by decide +kernel
theorem dX8_runScript_55 : decode cX8_runScript 55 = .ok (.getfield 200, 3) := by decide +kernel
theorem dX8_runScript_58 : decode cX8_runScript 58 = .ok (.ifCond .ne 14, 3) := by decide +kernel
theorem dX8_runScript_61 : decode cX8_runScript 61 = .ok (.aload_n 0, 1) := by decide +kernel
theorem dX8_runScript_62 : decode cX8_runScript 62 = .ok (.getfield 193, 3) := by decide +kernel
theorem dX8_runScript_65 : decode cX8_runScript 65 = .ok (.aload_n 0, 1) := by decide +kernel
theorem dX8_runScript_66 : decode cX8_runScript 66 = .ok (.getfield 190, 3) := by decide +kernel
theorem dX8_runScript_69 : decode cX8_runScript 69 = .ok (.if_icmp .ge 7, 3) := by decide +kernel
theorem dX8_runScript_72 : decode cX8_runScript 72 = .ok (.iconst 1, 1) := by decide +kernel
theorem dX8_runScript_73 : decode cX8_runScript 73 = .ok (.goto 4, 3) := by decide +kernel
theorem dX8_runScript_76 : decode cX8_runScript 76 = .ok (.iconst 0, 1) := by decide +kernel
theorem dX8_runScript_77 : decode cX8_runScript 77 = .ok (.putfield 200, 3) := by decide +kernel
theorem dX8_runScript_80 : decode cX8_runScript 80 = .ok (.aload_n 0, 1) := by decide +kernel
theorem dX8_runScript_81 : decode cX8_runScript 81 = .ok (.aload_n 0, 1) := by decide +kernel
theorem dX8_runScript_82 : decode cX8_runScript 82 = .ok (.getfield 200, 3) := by decide +kernel
theorem dX8_runScript_85 : decode cX8_runScript 85 = .ok (.ifCond .eq 10, 3) := by decide +kernel
theorem dX8_runScript_88 : decode cX8_runScript 88 = .ok (.aload_n 0, 1) := by decide +kernel
theorem dX8_runScript_89 : decode cX8_runScript 89 = .ok (.getfield 193, 3) := by decide +kernel
theorem dX8_runScript_92 : decode cX8_runScript 92 = .ok (.goto 7, 3) := by decide +kernel
theorem dX8_runScript_95 : decode cX8_runScript 95 = .ok (.aload_n 0, 1) := by decide +kernel
theorem dX8_runScript_96 : decode cX8_runScript 96 = .ok (.getfield 32, 3) := by decide +kernel
theorem dX8_runScript_99 : decode cX8_runScript 99 = .ok (.putfield 32, 3) := by decide +kernel
theorem dX8_runScript_102 : decode cX8_runScript 102 = .ok (.aload_n 0, 1) := by decide +kernel
theorem dX8_runScript_103 : decode cX8_runScript 103 = .ok (.iconst 0, 1) := by decide +kernel
theorem dX8_runScript_104 : decode cX8_runScript 104 = .ok (.putfield 190, 3) := by decide +kernel
theorem dX8_runScript_107 : decode cX8_runScript 107 = .ok (.aload_n 0, 1) := by decide +kernel
theorem dX8_runScript_108 : decode cX8_runScript 108 = .ok (.getfield 200, 3) := by decide +kernel
theorem dX8_runScript_111 : decode cX8_runScript 111 = .ok (.ifCond .eq 9, 3) := by decide +kernel
theorem dX8_runScript_114 : decode cX8_runScript 114 = .ok (.aload_n 0, 1) := by decide +kernel
theorem dX8_runScript_115 : decode cX8_runScript 115 = .ok (.iconst 1, 1) := by decide +kernel
theorem dX8_runScript_116 : decode cX8_runScript 116 = .ok (.invokevirtual 81, 3) := by decide +kernel
theorem dX8_runScript_119 : decode cX8_runScript 119 = .ok (.ireturn, 1) := by decide +kernel
theorem dX8_runScript_120 : decode cX8_runScript 120 = .ok (.aload_n 0, 1) := by decide +kernel
theorem dX8_runScript_121 : decode cX8_runScript 121 = .ok (.invokevirtual 88, 3) := by decide +kernel
theorem dX8_runScript_124 : decode cX8_runScript 124 = .ok (.iconst 0, 1) := by decide +kernel
theorem dX8_runScript_125 : decode cX8_runScript 125 = .ok (.istore_n 1, 1) := by decide +kernel
theorem dX8_runScript_126 : decode cX8_runScript 126 = .ok (.iload_n 1, 1) := by decide +kernel
theorem dX8_runScript_127 : decode cX8_runScript 127 = .ok (.aload_n 0, 1) := by decide +kernel
theorem dX8_runScript_128 : decode cX8_runScript 128 = .ok (.getfield 225, 3) := by decide +kernel
theorem dX8_runScript_131 : decode cX8_runScript 131 = .ok (.if_icmp .ge 36, 3) := by decide +kernel
theorem dX8_runScript_134 : decode cX8_runScript 134 = .ok (.aload_n 0, 1) := by decide +kernel
theorem dX8_runScript_135 : decode cX8_runScript 135 = .ok (.iload_n 1, 1) := by decide +kernel
theorem dX8_runScript_136 : decode cX8_runScript 136 = .ok (.invokevirtual 265, 3) := by decide +kernel
theorem dX8_runScript_139 : decode cX8_runScript 139 = .ok (.aload_n 0, 1) := by decide +kernel
theorem dX8_runScript_140 : decode cX8_runScript 140 = .ok (.getfield 42, 3) := by decide +kernel
theorem dX8_runScript_143 : decode cX8_runScript 143 = .ok (.ifCond .le 18, 3) := by decide +kernel
theorem dX8_runScript_146 : decode cX8_runScript 146 = .ok (.aload_n 0, 1) := by decide +kernel
theorem dX8_runScript_147 : decode cX8_runScript 147 = .ok (.iload_n 1, 1) := by decide +kernel
theorem dX8_runScript_148 : decode cX8_runScript 148 = .ok (.putfield 36, 3) := by decide +kernel
theorem dX8_runScript_151 : decode cX8_runScript 151 = .ok (.aload_n 0, 1) := by decide +kernel
theorem dX8_runScript_152 : decode cX8_runScript 152 = .ok (.aload_n 0, 1) := by decide +kernel
theorem dX8_runScript_153 : decode cX8_runScript 153 = .ok (.iconst 2, 1) := by decide +kernel
theorem dX8_runScript_154 : decode cX8_runScript 154 = .ok (.invokevirtual 81, 3) := by decide +kernel
theorem dX8_runScript_157 : decode cX8_runScript 157 = .ok (.invokevirtual 95, 3) := by decide +kernel
theorem dX8_runScript_160 : decode cX8_runScript 160 = .ok (.ireturn, 1) := by decide +kernel
theorem dX8_runScript_161 : decode cX8_runScript 161 = .ok (.iinc 1 1, 3) := by decide +kernel
theorem dX8_runScript_164 : decode cX8_runScript 164 = .ok (.goto (-38), 3) := by decide +kernel
theorem dX8_runScript_167 : decode cX8_runScript 167 = .ok (.aload_n 0, 1) := by decide +kernel
theorem dX8_runScript_168 : decode cX8_runScript 168 = .ok (.aload_n 0, 1) := by decide +kernel
theorem dX8_runScript_169 : decode cX8_runScript 169 = .ok (.getfield 225, 3) := by decide +kernel
theorem dX8_runScript_172 : decode cX8_runScript 172 = .ok (.invokevirtual 95, 3) := by decide +kernel
theorem dX8_runScript_175 : decode cX8_runScript 175 = .ok (.ireturn, 1) := by decide +kernel
set_option maxRecDepth 20000 in
theorem ggX8_errorPosition_X8_isThere : GoodIn wsX8_errorPosition wsX8_isThere := goodIn_r _ [6, 7, 8, 9, 10, 11, 12, 13, 14, 15, 16, 17, 18, 19, 20, 21, 22, 23, 24, 25] (by decide +kernel) (by decide +kernel)
set_option maxRecDepth 20000 in
theorem gX8_errorPosition_X8_isThere : GoodIn wsX8_errorPosition (wsV RX8 156 RX8 yX8_isThere wsX8_isThere) := goodIn_app (goodIn_of _ (by decide +kernel)) ggX8_errorPosition_X8_isThere
theorem dX8_errorPosition_0 : decode cX8_errorPosition 0 = .ok (.aload_n 0, 1) := by decide +kernel
theorem dX8_errorPosition_1 : decode cX8_errorPosition 1 = .ok (.aload_n 0, 1) := by decide +kernel
theorem dX8_errorPosition_2 : decode cX8_errorPosition 2 = .ok (.getfield 32, 3) := by decide +kernel
theorem dX8_errorPosition_5 : decode cX8_errorPosition 5 = .ok (.ifCond .lt 7, 3) := by decide +kernel
theorem dX8_errorPosition_8 : decode cX8_errorPosition 8 = .ok (.iconst 1, 1) := by decide +kernel
theorem dX8_errorPosition_9 : decode cX8_errorPosition 9 = .ok (.goto 4, 3) := by decide +kernel
theorem dX8_errorPosition_12 : decode cX8_errorPosition 12 = .ok (.iconst 0, 1) := by decide +kernel
theorem dX8_errorPosition_13 : decode cX8_errorPosition 13 = .ok (.invokevirtual 156, 3) := by decide +kernel
theorem dX8_errorPosition_16 : decode cX8_errorPosition 16 = .ok (.ifCond .eq 10, 3) := by decide +kernel
theorem dX8_errorPosition_19 : decode cX8_errorPosition 19 = .ok (.aload_n 0, 1) := by decide +kernel
theorem dX8_errorPosition_20 : decode cX8_errorPosition 20 = .ok (.getfield 32, 3) := by decide +kernel
theorem dX8_errorPosition_23 : decode cX8_errorPosition 23 = .ok (.goto 4, 3) := by decide +kernel
theorem dX8_errorPosition_26 : decode cX8_errorPosition 26 = .ok (.iconst 0, 1) := by decide +kernel
theorem dX8_errorPosition_27 : decode cX8_errorPosition 27 = .ok (.ireturn, 1) := by decide +kernel
set_option maxRecDepth 20000 in
theorem ggX8_failedCommand_X8_isThere : GoodIn wsX8_failedCommand wsX8_isThere := goodIn_r _ [6, 7, 8, 9, 10, 11, 12, 13, 14, 15, 16, 17, 18, 19, 20, 21, 22, 23, 24, 25] (by decide +kernel) (by decide +kernel)
set_option maxRecDepth 20000 in
theorem gX8_failedCommand_X8_isThere : GoodIn wsX8_failedCommand (wsV RX8 156 RX8 yX8_isThere wsX8_isThere) := goodIn_app (goodIn_of _ (by decide +kernel)) ggX8_failedCommand_X8_isThere
theorem dX8_failedCommand_0 : decode cX8_failedCommand 0 = .ok (.aload_n 0, 1) := by decide +kernel
theorem dX8_failedCommand_1 : decode cX8_failedCommand 1 = .ok (.aload_n 0, 1) := by decide +kernel
theorem dX8_failedCommand_2 : decode cX8_failedCommand 2 = .ok (.getfield 36, 3) := by decide +kernel
theorem dX8_failedCommand_5 : decode cX8_failedCommand 5 = .ok (.ifCond .lt 7, 3) := by decide +kernel
theorem dX8_failedCommand_8 : decode cX8_failedCommand 8 = .ok (.iconst 1, 1) := by decide +kernel
theorem dX8_failedCommand_9 : decode cX8_failedCommand 9 = .ok (.goto 4, 3) := by decide +kernel
theorem dX8_failedCommand_12 : decode cX8_failedCommand 12 = .ok (.iconst 0, 1) := by decide +kernel
theorem dX8_failedCommand_13 : decode cX8_failedCommand 13 = .ok (.invokevirtual 156, 3) := by decide +kernel
theorem dX8_failedCommand_16 : decode cX8_failedCommand 16 = .ok (.ifCond .eq 10, 3) := by decide +kernel
theorem dX8_failedCommand_19 : decode cX8_failedCommand 19 = .ok (.aload_n 0, 1) := by decide +kernel
theorem dX8_failedCommand_20 : decode cX8_failedCommand 20 = .ok (.getfield 36, 3) := by decide +kernel
theorem dX8_failedCommand_23 : decode cX8_failedCommand 23 = .ok (.goto 4, 3) := by decide +kernel
theorem dX8_failedCommand_26 : decode cX8_failedCommand 26 = .ok (.iconst 0, 1) := by decide +kernel
theorem dX8_failedCommand_27 : decode cX8_failedCommand 27 = .ok (.ireturn, 1) := by decide +kernel
theorem dX8_undo_0 : decode cX8_undo 0 = .ok (.aload_n 0, 1) := by decide +kernel
theorem dX8_undo_1 : decode cX8_undo 1 = .ok (.aload_n 0, 1) := by decide +kernel
theorem dX8_undo_2 : decode cX8_undo 2 = .ok (.getfield 51, 3) := by decide +kernel
theorem dX8_undo_5 : decode cX8_undo 5 = .ok (.ifCond .ne 7, 3) := by decide +kernel
theorem dX8_undo_8 : decode cX8_undo 8 = .ok (.iconst 1, 1) := by decide +kernel
theorem dX8_undo_9 : decode cX8_undo 9 = .ok (.goto 4, 3) := by decide +kernel
theorem dX8_undo_12 : decode cX8_undo 12 = .ok (.iconst 0, 1) := by decide +kernel
theorem dX8_undo_13 : decode cX8_undo 13 = .ok (.putfield 42, 3) := by decide +kernel
theorem dX8_undo_16 : decode cX8_undo 16 = .ok (.aload_n 0, 1) := by decide +kernel
theorem dX8_undo_17 : decode cX8_undo 17 = .ok (.getfield 42, 3) := by decide +kernel
theorem dX8_undo_20 : decode cX8_undo 20 = .ok (.ifCond .le 5, 3) := by decide +kernel
theorem dX8_undo_23 : decode cX8_undo 23 = .ok (.iconst 0, 1) := by decide +kernel
theorem dX8_undo_24 : decode cX8_undo 24 = .ok (.ireturn, 1) := by decide +kernel
theorem dX8_undo_25 : decode cX8_undo 25 = .ok (.aload_n 0, 1) := by decide +kernel
theorem dX8_undo_26 : decode cX8_undo 26 = .ok (.dup, 1) := by decide +kernel
theorem dX8_undo_27 : decode cX8_undo 27 = .ok (.getfield 51, 3) := by decide +kernel
theorem dX8_undo_30 : decode cX8_undo 30 = .ok (.iconst 1, 1) := by decide +kernel
theorem dX8_undo_31 : decode cX8_undo 31 = .ok (.isub, 1) := by decide +kernel
theorem dX8_undo_32 : decode cX8_undo 32 = .ok (.putfield 51, 3) := by decide +kernel
theorem dX8_undo_35 : decode cX8_undo 35 = .ok (.aload_n 0, 1) := by decide +kernel
theorem dX8_undo_36 : decode cX8_undo 36 = .ok (.getfield 22, 3) := by decide +kernel
theorem dX8_undo_39 : decode cX8_undo 39 = .ok (.bipush 89, 2) := by decide +kernel
theorem dX8_undo_41 : decode cX8_undo 41 = .ok (.aload_n 0, 1) := by decide +kernel
theorem dX8_undo_42 : decode cX8_undo 42 = .ok (.getfield 51, 3) := by decide +kernel
theorem dX8_undo_45 : decode cX8_undo 45 = .ok (.imul, 1) := by decide +kernel
theorem dX8_undo_46 : decode cX8_undo 46 = .ok (.aload_n 0, 1) := by decide +kernel
theorem dX8_undo_47 : decode cX8_undo 47 = .ok (.getfield 9, 3) := by decide +kernel
theorem dX8_undo_50 : decode cX8_undo 50 = .ok (.iconst 0, 1) := by decide +kernel
theorem dX8_undo_51 : decode cX8_undo 51 = .ok (.bipush 89, 2) := by decide +kernel
theorem dX8_undo_53 : decode cX8_undo 53 = .ok (.invokestatic 45, 3) := by decide +kernel
theorem dX8_undo_56 : decode cX8_undo 56 = .ok (.aload_n 0, 1) := by decide +kernel
theorem dX8_undo_57 : decode cX8_undo 57 = .ok (.getfield 51, 3) := by decide +kernel
theorem dX8_undo_60 : decode cX8_undo 60 = .ok (.ireturn, 1) := by decide +kernel
theorem dX8_save_0 : decode cX8_save 0 = .ok (.aload_n 0, 1) := by decide +kernel
theorem dX8_save_1 : decode cX8_save 1 = .ok (.iconst 0, 1) := by decide +kernel
theorem dX8_save_2 : decode cX8_save 2 = .ok (.putfield 42, 3) := by decide +kernel
theorem dX8_save_5 : decode cX8_save 5 = .ok (.aload_n 0, 1) := by decide +kernel
theorem dX8_save_6 : decode cX8_save 6 = .ok (.getfield 9, 3) := by decide +kernel
theorem dX8_save_9 : decode cX8_save 9 = .ok (.iconst 0, 1) := by decide +kernel
theorem dX8_save_10 : decode cX8_save 10 = .ok (.aload_n 0, 1) := by decide +kernel
theorem dX8_save_11 : decode cX8_save 11 = .ok (.getfield 19, 3) := by decide +kernel
theorem dX8_save_14 : decode cX8_save 14 = .ok (.iconst 0, 1) := by decide +kernel
theorem dX8_save_15 : decode cX8_save 15 = .ok (.bipush 89, 2) := by decide +kernel
theorem dX8_save_17 : decode cX8_save 17 = .ok (.invokestatic 45, 3) := by decide +kernel
theorem dX8_save_20 : decode cX8_save 20 = .ok (.aload_n 0, 1) := by decide +kernel
theorem dX8_save_21 : decode cX8_save 21 = .ok (.iconst 1, 1) := by decide +kernel
theorem dX8_save_22 : decode cX8_save 22 = .ok (.putfield 268, 3) := by decide +kernel
theorem dX8_save_25 : decode cX8_save 25 = .ok (.aload_n 0, 1) := by decide +kernel
theorem dX8_save_26 : decode cX8_save 26 = .ok (.getfield 9, 3) := by decide +kernel
theorem dX8_save_29 : decode cX8_save 29 = .ok (.iconst 0, 1) := by decide +kernel
theorem dX8_save_30 : decode cX8_save 30 = .ok (.iaload, 1) := by decide +kernel
theorem dX8_save_31 : decode cX8_save 31 = .ok (.ireturn, 1) := by decide +kernel
theorem dX8_restore_0 : decode cX8_restore 0 = .ok (.aload_n 0, 1) := by decide +kernel
theorem dX8_restore_1 : decode cX8_restore 1 = .ok (.aload_n 0, 1) := by decide +kernel
theorem dX8_restore_2 : decode cX8_restore 2 = .ok (.getfield 268, 3) := by decide +kernel
theorem dX8_restore_5 : decode cX8_restore 5 = .ok (.ifCond .eq 7, 3) := by decide +kernel
theorem dX8_restore_8 : decode cX8_restore 8 = .ok (.iconst 0, 1) := by decide +kernel
theorem dX8_restore_9 : decode cX8_restore 9 = .ok (.goto 4, 3) := by decide +kernel
theorem dX8_restore_12 : decode cX8_restore 12 = .ok (.iconst 1, 1) := by decide +kernel
theorem dX8_restore_13 : decode cX8_restore 13 = .ok (.putfield 42, 3) := by decide +kernel
theorem dX8_restore_16 : decode cX8_restore 16 = .ok (.aload_n 0, 1) := by decide +kernel
theorem dX8_restore_17 : decode cX8_restore 17 = .ok (.getfield 42, 3) := by decide +kernel
theorem dX8_restore_20 : decode cX8_restore 20 = .ok (.ifCond .le 5, 3) := by decide +kernel
theorem dX8_restore_23 : decode cX8_restore 23 = .ok (.iconst 0, 1) := by decide +kernel
theorem dX8_restore_24 : decode cX8_restore 24 = .ok (.ireturn, 1) := by decide +kernel
theorem dX8_restore_25 : decode cX8_restore 25 = .ok (.aload_n 0, 1) := by decide +kernel
theorem dX8_restore_26 : decode cX8_restore 26 = .ok (.getfield 19, 3) := by decide +kernel
theorem dX8_restore_29 : decode cX8_restore 29 = .ok (.iconst 0, 1) := by decide +kernel
theorem dX8_restore_30 : decode cX8_restore 30 = .ok (.aload_n 0, 1) := by decide +kernel
theorem dX8_restore_31 : decode cX8_restore 31 = .ok (.getfield 9, 3) := by decide +kernel
theorem dX8_restore_34 : decode cX8_restore 34 = .ok (.iconst 0, 1) := by decide +kernel
theorem dX8_restore_35 : decode cX8_restore 35 = .ok (.bipush 89, 2) := by decide +kernel
theorem dX8_restore_37 : decode cX8_restore 37 = .ok (.invokestatic 45, 3) := by decide +kernel
theorem dX8_restore_40 : decode cX8_restore 40 = .ok (.aload_n 0, 1) := by decide +kernel
theorem dX8_restore_41 : decode cX8_restore 41 = .ok (.iconst 0, 1) := by decide +kernel
theorem dX8_restore_42 : decode cX8_restore 42 = .ok (.putfield 51, 3) := by decide +kernel
theorem dX8_restore_45 : decode cX8_restore 45 = .ok (.aload_n 0, 1) := by decide +kernel
theorem dX8_restore_46 : decode cX8_restore 46 = .ok (.getfield 9, 3) := by decide +kernel
theorem dX8_restore_49 : decode cX8_restore 49 = .ok (.iconst 0, 1) := by decide +kernel
theorem dX8_restore_50 : decode cX8_restore 50 = .ok (.iaload, 1) := by decide +kernel
theorem dX8_restore_51 : decode cX8_restore 51 = .ok (.ireturn, 1) := by decide +kernel
