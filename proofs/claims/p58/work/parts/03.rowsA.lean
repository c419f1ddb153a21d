theorem dX0_init_0 : decode cX0_init 0 = .ok (.aload_n 0, 1) := by decide +kernel
theorem dX0_init_1 : decode cX0_init 1 = .ok (.invokespecial 3, 3) := by decide +kernel
theorem dX0_init_4 : decode cX0_init 4 = .ok (.aload_n 0, 1) := by decide +kernel
theorem dX0_init_5 : decode cX0_init 5 = .ok (.iconst 0, 1) := by decide +kernel
theorem dX0_init_6 : decode cX0_init 6 = .ok (.putfield 9, 3) := by decide +kernel
theorem dX0_init_9 : decode cX0_init 9 = .ok (.aload_n 0, 1) := by decide +kernel
theorem dX0_init_10 : decode cX0_init 10 = .ok (.iconst 5, 1) := by decide +kernel
theorem dX0_init_11 : decode cX0_init 11 = .ok (.newarray .int, 2) := by decide +kernel
theorem dX0_init_13 : decode cX0_init 13 = .ok (.putfield 15, 3) := by decide +kernel
theorem dX0_init_16 : decode cX0_init 16 = .ok (.aload_n 0, 1) := by decide +kernel
theorem dX0_init_17 : decode cX0_init 17 = .ok (.iconst 5, 1) := by decide +kernel
theorem dX0_init_18 : decode cX0_init 18 = .ok (.newarray .int, 2) := by decide +kernel
theorem dX0_init_20 : decode cX0_init 20 = .ok (.putfield 19, 3) := by decide +kernel
theorem dX0_init_23 : decode cX0_init 23 = .ok (.aload_n 0, 1) := by decide +kernel
theorem dX0_init_24 : decode cX0_init 24 = .ok (.iconst 5, 1) := by decide +kernel
theorem dX0_init_25 : decode cX0_init 25 = .ok (.newarray .boolean, 2) := by decide +kernel
theorem dX0_init_27 : decode cX0_init 27 = .ok (.putfield 22, 3) := by decide +kernel
theorem dX0_init_30 : decode cX0_init 30 = .ok (.aload_n 0, 1) := by decide +kernel
theorem dX0_init_31 : decode cX0_init 31 = .ok (.iconst 5, 1) := by decide +kernel
theorem dX0_init_32 : decode cX0_init 32 = .ok (.newarray .boolean, 2) := by decide +kernel
theorem dX0_init_34 : decode cX0_init 34 = .ok (.putfield 26, 3) := by decide +kernel
theorem dX0_init_37 : decode cX0_init 37 = .ok (.return_, 1) := by decide +kernel
theorem dX0_copyFrom_0 : decode cX0_copyFrom 0 = .ok (.aload_n 0, 1) := by decide +kernel
theorem dX0_copyFrom_1 : decode cX0_copyFrom 1 = .ok (.aload_n 1, 1) := by decide +kernel
theorem dX0_copyFrom_2 : decode cX0_copyFrom 2 = .ok (.getfield 9, 3) := by decide +kernel
theorem dX0_copyFrom_5 : decode cX0_copyFrom 5 = .ok (.putfield 9, 3) := by decide +kernel
theorem dX0_copyFrom_8 : decode cX0_copyFrom 8 = .ok (.iconst 0, 1) := by decide +kernel
theorem dX0_copyFrom_9 : decode cX0_copyFrom 9 = .ok (.istore_n 2, 1) := by decide +kernel
theorem dX0_copyFrom_10 : decode cX0_copyFrom 10 = .ok (.iload_n 2, 1) := by decide +kernel
theorem dX0_copyFrom_11 : decode cX0_copyFrom 11 = .ok (.iconst 5, 1) := by decide +kernel
theorem dX0_copyFrom_12 : decode cX0_copyFrom 12 = .ok (.if_icmp .ge 57, 3) := by decide +kernel
theorem dX0_copyFrom_15 : decode cX0_copyFrom 15 = .ok (.aload_n 0, 1) := by decide +kernel
theorem dX0_copyFrom_16 : decode cX0_copyFrom 16 = .ok (.getfield 15, 3) := by decide +kernel
theorem dX0_copyFrom_19 : decode cX0_copyFrom 19 = .ok (.iload_n 2, 1) := by decide +kernel
theorem dX0_copyFrom_20 : decode cX0_copyFrom 20 = .ok (.aload_n 1, 1) := by decide +kernel
theorem dX0_copyFrom_21 : decode cX0_copyFrom 21 = .ok (.getfield 15, 3) := by decide +kernel
theorem dX0_copyFrom_24 : decode cX0_copyFrom 24 = .ok (.iload_n 2, 1) := by decide +kernel
theorem dX0_copyFrom_25 : decode cX0_copyFrom 25 = .ok (.iaload, 1) := by decide +kernel
theorem dX0_copyFrom_26 : decode cX0_copyFrom 26 = .ok (.iastore, 1) := by decide +kernel
theorem dX0_copyFrom_27 : decode cX0_copyFrom 27 = .ok (.aload_n 0, 1) := by decide +kernel
theorem dX0_copyFrom_28 : decode cX0_copyFrom 28 = .ok (.getfield 19, 3) := by decide +kernel
theorem dX0_copyFrom_31 : decode cX0_copyFrom 31 = .ok (.iload_n 2, 1) := by decide +kernel
theorem dX0_copyFrom_32 : decode cX0_copyFrom 32 = .ok (.aload_n 1, 1) := by decide +kernel
theorem dX0_copyFrom_33 : decode cX0_copyFrom 33 = .ok (.getfield 19, 3) := by decide +kernel
theorem dX0_copyFrom_36 : decode cX0_copyFrom 36 = .ok (.iload_n 2, 1) := by decide +kernel
theorem dX0_copyFrom_37 : decode cX0_copyFrom 37 = .ok (.iaload, 1) := by decide +kernel
theorem dX0_copyFrom_38 : decode cX0_copyFrom 38 = .ok (.iastore, 1) := by decide +kernel
theorem dX0_copyFrom_39 : decode cX0_copyFrom 39 = .ok (.aload_n 0, 1) := by decide +kernel
theorem dX0_copyFrom_40 : decode cX0_copyFrom 40 = .ok (.getfield 22, 3) := by decide +kernel
theorem dX0_copyFrom_43 : decode cX0_copyFrom 43 = .ok (.iload_n 2, 1) := by decide +kernel
theorem dX0_copyFrom_44 : decode cX0_copyFrom 44 = .ok (.aload_n 1, 1) := by decide +kernel
theorem dX0_copyFrom_45 : decode cX0_copyFrom 45 = .ok (.getfield 22, 3) := by decide +kernel
theorem dX0_copyFrom_48 : decode cX0_copyFrom 48 = .ok (.iload_n 2, 1) := by decide +kernel
theorem dX0_copyFrom_49 : decode cX0_copyFrom 49 = .ok (.baload, 1) := by decide +kernel
theorem dX0_copyFrom_50 : decode cX0_copyFrom 50 = .ok (.bastore, 1) := by decide +kernel
theorem dX0_copyFrom_51 : decode cX0_copyFrom 51 = .ok (.aload_n 0, 1) := by decide +kernel
theorem dX0_copyFrom_52 : decode cX0_copyFrom 52 = .ok (.getfield 26, 3) := by decide +kernel
theorem dX0_copyFrom_55 : decode cX0_copyFrom 55 = .ok (.iload_n 2, 1) := by decide +kernel
theorem dX0_copyFrom_56 : decode cX0_copyFrom 56 = .ok (.aload_n 1, 1) := by decide +kernel
theorem dX0_copyFrom_57 : decode cX0_copyFrom 57 = .ok (.getfield 26, 3) := by decide +kernel
theorem dX0_copyFrom_60 : decode cX0_copyFrom 60 = .ok (.iload_n 2, 1) := by decide +kernel
theorem dX0_copyFrom_61 : decode cX0_copyFrom 61 = .ok (.baload, 1) := by decide +kernel
theorem dX0_copyFrom_62 : decode cX0_copyFrom 62 = .ok (.bastore, 1) := by decide +kernel
theorem dX0_copyFrom_63 : decode cX0_copyFrom 63 = .ok (.iinc 2 1, 3) := by decide +kernel
theorem dX0_copyFrom_66 : decode cX0_copyFrom 66 = .ok (.goto (-56), 3) := by decide +kernel
theorem dX0_copyFrom_69 : decode cX0_copyFrom 69 = .ok (.return_, 1) := by decide +kernel
theorem dX0_has_0 : decode cX0_has 0 = .ok (.iload_n 1, 1) := by decide +kernel
theorem dX0_has_1 : decode cX0_has 1 = .ok (.ifCond .lt 15, 3) := by decide +kernel
theorem dX0_has_4 : decode cX0_has 4 = .ok (.iload_n 1, 1) := by decide +kernel
theorem dX0_has_5 : decode cX0_has 5 = .ok (.aload_n 0, 1) := by decide +kernel
theorem dX0_has_6 : decode cX0_has 6 = .ok (.getfield 9, 3) := by decide +kernel
theorem dX0_has_9 : decode cX0_has 9 = .ok (.if_icmp .ge 7, 3) := by decide +kernel
theorem dX0_has_12 : decode cX0_has 12 = .ok (.iconst 1, 1) := by decide +kernel
theorem dX0_has_13 : decode cX0_has 13 = .ok (.goto 4, 3) := by decide +kernel
theorem dX0_has_16 : decode cX0_has 16 = .ok (.iconst 0, 1) := by decide +kernel
theorem dX0_has_17 : decode cX0_has 17 = .ok (.ireturn, 1) := by decide +kernel
theorem dX0_hasWater_0 : decode cX0_hasWater 0 = .ok (.aload_n 0, 1) := by decide +kernel
theorem dX0_hasWater_1 : decode cX0_hasWater 1 = .ok (.getfield 15, 3) := by decide +kernel
theorem dX0_hasWater_4 : decode cX0_hasWater 4 = .ok (.iload_n 1, 1) := by decide +kernel
theorem dX0_hasWater_5 : decode cX0_hasWater 5 = .ok (.iaload, 1) := by decide +kernel
theorem dX0_hasWater_6 : decode cX0_hasWater 6 = .ok (.ifCond .le 7, 3) := by decide +kernel
theorem dX0_hasWater_9 : decode cX0_hasWater 9 = .ok (.iconst 1, 1) := by decide +kernel
theorem dX0_hasWater_10 : decode cX0_hasWater 10 = .ok (.goto 4, 3) := by decide +kernel
theorem dX0_hasWater_13 : decode cX0_hasWater 13 = .ok (.iconst 0, 1) := by decide +kernel
theorem dX0_hasWater_14 : decode cX0_hasWater 14 = .ok (.ireturn, 1) := by decide +kernel
set_option maxRecDepth 20000 in
theorem ggX0_degrees_X7_roundedDegrees : GoodIn wsX0_degrees wsX7_roundedDegrees := goodIn_ca (goodIn_r _ [5] (by decide +kernel) (by decide +kernel)) (goodIn_sub (fun _ h => List.mem_cons_of_mem _ (List.mem_append_right _ h)) (by decide +kernel))
set_option maxRecDepth 20000 in
theorem gX0_degrees_X7_roundedDegrees_n29 : GoodIn wsX0_degrees (wsX7_roundedDegrees) := ggX0_degrees_X7_roundedDegrees
theorem dX0_degrees_0 : decode cX0_degrees 0 = .ok (.aload_n 0, 1) := by decide +kernel
theorem dX0_degrees_1 : decode cX0_degrees 1 = .ok (.getfield 19, 3) := by decide +kernel
theorem dX0_degrees_4 : decode cX0_degrees 4 = .ok (.iload_n 1, 1) := by decide +kernel
theorem dX0_degrees_5 : decode cX0_degrees 5 = .ok (.iaload, 1) := by decide +kernel
theorem dX0_degrees_6 : decode cX0_degrees 6 = .ok (.aload_n 0, 1) := by decide +kernel
theorem dX0_degrees_7 : decode cX0_degrees 7 = .ok (.getfield 15, 3) := by decide +kernel
theorem dX0_degrees_10 : decode cX0_degrees 10 = .ok (.iload_n 1, 1) := by decide +kernel
theorem dX0_degrees_11 : decode cX0_degrees 11 = .ok (.iaload, 1) := by decide +kernel
theorem dX0_degrees_12 : decode cX0_degrees 12 = .ok (.invokestatic 29, 3) := by decide +kernel
theorem dX0_degrees_15 : decode cX0_degrees 15 = .ok (.ireturn, 1) := by decide +kernel
theorem dX0_isHotter_0 : decode cX0_isHotter 0 = .ok (.aload_n 0, 1) := by decide +kernel
theorem dX0_isHotter_1 : decode cX0_isHotter 1 = .ok (.getfield 19, 3) := by decide +kernel
theorem dX0_isHotter_4 : decode cX0_isHotter 4 = .ok (.iload_n 1, 1) := by decide +kernel
theorem dX0_isHotter_5 : decode cX0_isHotter 5 = .ok (.iaload, 1) := by decide +kernel
theorem dX0_isHotter_6 : decode cX0_isHotter 6 = .ok (.aload_n 0, 1) := by decide +kernel
theorem dX0_isHotter_7 : decode cX0_isHotter 7 = .ok (.getfield 15, 3) := by decide +kernel
theorem dX0_isHotter_10 : decode cX0_isHotter 10 = .ok (.iload_n 2, 1) := by decide +kernel
theorem dX0_isHotter_11 : decode cX0_isHotter 11 = .ok (.iaload, 1) := by decide +kernel
theorem dX0_isHotter_12 : decode cX0_isHotter 12 = .ok (.imul, 1) := by decide +kernel
theorem dX0_isHotter_13 : decode cX0_isHotter 13 = .ok (.aload_n 0, 1) := by decide +kernel
theorem dX0_isHotter_14 : decode cX0_isHotter 14 = .ok (.getfield 19, 3) := by decide +kernel
theorem dX0_isHotter_17 : decode cX0_isHotter 17 = .ok (.iload_n 2, 1) := by decide +kernel
theorem dX0_isHotter_18 : decode cX0_isHotter 18 = .ok (.iaload, 1) := by decide +kernel
theorem dX0_isHotter_19 : decode cX0_isHotter 19 = .ok (.aload_n 0, 1) := by decide +kernel
theorem dX0_isHotter_20 : decode cX0_isHotter 20 = .ok (.getfield 15, 3) := by decide +kernel
theorem dX0_isHotter_23 : decode cX0_isHotter 23 = .ok (.iload_n 1, 1) := by decide +kernel
theorem dX0_isHotter_24 : decode cX0_isHotter 24 = .ok (.iaload, 1) := by decide +kernel
theorem dX0_isHotter_25 : decode cX0_isHotter 25 = .ok (.imul, 1) := by decide +kernel
theorem dX0_isHotter_26 : decode cX0_isHotter 26 = .ok (.if_icmp .le 7, 3) := by decide +kernel
theorem dX0_isHotter_29 : decode cX0_isHotter 29 = .ok (.iconst 1, 1) := by decide +kernel
theorem dX0_isHotter_30 : decode cX0_isHotter 30 = .ok (.goto 4, 3) := by decide +kernel
theorem dX0_isHotter_33 : decode cX0_isHotter 33 = .ok (.iconst 0, 1) := by decide +kernel
theorem dX0_isHotter_34 : decode cX0_isHotter 34 = .ok (.ireturn, 1) := by decide +kernel
set_option maxRecDepth 20000 in
theorem ggX0_heatOf_X0_hasWater : GoodIn wsX0_heatOf wsX0_hasWater := goodIn_ca (goodIn_r _ [7, 2, 8, 9, 10, 11, 12] (by decide +kernel) (by decide +kernel)) (goodIn_sub (fun _ h => List.mem_cons_of_mem _ (List.mem_append_left _ (List.mem_append_right _ h))) (by decide +kernel))
set_option maxRecDepth 20000 in
theorem gX0_heatOf_X0_hasWater : GoodIn wsX0_heatOf (wsV RX0 33 RX0 yX0_hasWater wsX0_hasWater) := goodIn_app (goodIn_of _ (by decide +kernel)) ggX0_heatOf_X0_hasWater
theorem dX0_heatOf_0 : decode cX0_heatOf 0 = .ok (.aload_n 0, 1) := by decide +kernel
theorem dX0_heatOf_1 : decode cX0_heatOf 1 = .ok (.iload_n 1, 1) := by decide +kernel
theorem dX0_heatOf_2 : decode cX0_heatOf 2 = .ok (.invokevirtual 33, 3) := by decide +kernel
theorem dX0_heatOf_5 : decode cX0_heatOf 5 = .ok (.ifCond .eq 21, 3) := by decide +kernel
theorem dX0_heatOf_8 : decode cX0_heatOf 8 = .ok (.aload_n 0, 1) := by decide +kernel
theorem dX0_heatOf_9 : decode cX0_heatOf 9 = .ok (.getfield 19, 3) := by decide +kernel
theorem dX0_heatOf_12 : decode cX0_heatOf 12 = .ok (.iload_n 1, 1) := by decide +kernel
theorem dX0_heatOf_13 : decode cX0_heatOf 13 = .ok (.iaload, 1) := by decide +kernel
theorem dX0_heatOf_14 : decode cX0_heatOf 14 = .ok (.iload_n 2, 1) := by decide +kernel
theorem dX0_heatOf_15 : decode cX0_heatOf 15 = .ok (.imul, 1) := by decide +kernel
theorem dX0_heatOf_16 : decode cX0_heatOf 16 = .ok (.aload_n 0, 1) := by decide +kernel
theorem dX0_heatOf_17 : decode cX0_heatOf 17 = .ok (.getfield 15, 3) := by decide +kernel
theorem dX0_heatOf_20 : decode cX0_heatOf 20 = .ok (.iload_n 1, 1) := by decide +kernel
theorem dX0_heatOf_21 : decode cX0_heatOf 21 = .ok (.iaload, 1) := by decide +kernel
theorem dX0_heatOf_22 : decode cX0_heatOf 22 = .ok (.idiv, 1) := by decide +kernel
theorem dX0_heatOf_23 : decode cX0_heatOf 23 = .ok (.goto 4, 3) := by decide +kernel
theorem dX0_heatOf_26 : decode cX0_heatOf 26 = .ok (.iconst 0, 1) := by decide +kernel
theorem dX0_heatOf_27 : decode cX0_heatOf 27 = .ok (.ireturn, 1) := by decide +kernel
theorem dX0_members_0 : decode cX0_members 0 = .ok (.iconst 0, 1) := by decide +kernel
theorem dX0_members_1 : decode cX0_members 1 = .ok (.istore_n 1, 1) := by decide +kernel
theorem dX0_members_2 : decode cX0_members 2 = .ok (.iconst 0, 1) := by decide +kernel
theorem dX0_members_3 : decode cX0_members 3 = .ok (.istore_n 2, 1) := by decide +kernel
theorem dX0_members_4 : decode cX0_members 4 = .ok (.iload_n 2, 1) := by decide +kernel
theorem dX0_members_5 : decode cX0_members 5 = .ok (.aload_n 0, 1) := by decide +kernel
theorem dX0_members_6 : decode cX0_members 6 = .ok (.getfield 9, 3) := by decide +kernel
theorem dX0_members_9 : decode cX0_members 9 = .ok (.if_icmp .ge 21, 3) := by decide +kernel
theorem dX0_members_12 : decode cX0_members 12 = .ok (.aload_n 0, 1) := by decide +kernel
theorem dX0_members_13 : decode cX0_members 13 = .ok (.getfield 26, 3) := by decide +kernel
theorem dX0_members_16 : decode cX0_members 16 = .ok (.iload_n 2, 1) := by decide +kernel
theorem dX0_members_17 : decode cX0_members 17 = .ok (.baload, 1) := by decide +kernel
theorem dX0_members_18 : decode cX0_members 18 = .ok (.ifCond .eq 6, 3) := by decide +kernel
theorem dX0_members_21 : decode cX0_members 21 = .ok (.iinc 1 1, 3) := by decide +kernel
theorem dX0_members_24 : decode cX0_members 24 = .ok (.iinc 2 1, 3) := by decide +kernel
theorem dX0_members_27 : decode cX0_members 27 = .ok (.goto (-23), 3) := by decide +kernel
theorem dX0_members_30 : decode cX0_members 30 = .ok (.iload_n 1, 1) := by decide +kernel
theorem dX0_members_31 : decode cX0_members 31 = .ok (.ireturn, 1) := by decide +kernel
set_option maxRecDepth 20000 in
theorem ggX0_membersWithWater_X0_hasWater : GoodIn wsX0_membersWithWater wsX0_hasWater := goodIn_ca (goodIn_r _ [7, 8, 9, 10, 11, 12, 13] (by decide +kernel) (by decide +kernel)) (goodIn_sub (fun _ h => List.mem_cons_of_mem _ (List.mem_append_right _ h)) (by decide +kernel))
set_option maxRecDepth 20000 in
theorem gX0_membersWithWater_X0_hasWater : GoodIn wsX0_membersWithWater (wsV RX0 33 RX0 yX0_hasWater wsX0_hasWater) := goodIn_app (goodIn_of _ (by decide +kernel)) ggX0_membersWithWater_X0_hasWater
theorem dX0_membersWithWater_0 : decode cX0_membersWithWater 0 = .ok (.iconst 0, 1) := by decide +kernel
theorem dX0_membersWithWater_1 : decode cX0_membersWithWater 1 = .ok (.istore_n 1, 1) := by decide +kernel
theorem dX0_membersWithWater_2 : decode cX0_membersWithWater 2 = .ok (.iconst 0, 1) := by decide +kernel
theorem dX0_membersWithWater_3 : decode cX0_membersWithWater 3 = .ok (.istore_n 2, 1) := by decide +kernel
theorem dX0_membersWithWater_4 : decode cX0_membersWithWater 4 = .ok (.iload_n 2, 1) := by decide +kernel
theorem dX0_membersWithWater_5 : decode cX0_membersWithWater 5 = .ok (.aload_n 0, 1) := by decide +kernel
theorem dX0_membersWithWater_6 : decode cX0_membersWithWater 6 = .ok (.getfield 9, 3) := by decide +kernel
theorem dX0_membersWithWater_9 : decode cX0_membersWithWater 9 = .ok (.if_icmp .ge 29, 3) := by decide +kernel
theorem dX0_membersWithWater_12 : decode cX0_membersWithWater 12 = .ok (.aload_n 0, 1) := by decide +kernel
theorem dX0_membersWithWater_13 : decode cX0_membersWithWater 13 = .ok (.getfield 26, 3) := by decide +kernel
theorem dX0_membersWithWater_16 : decode cX0_membersWithWater 16 = .ok (.iload_n 2, 1) := by decide +kernel
theorem dX0_membersWithWater_17 : decode cX0_membersWithWater 17 = .ok (.baload, 1) := by decide +kernel
theorem dX0_membersWithWater_18 : decode cX0_membersWithWater 18 = .ok (.ifCond .eq 14, 3) := by decide +kernel
theorem dX0_membersWithWater_21 : decode cX0_membersWithWater 21 = .ok (.aload_n 0, 1) := by decide +kernel
theorem dX0_membersWithWater_22 : decode cX0_membersWithWater 22 = .ok (.iload_n 2, 1) := by decide +kernel
theorem dX0_membersWithWater_23 : decode cX0_membersWithWater 23 = .ok (.invokevirtual 33, 3) := by decide +kernel
theorem dX0_membersWithWater_26 : decode cX0_membersWithWater 26 = .ok (.ifCond .eq 6, 3) := by decide +kernel
theorem dX0_membersWithWater_29 : decode cX0_membersWithWater 29 = .ok (.iinc 1 1, 3) := by decide +kernel
theorem dX0_membersWithWater_32 : decode cX0_membersWithWater 32 = .ok (.iinc 2 1, 3) := by decide +kernel
theorem dX0_membersWithWater_35 : decode cX0_membersWithWater 35 = .ok (.goto (-31), 3) := by decide +kernel
theorem dX0_membersWithWater_38 : decode cX0_membersWithWater 38 = .ok (.iload_n 1, 1) := by decide +kernel
theorem dX0_membersWithWater_39 : decode cX0_membersWithWater 39 = .ok (.ireturn, 1) := by decide +kernel
theorem dX0_heatOfMembers_0 : decode cX0_heatOfMembers 0 = .ok (.iconst 0, 1) := by decide +kernel
theorem dX0_heatOfMembers_1 : decode cX0_heatOfMembers 1 = .ok (.istore_n 1, 1) := by decide +kernel
theorem dX0_heatOfMembers_2 : decode cX0_heatOfMembers 2 = .ok (.iconst 0, 1) := by decide +kernel
theorem dX0_heatOfMembers_3 : decode cX0_heatOfMembers 3 = .ok (.istore_n 2, 1) := by decide +kernel
theorem dX0_heatOfMembers_4 : decode cX0_heatOfMembers 4 = .ok (.iload_n 2, 1) := by decide +kernel
theorem dX0_heatOfMembers_5 : decode cX0_heatOfMembers 5 = .ok (.aload_n 0, 1) := by decide +kernel
theorem dX0_heatOfMembers_6 : decode cX0_heatOfMembers 6 = .ok (.getfield 9, 3) := by decide +kernel
theorem dX0_heatOfMembers_9 : decode cX0_heatOfMembers 9 = .ok (.if_icmp .ge 27, 3) := by decide +kernel
theorem dX0_heatOfMembers_12 : decode cX0_heatOfMembers 12 = .ok (.aload_n 0, 1) := by decide +kernel
theorem dX0_heatOfMembers_13 : decode cX0_heatOfMembers 13 = .ok (.getfield 26, 3) := by decide +kernel
theorem dX0_heatOfMembers_16 : decode cX0_heatOfMembers 16 = .ok (.iload_n 2, 1) := by decide +kernel
theorem dX0_heatOfMembers_17 : decode cX0_heatOfMembers 17 = .ok (.baload, 1) := by decide +kernel
theorem dX0_heatOfMembers_18 : decode cX0_heatOfMembers 18 = .ok (.ifCond .eq 12, 3) := by decide +kernel
theorem dX0_heatOfMembers_21 : decode cX0_heatOfMembers 21 = .ok (.iload_n 1, 1) := by decide +kernel
theorem dX0_heatOfMembers_22 : decode cX0_heatOfMembers 22 = .ok (.aload_n 0, 1) := by decide +kernel
theorem dX0_heatOfMembers_23 : decode cX0_heatOfMembers 23 = .ok (.getfield 19, 3) := by decide +kernel
theorem dX0_heatOfMembers_26 : decode cX0_heatOfMembers 26 = .ok (.iload_n 2, 1) := by decide +kernel
theorem dX0_heatOfMembers_27 : decode cX0_heatOfMembers 27 = .ok (.iaload, 1) := by decide +kernel
theorem dX0_heatOfMembers_28 : decode cX0_heatOfMembers 28 = .ok (.iadd, 1) := by decide +kernel
theorem dX0_heatOfMembers_29 : decode cX0_heatOfMembers 29 = .ok (.istore_n 1, 1) := by decide +kernel
theorem dX0_heatOfMembers_30 : decode cX0_heatOfMembers 30 = .ok (.iinc 2 1, 3) := by decide +kernel
theorem dX0_heatOfMembers_33 : decode cX0_heatOfMembers 33 = .ok (.goto (-29), 3) := by decide +kernel
theorem dX0_heatOfMembers_36 : decode cX0_heatOfMembers 36 = .ok (.iload_n 1, 1) := by decide +kernel
theorem dX0_heatOfMembers_37 : decode cX0_heatOfMembers 37 = .ok (.ireturn, 1) := by decide +kernel
theorem dX0_heatOfOthers_0 : decode cX0_heatOfOthers 0 = .ok (.iconst 0, 1) := by decide +kernel
theorem dX0_heatOfOthers_1 : decode cX0_heatOfOthers 1 = .ok (.istore_n 1, 1) := by decide +kernel
theorem dX0_heatOfOthers_2 : decode cX0_heatOfOthers 2 = .ok (.iconst 0, 1) := by decide +kernel
theorem dX0_heatOfOthers_3 : decode cX0_heatOfOthers 3 = .ok (.istore_n 2, 1) := by decide +kernel
theorem dX0_heatOfOthers_4 : decode cX0_heatOfOthers 4 = .ok (.iload_n 2, 1) := by decide +kernel
theorem dX0_heatOfOthers_5 : decode cX0_heatOfOthers 5 = .ok (.aload_n 0, 1) := by decide +kernel
theorem dX0_heatOfOthers_6 : decode cX0_heatOfOthers 6 = .ok (.getfield 9, 3) := by decide +kernel
theorem dX0_heatOfOthers_9 : decode cX0_heatOfOthers 9 = .ok (.if_icmp .ge 27, 3) := by decide +kernel
theorem dX0_heatOfOthers_12 : decode cX0_heatOfOthers 12 = .ok (.aload_n 0, 1) := by decide +kernel
theorem dX0_heatOfOthers_13 : decode cX0_heatOfOthers 13 = .ok (.getfield 26, 3) := by decide +kernel
theorem dX0_heatOfOthers_16 : decode cX0_heatOfOthers 16 = .ok (.iload_n 2, 1) := by decide +kernel
theorem dX0_heatOfOthers_17 : decode cX0_heatOfOthers 17 = .ok (.baload, 1) := by decide +kernel
theorem dX0_heatOfOthers_18 : decode cX0_heatOfOthers 18 = .ok (.ifCond .ne 12, 3) := by decide +kernel
theorem dX0_heatOfOthers_21 : decode cX0_heatOfOthers 21 = .ok (.iload_n 1, 1) := by decide +kernel
theorem dX0_heatOfOthers_22 : decode cX0_heatOfOthers 22 = .ok (.aload_n 0, 1) := by decide +kernel
theorem dX0_heatOfOthers_23 : decode cX0_heatOfOthers 23 = .ok (.getfield 19, 3) := by decide +kernel
theorem dX0_heatOfOthers_26 : decode cX0_heatOfOthers 26 = .ok (.iload_n 2, 1) := by decide +kernel
theorem dX0_heatOfOthers_27 : decode cX0_heatOfOthers 27 = .ok (.iaload, 1) := by decide +kernel
theorem dX0_heatOfOthers_28 : decode cX0_heatOfOthers 28 = .ok (.iadd, 1) := by decide +kernel
theorem dX0_heatOfOthers_29 : decode cX0_heatOfOthers 29 = .ok (.istore_n 1, 1) := by decide +kernel
theorem dX0_heatOfOthers_30 : decode cX0_heatOfOthers 30 = .ok (.iinc 2 1, 3) := by decide +kernel
theorem dX0_heatOfOthers_33 : decode cX0_heatOfOthers 33 = .ok (.goto (-29), 3) := by decide +kernel
theorem dX0_heatOfOthers_36 : decode cX0_heatOfOthers 36 = .ok (.iload_n 1, 1) := by decide +kernel
theorem dX0_heatOfOthers_37 : decode cX0_heatOfOthers 37 = .ok (.ireturn, 1) := by decide +kernel
theorem dX0_heatOfAll_0 : decode cX0_heatOfAll 0 = .ok (.iconst 0, 1) := by decide +kernel
theorem dX0_heatOfAll_1 : decode cX0_heatOfAll 1 = .ok (.istore_n 1, 1) := by decide +kernel
theorem dX0_heatOfAll_2 : decode cX0_heatOfAll 2 = .ok (.iconst 0, 1) := by decide +kernel
theorem dX0_heatOfAll_3 : decode cX0_heatOfAll 3 = .ok (.istore_n 2, 1) := by decide +kernel
theorem dX0_heatOfAll_4 : decode cX0_heatOfAll 4 = .ok (.iload_n 2, 1) := by decide +kernel
theorem dX0_heatOfAll_5 : decode cX0_heatOfAll 5 = .ok (.aload_n 0, 1) := by decide +kernel
theorem dX0_heatOfAll_6 : decode cX0_heatOfAll 6 = .ok (.getfield 9, 3) := by decide +kernel
theorem dX0_heatOfAll_9 : decode cX0_heatOfAll 9 = .ok (.if_icmp .ge 18, 3) := by decide +kernel
theorem dX0_heatOfAll_12 : decode cX0_heatOfAll 12 = .ok (.iload_n 1, 1) := by decide +kernel
theorem dX0_heatOfAll_13 : decode cX0_heatOfAll 13 = .ok (.aload_n 0, 1) := by decide +kernel
theorem dX0_heatOfAll_14 : decode cX0_heatOfAll 14 = .ok (.getfield 19, 3) := by decide +kernel
theorem dX0_heatOfAll_17 : decode cX0_heatOfAll 17 = .ok (.iload_n 2, 1) := by decide +kernel
theorem dX0_heatOfAll_18 : decode cX0_heatOfAll 18 = .ok (.iaload, 1) := by decide +kernel
theorem dX0_heatOfAll_19 : decode cX0_heatOfAll 19 = .ok (.iadd, 1) := by decide +kernel
theorem dX0_heatOfAll_20 : decode cX0_heatOfAll 20 = .ok (.istore_n 1, 1) := by decide +kernel
theorem dX0_heatOfAll_21 : decode cX0_heatOfAll 21 = .ok (.iinc 2 1, 3) := by decide +kernel
theorem dX0_heatOfAll_24 : decode cX0_heatOfAll 24 = .ok (.goto (-20), 3) := by decide +kernel
theorem dX0_heatOfAll_27 : decode cX0_heatOfAll 27 = .ok (.iload_n 1, 1) := by decide +kernel
theorem dX0_heatOfAll_28 : decode cX0_heatOfAll 28 = .ok (.ireturn, 1) := by decide +kernel
theorem dX0_volumeOfAll_0 : decode cX0_volumeOfAll 0 = .ok (.iconst 0, 1) := by decide +kernel
theorem dX0_volumeOfAll_1 : decode cX0_volumeOfAll 1 = .ok (.istore_n 1, 1) := by decide +kernel
theorem dX0_volumeOfAll_2 : decode cX0_volumeOfAll 2 = .ok (.iconst 0, 1) := by decide +kernel
theorem dX0_volumeOfAll_3 : decode cX0_volumeOfAll 3 = .ok (.istore_n 2, 1) := by decide +kernel
theorem dX0_volumeOfAll_4 : decode cX0_volumeOfAll 4 = .ok (.iload_n 2, 1) := by decide +kernel
theorem dX0_volumeOfAll_5 : decode cX0_volumeOfAll 5 = .ok (.aload_n 0, 1) := by decide +kernel
theorem dX0_volumeOfAll_6 : decode cX0_volumeOfAll 6 = .ok (.getfield 9, 3) := by decide +kernel
theorem dX0_volumeOfAll_9 : decode cX0_volumeOfAll 9 = .ok (.if_icmp .ge 18, 3) := by decide +kernel
theorem dX0_volumeOfAll_12 : decode cX0_volumeOfAll 12 = .ok (.iload_n 1, 1) := by decide +kernel
theorem dX0_volumeOfAll_13 : decode cX0_volumeOfAll 13 = .ok (.aload_n 0, 1) := by decide +kernel
theorem dX0_volumeOfAll_14 : decode cX0_volumeOfAll 14 = .ok (.getfield 15, 3) := by decide +kernel
theorem dX0_volumeOfAll_17 : decode cX0_volumeOfAll 17 = .ok (.iload_n 2, 1) := by decide +kernel
theorem dX0_volumeOfAll_18 : decode cX0_volumeOfAll 18 = .ok (.iaload, 1) := by decide +kernel
theorem dX0_volumeOfAll_19 : decode cX0_volumeOfAll 19 = .ok (.iadd, 1) := by decide +kernel
theorem dX0_volumeOfAll_20 : decode cX0_volumeOfAll 20 = .ok (.istore_n 1, 1) := by decide +kernel
theorem dX0_volumeOfAll_21 : decode cX0_volumeOfAll 21 = .ok (.iinc 2 1, 3) := by decide +kernel
theorem dX0_volumeOfAll_24 : decode cX0_volumeOfAll 24 = .ok (.goto (-20), 3) := by decide +kernel
theorem dX0_volumeOfAll_27 : decode cX0_volumeOfAll 27 = .ok (.iload_n 1, 1) := by decide +kernel
theorem dX0_volumeOfAll_28 : decode cX0_volumeOfAll 28 = .ok (.ireturn, 1) := by decide +kernel
set_option maxRecDepth 20000 in
theorem ggX0_hottestMember_X0_hasWater : GoodIn wsX0_hottestMember wsX0_hasWater := goodIn_ca (goodIn_r _ [7, 8, 14, 15, 16, 17, 18] (by decide +kernel) (by decide +kernel)) (goodIn_sub (fun _ h => List.mem_cons_of_mem _ (List.mem_append_right _ h)) (by decide +kernel))
set_option maxRecDepth 20000 in
theorem gX0_hottestMember_X0_hasWater : GoodIn wsX0_hottestMember (wsV RX0 33 RX0 yX0_hasWater wsX0_hasWater) := goodIn_app (goodIn_of _ (by decide +kernel)) ggX0_hottestMember_X0_hasWater
set_option maxRecDepth 20000 in
theorem ggX0_hottestMember_X0_isHotter : GoodIn wsX0_hottestMember wsX0_isHotter := goodIn_ca (goodIn_r _ [12, 13, 8, 14, 15, 16, 17, 18] (by decide +kernel) (by decide +kernel)) (goodIn_sub (fun _ h => List.mem_cons_of_mem _ (List.mem_append_right _ h)) (by decide +kernel))
set_option maxRecDepth 20000 in
theorem gX0_hottestMember_X0_isHotter : GoodIn wsX0_hottestMember (wsV RX0 37 RX0 yX0_isHotter wsX0_isHotter) := goodIn_app (goodIn_of _ (by decide +kernel)) ggX0_hottestMember_X0_isHotter
theorem dX0_hottestMember_0 : decode cX0_hottestMember 0 = .ok (.iconst (-1), 1) := by decide +kernel
theorem dX0_hottestMember_1 : decode cX0_hottestMember 1 = .ok (.istore_n 1, 1) := by decide +kernel
theorem dX0_hottestMember_2 : decode cX0_hottestMember 2 = .ok (.iconst 0, 1) := by decide +kernel
theorem dX0_hottestMember_3 : decode cX0_hottestMember 3 = .ok (.istore_n 2, 1) := by decide +kernel
theorem dX0_hottestMember_4 : decode cX0_hottestMember 4 = .ok (.iload_n 2, 1) := by decide +kernel
theorem dX0_hottestMember_5 : decode cX0_hottestMember 5 = .ok (.aload_n 0, 1) := by decide +kernel
theorem dX0_hottestMember_6 : decode cX0_hottestMember 6 = .ok (.getfield 9, 3) := by decide +kernel
theorem dX0_hottestMember_9 : decode cX0_hottestMember 9 = .ok (.if_icmp .ge 42, 3) := by decide +kernel
theorem dX0_hottestMember_12 : decode cX0_hottestMember 12 = .ok (.aload_n 0, 1) := by decide +kernel
theorem dX0_hottestMember_13 : decode cX0_hottestMember 13 = .ok (.getfield 26, 3) := by decide +kernel
theorem dX0_hottestMember_16 : decode cX0_hottestMember 16 = .ok (.iload_n 2, 1) := by decide +kernel
theorem dX0_hottestMember_17 : decode cX0_hottestMember 17 = .ok (.baload, 1) := by decide +kernel
theorem dX0_hottestMember_18 : decode cX0_hottestMember 18 = .ok (.ifCond .eq 27, 3) := by decide +kernel
theorem dX0_hottestMember_21 : decode cX0_hottestMember 21 = .ok (.aload_n 0, 1) := by decide +kernel
theorem dX0_hottestMember_22 : decode cX0_hottestMember 22 = .ok (.iload_n 2, 1) := by decide +kernel
theorem dX0_hottestMember_23 : decode cX0_hottestMember 23 = .ok (.invokevirtual 33, 3) := by decide +kernel
theorem dX0_hottestMember_26 : decode cX0_hottestMember 26 = .ok (.ifCond .eq 19, 3) := by decide +kernel
theorem dX0_hottestMember_29 : decode cX0_hottestMember 29 = .ok (.iload_n 1, 1) := by decide +kernel
theorem dX0_hottestMember_30 : decode cX0_hottestMember 30 = .ok (.iconst (-1), 1) := by decide +kernel
theorem dX0_hottestMember_31 : decode cX0_hottestMember 31 = .ok (.if_icmp .eq 12, 3) := by decide +kernel
theorem dX0_hottestMember_34 : decode cX0_hottestMember 34 = .ok (.aload_n 0, 1) := by decide +kernel
theorem dX0_hottestMember_35 : decode cX0_hottestMember 35 = .ok (.iload_n 2, 1) := by decide +kernel
theorem dX0_hottestMember_36 : decode cX0_hottestMember 36 = .ok (.iload_n 1, 1) := by decide +kernel
theorem dX0_hottestMember_37 : decode cX0_hottestMember 37 = .ok (.invokevirtual 37, 3) := by decide +kernel
theorem dX0_hottestMember_40 : decode cX0_hottestMember 40 = .ok (.ifCond .eq 5, 3) := by decide +kernel
theorem dX0_hottestMember_43 : decode cX0_hottestMember 43 = .ok (.iload_n 2, 1) := by decide +kernel
theorem dX0_hottestMember_44 : decode cX0_hottestMember 44 = .ok (.istore_n 1, 1) := by decide +kernel
theorem dX0_hottestMember_45 : decode cX0_hottestMember 45 = .ok (.iinc 2 1, 3) := by decide +kernel
theorem dX0_hottestMember_48 : decode cX0_hottestMember 48 = .ok (.goto (-44), 3) := by decide +kernel
theorem dX0_hottestMember_51 : decode cX0_hottestMember 51 = .ok (.iload_n 1, 1) := by decide +kernel
theorem dX0_hottestMember_52 : decode cX0_hottestMember 52 = .ok (.ireturn, 1) := by decide +kernel
set_option maxRecDepth 20000 in
theorem ggX0_coolestMember_X0_hasWater : GoodIn wsX0_coolestMember wsX0_hasWater := goodIn_ca (goodIn_r _ [7, 8, 14, 15, 16, 17, 18] (by decide +kernel) (by decide +kernel)) (goodIn_sub (fun _ h => List.mem_cons_of_mem _ (List.mem_append_right _ h)) (by decide +kernel))
set_option maxRecDepth 20000 in
theorem gX0_coolestMember_X0_hasWater : GoodIn wsX0_coolestMember (wsV RX0 33 RX0 yX0_hasWater wsX0_hasWater) := goodIn_app (goodIn_of _ (by decide +kernel)) ggX0_coolestMember_X0_hasWater
set_option maxRecDepth 20000 in
theorem ggX0_coolestMember_X0_isHotter : GoodIn wsX0_coolestMember wsX0_isHotter := goodIn_ca (goodIn_r _ [12, 13, 8, 14, 15, 16, 17, 18] (by decide +kernel) (by decide +kernel)) (goodIn_sub (fun _ h => List.mem_cons_of_mem _ (List.mem_append_right _ h)) (by decide +kernel))
set_option maxRecDepth 20000 in
theorem gX0_coolestMember_X0_isHotter : GoodIn wsX0_coolestMember (wsV RX0 37 RX0 yX0_isHotter wsX0_isHotter) := goodIn_app (goodIn_of _ (by decide +kernel)) ggX0_coolestMember_X0_isHotter
theorem dX0_coolestMember_0 : decode cX0_coolestMember 0 = .ok (.iconst (-1), 1) := by decide +kernel
theorem dX0_coolestMember_1 : decode cX0_coolestMember 1 = .ok (.istore_n 1, 1) := by decide +kernel
theorem dX0_coolestMember_2 : decode cX0_coolestMember 2 = .ok (.iconst 0, 1) := by decide +kernel
theorem dX0_coolestMember_3 : decode cX0_coolestMember 3 = .ok (.istore_n 2, 1) := by decide +kernel
theorem dX0_coolestMember_4 : decode cX0_coolestMember 4 = .ok (.iload_n 2, 1) := by decide +kernel
theorem dX0_coolestMember_5 : decode cX0_coolestMember 5 = .ok (.aload_n 0, 1) := by decide +kernel
theorem dX0_coolestMember_6 : decode cX0_coolestMember 6 = .ok (.getfield 9, 3) := by decide +kernel
theorem dX0_coolestMember_9 : decode cX0_coolestMember 9 = .ok (.if_icmp .ge 42, 3) := by decide +kernel
theorem dX0_coolestMember_12 : decode cX0_coolestMember 12 = .ok (.aload_n 0, 1) := by decide +kernel
theorem dX0_coolestMember_13 : decode cX0_coolestMember 13 = .ok (.getfield 26, 3) := by decide +kernel
theorem dX0_coolestMember_16 : decode cX0_coolestMember 16 = .ok (.iload_n 2, 1) := by decide +kernel
theorem dX0_coolestMember_17 : decode cX0_coolestMember 17 = .ok (.baload, 1) := by decide +kernel
theorem dX0_coolestMember_18 : decode cX0_coolestMember 18 = .ok (.ifCond .eq 27, 3) := by decide +kernel
theorem dX0_coolestMember_21 : decode cX0_coolestMember 21 = .ok (.aload_n 0, 1) := by decide +kernel
theorem dX0_coolestMember_22 : decode cX0_coolestMember 22 = .ok (.iload_n 2, 1) := by decide +kernel
theorem dX0_coolestMember_23 : decode cX0_coolestMember 23 = .ok (.invokevirtual 33, 3) := by decide +kernel
theorem dX0_coolestMember_26 : decode cX0_coolestMember 26 = .ok (.ifCond .eq 19, 3) := by decide +kernel
theorem dX0_coolestMember_29 : decode cX0_coolestMember 29 = .ok (.iload_n 1, 1) := by decide +kernel
theorem dX0_coolestMember_30 : decode cX0_coolestMember 30 = .ok (.iconst (-1), 1) := by decide +kernel
theorem dX0_coolestMember_31 : decode cX0_coolestMember 31 = .ok (.if_icmp .eq 12, 3) := by decide +kernel
theorem dX0_coolestMember_34 : decode cX0_coolestMember 34 = .ok (.aload_n 0, 1) := by decide +kernel
theorem dX0_coolestMember_35 : decode cX0_coolestMember 35 = .ok (.iload_n 1, 1) := by decide +kernel
theorem dX0_coolestMember_36 : decode cX0_coolestMember 36 = .ok (.iload_n 2, 1) := by decide +kernel
theorem dX0_coolestMember_37 : decode cX0_coolestMember 37 = .ok (.invokevirtual 37, 3) := by decide +kernel
theorem dX0_coolestMember_40 : decode cX0_coolestMember 40 = .ok (.ifCond .eq 5, 3) := by decide +kernel
theorem dX0_coolestMember_43 : decode cX0_coolestMember 43 = .ok (.iload_n 2, 1) := by decide +kernel
theorem dX0_coolestMember_44 : decode cX0_coolestMember 44 = .ok (.istore_n 1, 1) := by decide +kernel
theorem dX0_coolestMember_45 : decode cX0_coolestMember 45 = .ok (.iinc 2 1, 3) := by decide +kernel
theorem dX0_coolestMember_48 : decode cX0_coolestMember 48 = .ok (.goto (-44), 3) := by decide +kernel
theorem dX0_coolestMember_51 : decode cX0_coolestMember 51 = .ok (.iload_n 1, 1) := by decide +kernel
theorem dX0_coolestMember_52 : decode cX0_coolestMember 52 = .ok (.ireturn, 1) := by decide +kernel
set_option maxRecDepth 20000 in
theorem ggX0_unitsToShare_X0_has : GoodIn wsX0_unitsToShare wsX0_has := goodIn_r _ [11, 12, 13, 14, 15, 16, 17] (by decide +kernel) (by decide +kernel)
set_option maxRecDepth 20000 in
theorem gX0_unitsToShare_X0_has : GoodIn wsX0_unitsToShare (wsV RX0 41 RX0 yX0_has wsX0_has) := goodIn_app (goodIn_of _ (by decide +kernel)) ggX0_unitsToShare_X0_has
theorem dX0_unitsToShare_0 : decode cX0_unitsToShare 0 = .ok (.aload_n 0, 1) := by decide +kernel
theorem dX0_unitsToShare_1 : decode cX0_unitsToShare 1 = .ok (.iload_n 1, 1) := by decide +kernel
theorem dX0_unitsToShare_2 : decode cX0_unitsToShare 2 = .ok (.invokevirtual 41, 3) := by decide +kernel
theorem dX0_unitsToShare_5 : decode cX0_unitsToShare 5 = .ok (.ifCond .eq 11, 3) := by decide +kernel
theorem dX0_unitsToShare_8 : decode cX0_unitsToShare 8 = .ok (.aload_n 0, 1) := by decide +kernel
theorem dX0_unitsToShare_9 : decode cX0_unitsToShare 9 = .ok (.iload_n 2, 1) := by decide +kernel
theorem dX0_unitsToShare_10 : decode cX0_unitsToShare 10 = .ok (.invokevirtual 41, 3) := by decide +kernel
theorem dX0_unitsToShare_13 : decode cX0_unitsToShare 13 = .ok (.ifCond .ne 5, 3) := by decide +kernel
theorem dX0_unitsToShare_16 : decode cX0_unitsToShare 16 = .ok (.iconst 0, 1) := by decide +kernel
theorem dX0_unitsToShare_17 : decode cX0_unitsToShare 17 = .ok (.ireturn, 1) := by decide +kernel
theorem dX0_unitsToShare_18 : decode cX0_unitsToShare 18 = .ok (.aload_n 0, 1) := by decide +kernel
theorem dX0_unitsToShare_19 : decode cX0_unitsToShare 19 = .ok (.getfield 15, 3) := by decide +kernel
theorem dX0_unitsToShare_22 : decode cX0_unitsToShare 22 = .ok (.iload_n 1, 1) := by decide +kernel
theorem dX0_unitsToShare_23 : decode cX0_unitsToShare 23 = .ok (.iaload, 1) := by decide +kernel
theorem dX0_unitsToShare_24 : decode cX0_unitsToShare 24 = .ok (.aload_n 0, 1) := by decide +kernel
theorem dX0_unitsToShare_25 : decode cX0_unitsToShare 25 = .ok (.getfield 15, 3) := by decide +kernel
theorem dX0_unitsToShare_28 : decode cX0_unitsToShare 28 = .ok (.iload_n 2, 1) := by decide +kernel
theorem dX0_unitsToShare_29 : decode cX0_unitsToShare 29 = .ok (.iaload, 1) := by decide +kernel
theorem dX0_unitsToShare_30 : decode cX0_unitsToShare 30 = .ok (.iadd, 1) := by decide +kernel
theorem dX0_unitsToShare_31 : decode cX0_unitsToShare 31 = .ok (.istore_n 3, 1) := by decide +kernel
theorem dX0_unitsToShare_32 : decode cX0_unitsToShare 32 = .ok (.iload_n 3, 1) := by decide +kernel
theorem dX0_unitsToShare_33 : decode cX0_unitsToShare 33 = .ok (.ifCond .ne 5, 3) := by decide +kernel
theorem dX0_unitsToShare_36 : decode cX0_unitsToShare 36 = .ok (.iconst 0, 1) := by decide +kernel
theorem dX0_unitsToShare_37 : decode cX0_unitsToShare 37 = .ok (.ireturn, 1) := by decide +kernel
theorem dX0_unitsToShare_38 : decode cX0_unitsToShare 38 = .ok (.aload_n 0, 1) := by decide +kernel
theorem dX0_unitsToShare_39 : decode cX0_unitsToShare 39 = .ok (.getfield 19, 3) := by decide +kernel
theorem dX0_unitsToShare_42 : decode cX0_unitsToShare 42 = .ok (.iload_n 1, 1) := by decide +kernel
theorem dX0_unitsToShare_43 : decode cX0_unitsToShare 43 = .ok (.iaload, 1) := by decide +kernel
theorem dX0_unitsToShare_44 : decode cX0_unitsToShare 44 = .ok (.aload_n 0, 1) := by decide +kernel
theorem dX0_unitsToShare_45 : decode cX0_unitsToShare 45 = .ok (.getfield 15, 3) := by decide +kernel
theorem dX0_unitsToShare_48 : decode cX0_unitsToShare 48 = .ok (.iload_n 2, 1) := by decide +kernel
theorem dX0_unitsToShare_49 : decode cX0_unitsToShare 49 = .ok (.iaload, 1) := by decide +kernel
theorem dX0_unitsToShare_50 : decode cX0_unitsToShare 50 = .ok (.imul, 1) := by decide +kernel
theorem dX0_unitsToShare_51 : decode cX0_unitsToShare 51 = .ok (.aload_n 0, 1) := by decide +kernel
theorem dX0_unitsToShare_52 : decode cX0_unitsToShare 52 = .ok (.getfield 19, 3) := by decide +kernel
theorem dX0_unitsToShare_55 : decode cX0_unitsToShare 55 = .ok (.iload_n 2, 1) := by decide +kernel
theorem dX0_unitsToShare_56 : decode cX0_unitsToShare 56 = .ok (.iaload, 1) := by decide +kernel
theorem dX0_unitsToShare_57 : decode cX0_unitsToShare 57 = .ok (.aload_n 0, 1) := by decide +kernel
theorem dX0_unitsToShare_58 : decode cX0_unitsToShare 58 = .ok (.getfield 15, 3) := by decide +kernel
theorem dX0_unitsToShare_61 : decode cX0_unitsToShare 61 = .ok (.iload_n 1, 1) := by decide +kernel
theorem dX0_unitsToShare_62 : decode cX0_unitsToShare 62 = .ok (.iaload, 1) := by decide +kernel
theorem dX0_unitsToShare_63 : decode cX0_unitsToShare 63 = .ok (.imul, 1) := by decide +kernel
theorem dX0_unitsToShare_64 : decode cX0_unitsToShare 64 = .ok (.isub, 1) := by decide +kernel
theorem dX0_unitsToShare_65 : decode cX0_unitsToShare 65 = .ok (.iload_n 3, 1) := by decide +kernel
theorem dX0_unitsToShare_66 : decode cX0_unitsToShare 66 = .ok (.idiv, 1) := by decide +kernel
theorem dX0_unitsToShare_67 : decode cX0_unitsToShare 67 = .ok (.istore 4, 2) := by decide +kernel
theorem dX0_unitsToShare_69 : decode cX0_unitsToShare 69 = .ok (.bipush 20, 2) := by decide +kernel
theorem dX0_unitsToShare_71 : decode cX0_unitsToShare 71 = .ok (.iload 4, 2) := by decide +kernel
theorem dX0_unitsToShare_73 : decode cX0_unitsToShare 73 = .ok (.invokestatic 44, 3) := by decide +kernel
theorem dX0_unitsToShare_76 : decode cX0_unitsToShare 76 = .ok (.ireturn, 1) := by decide +kernel
set_option maxRecDepth 20000 in
theorem ggX0_shareHeat_X0_membersWithWater : GoodIn wsX0_shareHeat wsX0_membersWithWater := goodIn_ca (goodIn_r _ [6, 7, 8, 9, 10, 11, 5, 12, 13, 38, 39, 40, 41, 42] (by decide +kernel) (by decide +kernel)) (goodIn_sub (fun _ h => List.mem_cons_of_mem _ (List.mem_append_left _ (List.mem_append_right _ h))) (by decide +kernel))
set_option maxRecDepth 20000 in
theorem gX0_shareHeat_X0_membersWithWater : GoodIn wsX0_shareHeat (wsV RX0 49 RX0 yX0_membersWithWater wsX0_membersWithWater) := goodIn_app (goodIn_of _ (by decide +kernel)) ggX0_shareHeat_X0_membersWithWater
set_option maxRecDepth 20000 in
theorem ggX0_shareHeat_X0_hottestMember : GoodIn wsX0_shareHeat wsX0_hottestMember := goodIn_ca (goodIn_r _ [17, 7, 8, 9, 10, 11, 5, 12, 13, 18, 19, 20, 21, 1, 38, 39, 40, 41, 42] (by decide +kernel) (by decide +kernel)) (goodIn_sub (fun _ h => List.mem_cons_of_mem _ (List.mem_append_left _ (List.mem_append_right _ h))) (by decide +kernel))
set_option maxRecDepth 20000 in
theorem gX0_shareHeat_X0_hottestMember : GoodIn wsX0_shareHeat (wsV RX0 53 RX0 yX0_hottestMember wsX0_hottestMember) := goodIn_app (goodIn_of _ (by decide +kernel)) ggX0_shareHeat_X0_hottestMember
set_option maxRecDepth 20000 in
theorem ggX0_shareHeat_X0_coolestMember : GoodIn wsX0_shareHeat wsX0_coolestMember := goodIn_ca (goodIn_r _ [25, 7, 8, 9, 10, 11, 5, 12, 13, 18, 19, 20, 21, 1, 38, 39, 40, 41, 42] (by decide +kernel) (by decide +kernel)) (goodIn_sub (fun _ h => List.mem_cons_of_mem _ (List.mem_append_left _ (List.mem_append_right _ h))) (by decide +kernel))
set_option maxRecDepth 20000 in
theorem gX0_shareHeat_X0_coolestMember : GoodIn wsX0_shareHeat (wsV RX0 56 RX0 yX0_coolestMember wsX0_coolestMember) := goodIn_app (goodIn_of _ (by decide +kernel)) ggX0_shareHeat_X0_coolestMember
set_option maxRecDepth 20000 in
theorem ggX0_shareHeat_X0_unitsToShare : GoodIn wsX0_shareHeat wsX0_unitsToShare := goodIn_ca (goodIn_ca (goodIn_r _ [29, 13, 1, 30, 31, 32, 33, 34, 35, 36, 5, 37, 7, 38, 39, 40, 41, 42] (by decide +kernel) (by decide +kernel)) (goodIn_sub (fun _ h => List.mem_cons_of_mem _ (List.mem_append_left _ (List.mem_append_right _ h))) (by decide +kernel))) (goodIn_sub (fun _ h => List.mem_cons_of_mem _ (List.mem_append_right _ h)) (by decide +kernel))
set_option maxRecDepth 20000 in
theorem gX0_shareHeat_X0_unitsToShare : GoodIn wsX0_shareHeat (wsV RX0 59 RX0 yX0_unitsToShare wsX0_unitsToShare) := goodIn_app (goodIn_of _ (by decide +kernel)) ggX0_shareHeat_X0_unitsToShare
theorem dX0_shareHeat_0 : decode cX0_shareHeat 0 = .ok (.aload_n 0, 1) := by decide +kernel
theorem dX0_shareHeat_1 : decode cX0_shareHeat 1 = .ok (.invokevirtual 49, 3) := by decide +kernel
theorem dX0_shareHeat_4 : decode cX0_shareHeat 4 = .ok (.iconst 2, 1) := by decide +kernel
theorem dX0_shareHeat_5 : decode cX0_shareHeat 5 = .ok (.if_icmp .ge 4, 3) := by decide +kernel
theorem dX0_shareHeat_8 : decode cX0_shareHeat 8 = .ok (.return_, 1) := by decide +kernel
theorem dX0_shareHeat_9 : decode cX0_shareHeat 9 = .ok (.aload_n 0, 1) := by decide +kernel
theorem dX0_shareHeat_10 : decode cX0_shareHeat 10 = .ok (.invokevirtual 53, 3) := by decide +kernel
theorem dX0_shareHeat_13 : decode cX0_shareHeat 13 = .ok (.istore_n 1, 1) := by decide +kernel
theorem dX0_shareHeat_14 : decode cX0_shareHeat 14 = .ok (.aload_n 0, 1) := by decide +kernel
theorem dX0_shareHeat_15 : decode cX0_shareHeat 15 = .ok (.invokevirtual 56, 3) := by decide +kernel
theorem dX0_shareHeat_18 : decode cX0_shareHeat 18 = .ok (.istore_n 2, 1) := by decide +kernel
theorem dX0_shareHeat_19 : decode cX0_shareHeat 19 = .ok (.aload_n 0, 1) := by decide +kernel
theorem dX0_shareHeat_20 : decode cX0_shareHeat 20 = .ok (.iload_n 1, 1) := by decide +kernel
theorem dX0_shareHeat_21 : decode cX0_shareHeat 21 = .ok (.iload_n 2, 1) := by decide +kernel
theorem dX0_shareHeat_22 : decode cX0_shareHeat 22 = .ok (.invokevirtual 59, 3) := by decide +kernel
theorem dX0_shareHeat_25 : decode cX0_shareHeat 25 = .ok (.istore_n 3, 1) := by decide +kernel
theorem dX0_shareHeat_26 : decode cX0_shareHeat 26 = .ok (.aload_n 0, 1) := by decide +kernel
theorem dX0_shareHeat_27 : decode cX0_shareHeat 27 = .ok (.getfield 19, 3) := by decide +kernel
theorem dX0_shareHeat_30 : decode cX0_shareHeat 30 = .ok (.iload_n 1, 1) := by decide +kernel
theorem dX0_shareHeat_31 : decode cX0_shareHeat 31 = .ok (.dup2, 1) := by decide +kernel
theorem dX0_shareHeat_32 : decode cX0_shareHeat 32 = .ok (.iaload, 1) := by decide +kernel
theorem dX0_shareHeat_33 : decode cX0_shareHeat 33 = .ok (.iload_n 3, 1) := by decide +kernel
theorem dX0_shareHeat_34 : decode cX0_shareHeat 34 = .ok (.isub, 1) := by decide +kernel
theorem dX0_shareHeat_35 : decode cX0_shareHeat 35 = .ok (.iastore, 1) := by decide +kernel
theorem dX0_shareHeat_36 : decode cX0_shareHeat 36 = .ok (.aload_n 0, 1) := by decide +kernel
theorem dX0_shareHeat_37 : decode cX0_shareHeat 37 = .ok (.getfield 19, 3) := by decide +kernel
theorem dX0_shareHeat_40 : decode cX0_shareHeat 40 = .ok (.iload_n 2, 1) := by decide +kernel
theorem dX0_shareHeat_41 : decode cX0_shareHeat 41 = .ok (.dup2, 1) := by decide +kernel
theorem dX0_shareHeat_42 : decode cX0_shareHeat 42 = .ok (.iaload, 1) := by decide +kernel
theorem dX0_shareHeat_43 : decode cX0_shareHeat 43 = .ok (.iload_n 3, 1) := by decide +kernel
theorem dX0_shareHeat_44 : decode cX0_shareHeat 44 = .ok (.iadd, 1) := by decide +kernel
theorem dX0_shareHeat_45 : decode cX0_shareHeat 45 = .ok (.iastore, 1) := by decide +kernel
theorem dX0_shareHeat_46 : decode cX0_shareHeat 46 = .ok (.return_, 1) := by decide +kernel
set_option maxRecDepth 20000 in
theorem ggX0_atRank_X0_rankOf : GoodIn wsX0_atRank wsX0_rankOf := goodIn_ca (goodIn_r _ [6, 1, 7, 8, 9, 5, 10, 11, 12, 13, 14, 15, 16, 17, 18, 19, 20, 21, 22, 23, 24, 25] (by decide +kernel) (by decide +kernel)) (goodIn_sub (fun _ h => List.mem_cons_of_mem _ (List.mem_append_right _ h)) (by decide +kernel))
set_option maxRecDepth 20000 in
theorem gX0_atRank_X0_rankOf : GoodIn wsX0_atRank (wsV RX0 62 RX0 yX0_rankOf wsX0_rankOf) := goodIn_app (goodIn_of _ (by decide +kernel)) ggX0_atRank_X0_rankOf
theorem dX0_atRank_0 : decode cX0_atRank 0 = .ok (.iconst 0, 1) := by decide +kernel
theorem dX0_atRank_1 : decode cX0_atRank 1 = .ok (.istore_n 2, 1) := by decide +kernel
theorem dX0_atRank_2 : decode cX0_atRank 2 = .ok (.iload_n 2, 1) := by decide +kernel
theorem dX0_atRank_3 : decode cX0_atRank 3 = .ok (.aload_n 0, 1) := by decide +kernel
theorem dX0_atRank_4 : decode cX0_atRank 4 = .ok (.getfield 9, 3) := by decide +kernel
theorem dX0_atRank_7 : decode cX0_atRank 7 = .ok (.if_icmp .ge 20, 3) := by decide +kernel
theorem dX0_atRank_10 : decode cX0_atRank 10 = .ok (.aload_n 0, 1) := by decide +kernel
theorem dX0_atRank_11 : decode cX0_atRank 11 = .ok (.iload_n 2, 1) := by decide +kernel
theorem dX0_atRank_12 : decode cX0_atRank 12 = .ok (.invokevirtual 62, 3) := by decide +kernel
theorem dX0_atRank_15 : decode cX0_atRank 15 = .ok (.iload_n 1, 1) := by decide +kernel
theorem dX0_atRank_16 : decode cX0_atRank 16 = .ok (.if_icmp .ne 5, 3) := by decide +kernel
theorem dX0_atRank_19 : decode cX0_atRank 19 = .ok (.iload_n 2, 1) := by decide +kernel
theorem dX0_atRank_20 : decode cX0_atRank 20 = .ok (.ireturn, 1) := by decide +kernel
theorem dX0_atRank_21 : decode cX0_atRank 21 = .ok (.iinc 2 1, 3) := by decide +kernel
theorem dX0_atRank_24 : decode cX0_atRank 24 = .ok (.goto (-22), 3) := by decide +kernel
theorem dX0_atRank_27 : decode cX0_atRank 27 = .ok (.iconst (-1), 1) := by decide +kernel
theorem dX0_atRank_28 : decode cX0_atRank 28 = .ok (.ireturn, 1) := by decide +kernel
set_option maxRecDepth 20000 in
theorem ggX0_rankOf_X0_ranksBefore : GoodIn wsX0_rankOf wsX0_ranksBefore := goodIn_ca (goodIn_r _ [6, 7, 8, 9, 5, 10, 11, 12, 13, 14, 15, 16, 17, 18, 19, 20, 21] (by decide +kernel) (by decide +kernel)) (goodIn_sub (fun _ h => List.mem_cons_of_mem _ (List.mem_append_right _ h)) (by decide +kernel))
set_option maxRecDepth 20000 in
theorem gX0_rankOf_X0_ranksBefore : GoodIn wsX0_rankOf (wsV RX0 66 RX0 yX0_ranksBefore wsX0_ranksBefore) := goodIn_app (goodIn_of _ (by decide +kernel)) ggX0_rankOf_X0_ranksBefore
theorem dX0_rankOf_0 : decode cX0_rankOf 0 = .ok (.iconst 0, 1) := by decide +kernel
theorem dX0_rankOf_1 : decode cX0_rankOf 1 = .ok (.istore_n 2, 1) := by decide +kernel
theorem dX0_rankOf_2 : decode cX0_rankOf 2 = .ok (.iconst 0, 1) := by decide +kernel
theorem dX0_rankOf_3 : decode cX0_rankOf 3 = .ok (.istore_n 3, 1) := by decide +kernel
theorem dX0_rankOf_4 : decode cX0_rankOf 4 = .ok (.iload_n 3, 1) := by decide +kernel
theorem dX0_rankOf_5 : decode cX0_rankOf 5 = .ok (.aload_n 0, 1) := by decide +kernel
theorem dX0_rankOf_6 : decode cX0_rankOf 6 = .ok (.getfield 9, 3) := by decide +kernel
theorem dX0_rankOf_9 : decode cX0_rankOf 9 = .ok (.if_icmp .ge 21, 3) := by decide +kernel
theorem dX0_rankOf_12 : decode cX0_rankOf 12 = .ok (.aload_n 0, 1) := by decide +kernel
theorem dX0_rankOf_13 : decode cX0_rankOf 13 = .ok (.iload_n 3, 1) := by decide +kernel
theorem dX0_rankOf_14 : decode cX0_rankOf 14 = .ok (.iload_n 1, 1) := by decide +kernel
theorem dX0_rankOf_15 : decode cX0_rankOf 15 = .ok (.invokevirtual 66, 3) := by decide +kernel
theorem dX0_rankOf_18 : decode cX0_rankOf 18 = .ok (.ifCond .eq 6, 3) := by decide +kernel
theorem dX0_rankOf_21 : decode cX0_rankOf 21 = .ok (.iinc 2 1, 3) := by decide +kernel
theorem dX0_rankOf_24 : decode cX0_rankOf 24 = .ok (.iinc 3 1, 3) := by decide +kernel
theorem dX0_rankOf_27 : decode cX0_rankOf 27 = .ok (.goto (-23), 3) := by decide +kernel
theorem dX0_rankOf_30 : decode cX0_rankOf 30 = .ok (.iload_n 2, 1) := by decide +kernel
theorem dX0_rankOf_31 : decode cX0_rankOf 31 = .ok (.ireturn, 1) := by decide +kernel
set_option maxRecDepth 20000 in
theorem ggX0_ranksBefore_X0_hasWater : GoodIn wsX0_ranksBefore wsX0_hasWater := goodIn_ca (goodIn_r _ [5, 6, 12, 13, 14, 15, 16] (by decide +kernel) (by decide +kernel)) (goodIn_sub (fun _ h => List.mem_cons_of_mem _ (List.mem_append_right _ h)) (by decide +kernel))
set_option maxRecDepth 20000 in
theorem gX0_ranksBefore_X0_hasWater : GoodIn wsX0_ranksBefore (wsV RX0 33 RX0 yX0_hasWater wsX0_hasWater) := goodIn_app (goodIn_of _ (by decide +kernel)) ggX0_ranksBefore_X0_hasWater
set_option maxRecDepth 20000 in
theorem ggX0_ranksBefore_X0_isHotter : GoodIn wsX0_ranksBefore wsX0_isHotter := goodIn_ca (goodIn_r _ [10, 11, 6, 12, 13, 14, 15, 16] (by decide +kernel) (by decide +kernel)) (goodIn_sub (fun _ h => List.mem_cons_of_mem _ (List.mem_append_right _ h)) (by decide +kernel))
set_option maxRecDepth 20000 in
theorem gX0_ranksBefore_X0_isHotter : GoodIn wsX0_ranksBefore (wsV RX0 37 RX0 yX0_isHotter wsX0_isHotter) := goodIn_app (goodIn_of _ (by decide +kernel)) ggX0_ranksBefore_X0_isHotter
theorem dX0_ranksBefore_0 : decode cX0_ranksBefore 0 = .ok (.aload_n 0, 1) := by decide +kernel
theorem dX0_ranksBefore_1 : decode cX0_ranksBefore 1 = .ok (.iload_n 1, 1) := by decide +kernel
theorem dX0_ranksBefore_2 : decode cX0_ranksBefore 2 = .ok (.invokevirtual 33, 3) := by decide +kernel
theorem dX0_ranksBefore_5 : decode cX0_ranksBefore 5 = .ok (.ifCond .eq 11, 3) := by decide +kernel
theorem dX0_ranksBefore_8 : decode cX0_ranksBefore 8 = .ok (.aload_n 0, 1) := by decide +kernel
theorem dX0_ranksBefore_9 : decode cX0_ranksBefore 9 = .ok (.iload_n 2, 1) := by decide +kernel
theorem dX0_ranksBefore_10 : decode cX0_ranksBefore 10 = .ok (.invokevirtual 33, 3) := by decide +kernel
theorem dX0_ranksBefore_13 : decode cX0_ranksBefore 13 = .ok (.ifCond .ne 35, 3) := by decide +kernel
theorem dX0_ranksBefore_16 : decode cX0_ranksBefore 16 = .ok (.aload_n 0, 1) := by decide +kernel
theorem dX0_ranksBefore_17 : decode cX0_ranksBefore 17 = .ok (.iload_n 1, 1) := by decide +kernel
theorem dX0_ranksBefore_18 : decode cX0_ranksBefore 18 = .ok (.invokevirtual 33, 3) := by decide +kernel
theorem dX0_ranksBefore_21 : decode cX0_ranksBefore 21 = .ok (.aload_n 0, 1) := by decide +kernel
theorem dX0_ranksBefore_22 : decode cX0_ranksBefore 22 = .ok (.iload_n 2, 1) := by decide +kernel
theorem dX0_ranksBefore_23 : decode cX0_ranksBefore 23 = .ok (.invokevirtual 33, 3) := by decide +kernel
theorem dX0_ranksBefore_26 : decode cX0_ranksBefore 26 = .ok (.if_icmp .ne 16, 3) := by decide +kernel
theorem dX0_ranksBefore_29 : decode cX0_ranksBefore 29 = .ok (.iload_n 1, 1) := by decide +kernel
theorem dX0_ranksBefore_30 : decode cX0_ranksBefore 30 = .ok (.iload_n 2, 1) := by decide +kernel
theorem dX0_ranksBefore_31 : decode cX0_ranksBefore 31 = .ok (.if_icmp .ge 7, 3) := by decide +kernel
theorem dX0_ranksBefore_34 : decode cX0_ranksBefore 34 = .ok (.iconst 1, 1) := by decide +kernel
theorem dX0_ranksBefore_35 : decode cX0_ranksBefore 35 = .ok (.goto 12, 3) := by decide +kernel
theorem dX0_ranksBefore_38 : decode cX0_ranksBefore 38 = .ok (.iconst 0, 1) := by decide +kernel
theorem dX0_ranksBefore_39 : decode cX0_ranksBefore 39 = .ok (.goto 8, 3) := by decide +kernel
theorem dX0_ranksBefore_42 : decode cX0_ranksBefore 42 = .ok (.aload_n 0, 1) := by decide +kernel
theorem dX0_ranksBefore_43 : decode cX0_ranksBefore 43 = .ok (.iload_n 1, 1) := by decide +kernel
theorem dX0_ranksBefore_44 : decode cX0_ranksBefore 44 = .ok (.invokevirtual 33, 3) := by decide +kernel
theorem dX0_ranksBefore_47 : decode cX0_ranksBefore 47 = .ok (.ireturn, 1) := by decide +kernel
theorem dX0_ranksBefore_48 : decode cX0_ranksBefore 48 = .ok (.aload_n 0, 1) := by decide +kernel
theorem dX0_ranksBefore_49 : decode cX0_ranksBefore 49 = .ok (.iload_n 1, 1) := by decide +kernel
theorem dX0_ranksBefore_50 : decode cX0_ranksBefore 50 = .ok (.iload_n 2, 1) := by decide +kernel
theorem dX0_ranksBefore_51 : decode cX0_ranksBefore 51 = .ok (.invokevirtual 37, 3) := by decide +kernel
theorem dX0_ranksBefore_54 : decode cX0_ranksBefore 54 = .ok (.ifCond .ne 17, 3) := by decide +kernel
theorem dX0_ranksBefore_57 : decode cX0_ranksBefore 57 = .ok (.iload_n 1, 1) := by decide +kernel
theorem dX0_ranksBefore_58 : decode cX0_ranksBefore 58 = .ok (.iload_n 2, 1) := by decide +kernel
theorem dX0_ranksBefore_59 : decode cX0_ranksBefore 59 = .ok (.if_icmp .ge 16, 3) := by decide +kernel
theorem dX0_ranksBefore_62 : decode cX0_ranksBefore 62 = .ok (.aload_n 0, 1) := by decide +kernel
theorem dX0_ranksBefore_63 : decode cX0_ranksBefore 63 = .ok (.iload_n 2, 1) := by decide +kernel
theorem dX0_ranksBefore_64 : decode cX0_ranksBefore 64 = .ok (.iload_n 1, 1) := by decide +kernel
theorem dX0_ranksBefore_65 : decode cX0_ranksBefore 65 = .ok (.invokevirtual 37, 3) := by decide +kernel
theorem dX0_ranksBefore_68 : decode cX0_ranksBefore 68 = .ok (.ifCond .ne 7, 3) := by decide +kernel
theorem dX0_ranksBefore_71 : decode cX0_ranksBefore 71 = .ok (.iconst 1, 1) := by decide +kernel
theorem dX0_ranksBefore_72 : decode cX0_ranksBefore 72 = .ok (.goto 4, 3) := by decide +kernel
theorem dX0_ranksBefore_75 : decode cX0_ranksBefore 75 = .ok (.iconst 0, 1) := by decide +kernel
theorem dX0_ranksBefore_76 : decode cX0_ranksBefore 76 = .ok (.ireturn, 1) := by decide +kernel
theorem dX1_init_0 : decode cX1_init 0 = .ok (.aload_n 0, 1) := by decide +kernel
theorem dX1_init_1 : decode cX1_init 1 = .ok (.invokespecial 3, 3) := by decide +kernel
theorem dX1_init_4 : decode cX1_init 4 = .ok (.aload_n 0, 1) := by decide +kernel
theorem dX1_init_5 : decode cX1_init 5 = .ok (.iconst 0, 1) := by decide +kernel
theorem dX1_init_6 : decode cX1_init 6 = .ok (.putfield 9, 3) := by decide +kernel
theorem dX1_init_9 : decode cX1_init 9 = .ok (.aload_n 0, 1) := by decide +kernel
theorem dX1_init_10 : decode cX1_init 10 = .ok (.bipush 6, 2) := by decide +kernel
theorem dX1_init_12 : decode cX1_init 12 = .ok (.newarray .int, 2) := by decide +kernel
theorem dX1_init_14 : decode cX1_init 14 = .ok (.putfield 15, 3) := by decide +kernel
theorem dX1_init_17 : decode cX1_init 17 = .ok (.aload_n 0, 1) := by decide +kernel
theorem dX1_init_18 : decode cX1_init 18 = .ok (.bipush 6, 2) := by decide +kernel
theorem dX1_init_20 : decode cX1_init 20 = .ok (.newarray .int, 2) := by decide +kernel
theorem dX1_init_22 : decode cX1_init 22 = .ok (.putfield 19, 3) := by decide +kernel
theorem dX1_init_25 : decode cX1_init 25 = .ok (.aload_n 0, 1) := by decide +kernel
theorem dX1_init_26 : decode cX1_init 26 = .ok (.bipush 6, 2) := by decide +kernel
theorem dX1_init_28 : decode cX1_init 28 = .ok (.newarray .int, 2) := by decide +kernel
theorem dX1_init_30 : decode cX1_init 30 = .ok (.putfield 22, 3) := by decide +kernel
theorem dX1_init_33 : decode cX1_init 33 = .ok (.aload_n 0, 1) := by decide +kernel
theorem dX1_init_34 : decode cX1_init 34 = .ok (.bipush 6, 2) := by decide +kernel
theorem dX1_init_36 : decode cX1_init 36 = .ok (.newarray .int, 2) := by decide +kernel
theorem dX1_init_38 : decode cX1_init 38 = .ok (.putfield 25, 3) := by decide +kernel
theorem dX1_init_41 : decode cX1_init 41 = .ok (.aload_n 0, 1) := by decide +kernel
theorem dX1_init_42 : decode cX1_init 42 = .ok (.bipush 6, 2) := by decide +kernel
theorem dX1_init_44 : decode cX1_init 44 = .ok (.newarray .boolean, 2) := by decide +kernel
theorem dX1_init_46 : decode cX1_init 46 = .ok (.putfield 28, 3) := by decide +kernel
theorem dX1_init_49 : decode cX1_init 49 = .ok (.return_, 1) := by decide +kernel
theorem dX1_copyFrom_0 : decode cX1_copyFrom 0 = .ok (.aload_n 0, 1) := by decide +kernel
theorem dX1_copyFrom_1 : decode cX1_copyFrom 1 = .ok (.aload_n 1, 1) := by decide +kernel
theorem dX1_copyFrom_2 : decode cX1_copyFrom 2 = .ok (.getfield 9, 3) := by decide +kernel
theorem dX1_copyFrom_5 : decode cX1_copyFrom 5 = .ok (.putfield 9, 3) := by decide +kernel
theorem dX1_copyFrom_8 : decode cX1_copyFrom 8 = .ok (.iconst 0, 1) := by decide +kernel
theorem dX1_copyFrom_9 : decode cX1_copyFrom 9 = .ok (.istore_n 2, 1) := by decide +kernel
theorem dX1_copyFrom_10 : decode cX1_copyFrom 10 = .ok (.iload_n 2, 1) := by decide +kernel
theorem dX1_copyFrom_11 : decode cX1_copyFrom 11 = .ok (.bipush 6, 2) := by decide +kernel
theorem dX1_copyFrom_13 : decode cX1_copyFrom 13 = .ok (.if_icmp .ge 69, 3) := by decide +kernel
theorem dX1_copyFrom_16 : decode cX1_copyFrom 16 = .ok (.aload_n 0, 1) := by decide +kernel
theorem dX1_copyFrom_17 : decode cX1_copyFrom 17 = .ok (.getfield 15, 3) := by decide +kernel
theorem dX1_copyFrom_20 : decode cX1_copyFrom 20 = .ok (.iload_n 2, 1) := by decide +kernel
theorem dX1_copyFrom_21 : decode cX1_copyFrom 21 = .ok (.aload_n 1, 1) := by decide +kernel
theorem dX1_copyFrom_22 : decode cX1_copyFrom 22 = .ok (.getfield 15, 3) := by decide +kernel
theorem dX1_copyFrom_25 : decode cX1_copyFrom 25 = .ok (.iload_n 2, 1) := by decide +kernel
theorem dX1_copyFrom_26 : decode cX1_copyFrom 26 = .ok (.iaload, 1) := by decide +kernel
theorem dX1_copyFrom_27 : decode cX1_copyFrom 27 = .ok (.iastore, 1) := by decide +kernel
theorem dX1_copyFrom_28 : decode cX1_copyFrom 28 = .ok (.aload_n 0, 1) := by decide +kernel
theorem dX1_copyFrom_29 : decode cX1_copyFrom 29 = .ok (.getfield 19, 3) := by decide +kernel
theorem dX1_copyFrom_32 : decode cX1_copyFrom 32 = .ok (.iload_n 2, 1) := by decide +kernel
theorem dX1_copyFrom_33 : decode cX1_copyFrom 33 = .ok (.aload_n 1, 1) := by decide +kernel
theorem dX1_copyFrom_34 : decode cX1_copyFrom 34 = .ok (.getfield 19, 3) := by decide +kernel
theorem dX1_copyFrom_37 : decode cX1_copyFrom 37 = .ok (.iload_n 2, 1) := by decide +kernel
theorem dX1_copyFrom_38 : decode cX1_copyFrom 38 = .ok (.iaload, 1) := by decide +kernel
theorem dX1_copyFrom_39 : decode cX1_copyFrom 39 = .ok (.iastore, 1) := by decide +kernel
theorem dX1_copyFrom_40 : decode cX1_copyFrom 40 = .ok (.aload_n 0, 1) := by decide +kernel
theorem dX1_copyFrom_41 : decode cX1_copyFrom 41 = .ok (.getfield 22, 3) := by decide +kernel
theorem dX1_copyFrom_44 : decode cX1_copyFrom 44 = .ok (.iload_n 2, 1) := by decide +kernel
theorem dX1_copyFrom_45 : decode cX1_copyFrom 45 = .ok (.aload_n 1, 1) := by decide +kernel
theorem dX1_copyFrom_46 : decode cX1_copyFrom 46 = .ok (.getfield 22, 3) := by decide +kernel
theorem dX1_copyFrom_49 : decode cX1_copyFrom 49 = .ok (.iload_n 2, 1) := by decide +kernel
theorem dX1_copyFrom_50 : decode cX1_copyFrom 50 = .ok (.iaload, 1) := by decide +kernel
theorem dX1_copyFrom_51 : decode cX1_copyFrom 51 = .ok (.iastore, 1) := by decide +kernel
theorem dX1_copyFrom_52 : decode cX1_copyFrom 52 = .ok (.aload_n 0, 1) := by decide +kernel
theorem dX1_copyFrom_53 : decode cX1_copyFrom 53 = .ok (.getfield 25, 3) := by decide +kernel
theorem dX1_copyFrom_56 : decode cX1_copyFrom 56 = .ok (.iload_n 2, 1) := by decide +kernel
theorem dX1_copyFrom_57 : decode cX1_copyFrom 57 = .ok (.aload_n 1, 1) := by decide +kernel
theorem dX1_copyFrom_58 : decode cX1_copyFrom 58 = .ok (.getfield 25, 3) := by decide +kernel
theorem dX1_copyFrom_61 : decode cX1_copyFrom 61 = .ok (.iload_n 2, 1) := by decide +kernel
theorem dX1_copyFrom_62 : decode cX1_copyFrom 62 = .ok (.iaload, 1) := by decide +kernel
theorem dX1_copyFrom_63 : decode cX1_copyFrom 63 = .ok (.iastore, 1) := by decide +kernel
theorem dX1_copyFrom_64 : decode cX1_copyFrom 64 = .ok (.aload_n 0, 1) := by decide +kernel
theorem dX1_copyFrom_65 : decode cX1_copyFrom 65 = .ok (.getfield 28, 3) := by decide +kernel
theorem dX1_copyFrom_68 : decode cX1_copyFrom 68 = .ok (.iload_n 2, 1) := by decide +kernel
theorem dX1_copyFrom_69 : decode cX1_copyFrom 69 = .ok (.aload_n 1, 1) := by decide +kernel
theorem dX1_copyFrom_70 : decode cX1_copyFrom 70 = .ok (.getfield 28, 3) := by decide +kernel
theorem dX1_copyFrom_73 : decode cX1_copyFrom 73 = .ok (.iload_n 2, 1) := by decide +kernel
theorem dX1_copyFrom_74 : decode cX1_copyFrom 74 = .ok (.baload, 1) := by decide +kernel
theorem dX1_copyFrom_75 : decode cX1_copyFrom 75 = .ok (.bastore, 1) := by decide +kernel
theorem dX1_copyFrom_76 : decode cX1_copyFrom 76 = .ok (.iinc 2 1, 3) := by decide +kernel
theorem dX1_copyFrom_79 : decode cX1_copyFrom 79 = .ok (.goto (-69), 3) := by decide +kernel
theorem dX1_copyFrom_82 : decode cX1_copyFrom 82 = .ok (.return_, 1) := by decide +kernel
set_option maxRecDepth 20000 in
theorem ggX1_isPleased_X7_roundedDegrees : GoodIn wsX1_isPleased wsX7_roundedDegrees := goodIn_ca (goodIn_r _ [8] (by decide +kernel) (by decide +kernel)) (goodIn_sub (fun _ h => List.mem_cons_of_mem _ (List.mem_append_right _ h)) (by decide +kernel))
set_option maxRecDepth 20000 in
theorem gX1_isPleased_X7_roundedDegrees_n40 : GoodIn wsX1_isPleased (wsX7_roundedDegrees) := ggX1_isPleased_X7_roundedDegrees
set_option maxRecDepth 20000 in
theorem ggX1_isPleased_X0_hasWater : GoodIn wsX1_isPleased wsX0_hasWater := goodIn_ca (goodIn_r _ [13, 14, 21, 22, 23, 24, 25] (by decide +kernel) (by decide +kernel)) (goodIn_sub (fun _ h => List.mem_cons_of_mem _ (List.mem_append_left _ (List.mem_append_right _ h))) (by decide +kernel))
set_option maxRecDepth 20000 in
theorem gX1_isPleased_X0_hasWater : GoodIn wsX1_isPleased (wsV RX1 44 RX0 yX0_hasWater wsX0_hasWater) := goodIn_app (goodIn_of _ (by decide +kernel)) ggX1_isPleased_X0_hasWater
theorem dX1_isPleased_0 : decode cX1_isPleased 0 = .ok (.aload_n 0, 1) := by decide +kernel
theorem dX1_isPleased_1 : decode cX1_isPleased 1 = .ok (.getfield 15, 3) := by decide +kernel
theorem dX1_isPleased_4 : decode cX1_isPleased 4 = .ok (.iload_n 1, 1) := by decide +kernel
theorem dX1_isPleased_5 : decode cX1_isPleased 5 = .ok (.iaload, 1) := by decide +kernel
theorem dX1_isPleased_6 : decode cX1_isPleased 6 = .ok (.istore_n 3, 1) := by decide +kernel
theorem dX1_isPleased_7 : decode cX1_isPleased 7 = .ok (.aload_n 2, 1) := by decide +kernel
theorem dX1_isPleased_8 : decode cX1_isPleased 8 = .ok (.getfield 32, 3) := by decide +kernel
theorem dX1_isPleased_11 : decode cX1_isPleased 11 = .ok (.iload_n 3, 1) := by decide +kernel
theorem dX1_isPleased_12 : decode cX1_isPleased 12 = .ok (.iaload, 1) := by decide +kernel
theorem dX1_isPleased_13 : decode cX1_isPleased 13 = .ok (.aload_n 2, 1) := by decide +kernel
theorem dX1_isPleased_14 : decode cX1_isPleased 14 = .ok (.getfield 37, 3) := by decide +kernel
theorem dX1_isPleased_17 : decode cX1_isPleased 17 = .ok (.iload_n 3, 1) := by decide +kernel
theorem dX1_isPleased_18 : decode cX1_isPleased 18 = .ok (.iaload, 1) := by decide +kernel
theorem dX1_isPleased_19 : decode cX1_isPleased 19 = .ok (.invokestatic 40, 3) := by decide +kernel
theorem dX1_isPleased_22 : decode cX1_isPleased 22 = .ok (.istore 4, 2) := by decide +kernel
theorem dX1_isPleased_24 : decode cX1_isPleased 24 = .ok (.aload_n 2, 1) := by decide +kernel
theorem dX1_isPleased_25 : decode cX1_isPleased 25 = .ok (.iload_n 3, 1) := by decide +kernel
theorem dX1_isPleased_26 : decode cX1_isPleased 26 = .ok (.invokevirtual 44, 3) := by decide +kernel
theorem dX1_isPleased_29 : decode cX1_isPleased 29 = .ok (.ifCond .eq 29, 3) := by decide +kernel
theorem dX1_isPleased_32 : decode cX1_isPleased 32 = .ok (.iload 4, 2) := by decide +kernel
theorem dX1_isPleased_34 : decode cX1_isPleased 34 = .ok (.aload_n 0, 1) := by decide +kernel
theorem dX1_isPleased_35 : decode cX1_isPleased 35 = .ok (.getfield 19, 3) := by decide +kernel
theorem dX1_isPleased_38 : decode cX1_isPleased 38 = .ok (.iload_n 1, 1) := by decide +kernel
theorem dX1_isPleased_39 : decode cX1_isPleased 39 = .ok (.iaload, 1) := by decide +kernel
theorem dX1_isPleased_40 : decode cX1_isPleased 40 = .ok (.if_icmp .lt 18, 3) := by decide +kernel
theorem dX1_isPleased_43 : decode cX1_isPleased 43 = .ok (.iload 4, 2) := by decide +kernel
theorem dX1_isPleased_45 : decode cX1_isPleased 45 = .ok (.aload_n 0, 1) := by decide +kernel
theorem dX1_isPleased_46 : decode cX1_isPleased 46 = .ok (.getfield 22, 3) := by decide +kernel
theorem dX1_isPleased_49 : decode cX1_isPleased 49 = .ok (.iload_n 1, 1) := by decide +kernel
theorem dX1_isPleased_50 : decode cX1_isPleased 50 = .ok (.iaload, 1) := by decide +kernel
theorem dX1_isPleased_51 : decode cX1_isPleased 51 = .ok (.if_icmp .gt 7, 3) := by decide +kernel
theorem dX1_isPleased_54 : decode cX1_isPleased 54 = .ok (.iconst 1, 1) := by decide +kernel
theorem dX1_isPleased_55 : decode cX1_isPleased 55 = .ok (.goto 4, 3) := by decide +kernel
theorem dX1_isPleased_58 : decode cX1_isPleased 58 = .ok (.iconst 0, 1) := by decide +kernel
theorem dX1_isPleased_59 : decode cX1_isPleased 59 = .ok (.ireturn, 1) := by decide +kernel
set_option maxRecDepth 20000 in
theorem ggX1_pleasedCount_X1_isPleased : GoodIn wsX1_pleasedCount wsX1_isPleased := goodIn_ca (goodIn_ca (goodIn_r _ [6, 7, 8, 9, 10, 11, 12, 13, 14, 15, 16, 17, 18, 19, 20, 21, 22, 23, 24, 25, 26, 27, 28, 29, 30, 31] (by decide +kernel) (by decide +kernel)) (goodIn_sub (fun _ h => List.mem_cons_of_mem _ (List.mem_append_left _ (List.mem_append_right _ h))) (by decide +kernel))) (goodIn_sub (fun _ h => List.mem_cons_of_mem _ (List.mem_append_right _ h)) (by decide +kernel))
set_option maxRecDepth 20000 in
theorem gX1_pleasedCount_X1_isPleased : GoodIn wsX1_pleasedCount (wsV RX1 48 RX1 yX1_isPleased wsX1_isPleased) := goodIn_app (goodIn_of _ (by decide +kernel)) ggX1_pleasedCount_X1_isPleased
theorem dX1_pleasedCount_0 : decode cX1_pleasedCount 0 = .ok (.iconst 0, 1) := by decide +kernel
theorem dX1_pleasedCount_1 : decode cX1_pleasedCount 1 = .ok (.istore_n 2, 1) := by decide +kernel
theorem dX1_pleasedCount_2 : decode cX1_pleasedCount 2 = .ok (.iconst 0, 1) := by decide +kernel
theorem dX1_pleasedCount_3 : decode cX1_pleasedCount 3 = .ok (.istore_n 3, 1) := by decide +kernel
theorem dX1_pleasedCount_4 : decode cX1_pleasedCount 4 = .ok (.iload_n 3, 1) := by decide +kernel
theorem dX1_pleasedCount_5 : decode cX1_pleasedCount 5 = .ok (.aload_n 0, 1) := by decide +kernel
theorem dX1_pleasedCount_6 : decode cX1_pleasedCount 6 = .ok (.getfield 9, 3) := by decide +kernel
theorem dX1_pleasedCount_9 : decode cX1_pleasedCount 9 = .ok (.if_icmp .ge 21, 3) := by decide +kernel
theorem dX1_pleasedCount_12 : decode cX1_pleasedCount 12 = .ok (.aload_n 0, 1) := by decide +kernel
theorem dX1_pleasedCount_13 : decode cX1_pleasedCount 13 = .ok (.iload_n 3, 1) := by decide +kernel
theorem dX1_pleasedCount_14 : decode cX1_pleasedCount 14 = .ok (.aload_n 1, 1) := by decide +kernel
theorem dX1_pleasedCount_15 : decode cX1_pleasedCount 15 = .ok (.invokevirtual 48, 3) := by decide +kernel
theorem dX1_pleasedCount_18 : decode cX1_pleasedCount 18 = .ok (.ifCond .eq 6, 3) := by decide +kernel
theorem dX1_pleasedCount_21 : decode cX1_pleasedCount 21 = .ok (.iinc 2 1, 3) := by decide +kernel
theorem dX1_pleasedCount_24 : decode cX1_pleasedCount 24 = .ok (.iinc 3 1, 3) := by decide +kernel
theorem dX1_pleasedCount_27 : decode cX1_pleasedCount 27 = .ok (.goto (-23), 3) := by decide +kernel
theorem dX1_pleasedCount_30 : decode cX1_pleasedCount 30 = .ok (.iload_n 2, 1) := by decide +kernel
theorem dX1_pleasedCount_31 : decode cX1_pleasedCount 31 = .ok (.ireturn, 1) := by decide +kernel
set_option maxRecDepth 20000 in
theorem ggX1_observe_X1_isPleased : GoodIn wsX1_observe wsX1_isPleased := goodIn_ca (goodIn_ca (goodIn_r _ [8, 9, 10, 11, 12, 13, 14, 15, 16, 17, 18, 19, 20, 21, 22, 23, 24, 25, 26, 27, 28, 29, 30, 31, 32, 33] (by decide +kernel) (by decide +kernel)) (goodIn_sub (fun _ h => List.mem_cons_of_mem _ (List.mem_append_left _ (List.mem_append_right _ h))) (by decide +kernel))) (goodIn_sub (fun _ h => List.mem_cons_of_mem _ (List.mem_append_right _ h)) (by decide +kernel))
set_option maxRecDepth 20000 in
theorem gX1_observe_X1_isPleased : GoodIn wsX1_observe (wsV RX1 48 RX1 yX1_isPleased wsX1_isPleased) := goodIn_app (goodIn_of _ (by decide +kernel)) ggX1_observe_X1_isPleased
theorem dX1_observe_0 : decode cX1_observe 0 = .ok (.iconst 0, 1) := by decide +kernel
theorem dX1_observe_1 : decode cX1_observe 1 = .ok (.istore_n 2, 1) := by decide +kernel
theorem dX1_observe_2 : decode cX1_observe 2 = .ok (.iload_n 2, 1) := by decide +kernel
theorem dX1_observe_3 : decode cX1_observe 3 = .ok (.aload_n 0, 1) := by decide +kernel
theorem dX1_observe_4 : decode cX1_observe 4 = .ok (.getfield 9, 3) := by decide +kernel
theorem dX1_observe_7 : decode cX1_observe 7 = .ok (.if_icmp .ge 46, 3) := by decide +kernel
theorem dX1_observe_10 : decode cX1_observe 10 = .ok (.aload_n 0, 1) := by decide +kernel
theorem dX1_observe_11 : decode cX1_observe 11 = .ok (.iload_n 2, 1) := by decide +kernel
theorem dX1_observe_12 : decode cX1_observe 12 = .ok (.aload_n 1, 1) := by decide +kernel
theorem dX1_observe_13 : decode cX1_observe 13 = .ok (.invokevirtual 48, 3) := by decide +kernel
theorem dX1_observe_16 : decode cX1_observe 16 = .ok (.istore_n 3, 1) := by decide +kernel
theorem dX1_observe_17 : decode cX1_observe 17 = .ok (.aload_n 0, 1) := by decide +kernel
theorem dX1_observe_18 : decode cX1_observe 18 = .ok (.getfield 28, 3) := by decide +kernel
theorem dX1_observe_21 : decode cX1_observe 21 = .ok (.iload_n 2, 1) := by decide +kernel
theorem dX1_observe_22 : decode cX1_observe 22 = .ok (.baload, 1) := by decide +kernel
theorem dX1_observe_23 : decode cX1_observe 23 = .ok (.ifCond .eq 17, 3) := by decide +kernel
theorem dX1_observe_26 : decode cX1_observe 26 = .ok (.iload_n 3, 1) := by decide +kernel
theorem dX1_observe_27 : decode cX1_observe 27 = .ok (.ifCond .ne 13, 3) := by decide +kernel
theorem dX1_observe_30 : decode cX1_observe 30 = .ok (.aload_n 0, 1) := by decide +kernel
theorem dX1_observe_31 : decode cX1_observe 31 = .ok (.getfield 25, 3) := by decide +kernel
theorem dX1_observe_34 : decode cX1_observe 34 = .ok (.iload_n 2, 1) := by decide +kernel
theorem dX1_observe_35 : decode cX1_observe 35 = .ok (.dup2, 1) := by decide +kernel
theorem dX1_observe_36 : decode cX1_observe 36 = .ok (.iaload, 1) := by decide +kernel
theorem dX1_observe_37 : decode cX1_observe 37 = .ok (.iconst 1, 1) := by decide +kernel
theorem dX1_observe_38 : decode cX1_observe 38 = .ok (.iadd, 1) := by decide +kernel
theorem dX1_observe_39 : decode cX1_observe 39 = .ok (.iastore, 1) := by decide +kernel
theorem dX1_observe_40 : decode cX1_observe 40 = .ok (.aload_n 0, 1) := by decide +kernel
theorem dX1_observe_41 : decode cX1_observe 41 = .ok (.getfield 28, 3) := by decide +kernel
theorem dX1_observe_44 : decode cX1_observe 44 = .ok (.iload_n 2, 1) := by decide +kernel
theorem dX1_observe_45 : decode cX1_observe 45 = .ok (.iload_n 3, 1) := by decide +kernel
theorem dX1_observe_46 : decode cX1_observe 46 = .ok (.bastore, 1) := by decide +kernel
theorem dX1_observe_47 : decode cX1_observe 47 = .ok (.iinc 2 1, 3) := by decide +kernel
theorem dX1_observe_50 : decode cX1_observe 50 = .ok (.goto (-48), 3) := by decide +kernel
theorem dX1_observe_53 : decode cX1_observe 53 = .ok (.return_, 1) := by decide +kernel
set_option maxRecDepth 20000 in
theorem ggX1_atRank_X1_rankOf : GoodIn wsX1_atRank wsX1_rankOf := goodIn_ca (goodIn_ca (goodIn_r _ [6, 1, 7, 8, 9, 5, 10, 11, 12, 13, 14, 15, 16, 17, 18, 19, 20, 21, 22, 23, 24, 25, 26, 27, 28, 29, 30, 31, 32, 33, 34, 35, 36, 37, 38, 39, 40] (by decide +kernel) (by decide +kernel)) (goodIn_sub (fun _ h => List.mem_cons_of_mem _ (List.mem_append_left _ (List.mem_append_right _ h))) (by decide +kernel))) (goodIn_sub (fun _ h => List.mem_cons_of_mem _ (List.mem_append_right _ h)) (by decide +kernel))
set_option maxRecDepth 20000 in
theorem gX1_atRank_X1_rankOf : GoodIn wsX1_atRank (wsV RX1 52 RX1 yX1_rankOf wsX1_rankOf) := goodIn_app (goodIn_of _ (by decide +kernel)) ggX1_atRank_X1_rankOf
theorem dX1_atRank_0 : decode cX1_atRank 0 = .ok (.iconst 0, 1) := by decide +kernel
theorem dX1_atRank_1 : decode cX1_atRank 1 = .ok (.istore_n 3, 1) := by decide +kernel
theorem dX1_atRank_2 : decode cX1_atRank 2 = .ok (.iload_n 3, 1) := by decide +kernel
theorem dX1_atRank_3 : decode cX1_atRank 3 = .ok (.aload_n 0, 1) := by decide +kernel
theorem dX1_atRank_4 : decode cX1_atRank 4 = .ok (.getfield 9, 3) := by decide +kernel
theorem dX1_atRank_7 : decode cX1_atRank 7 = .ok (.if_icmp .ge 21, 3) := by decide +kernel
theorem dX1_atRank_10 : decode cX1_atRank 10 = .ok (.aload_n 0, 1) := by decide +kernel
theorem dX1_atRank_11 : decode cX1_atRank 11 = .ok (.iload_n 3, 1) := by decide +kernel
theorem dX1_atRank_12 : decode cX1_atRank 12 = .ok (.aload_n 2, 1) := by decide +kernel
theorem dX1_atRank_13 : decode cX1_atRank 13 = .ok (.invokevirtual 52, 3) := by decide +kernel
theorem dX1_atRank_16 : decode cX1_atRank 16 = .ok (.iload_n 1, 1) := by decide +kernel
theorem dX1_atRank_17 : decode cX1_atRank 17 = .ok (.if_icmp .ne 5, 3) := by decide +kernel
theorem dX1_atRank_20 : decode cX1_atRank 20 = .ok (.iload_n 3, 1) := by decide +kernel
theorem dX1_atRank_21 : decode cX1_atRank 21 = .ok (.ireturn, 1) := by decide +kernel
theorem dX1_atRank_22 : decode cX1_atRank 22 = .ok (.iinc 3 1, 3) := by decide +kernel
theorem dX1_atRank_25 : decode cX1_atRank 25 = .ok (.goto (-23), 3) := by decide +kernel
theorem dX1_atRank_28 : decode cX1_atRank 28 = .ok (.iconst (-1), 1) := by decide +kernel
theorem dX1_atRank_29 : decode cX1_atRank 29 = .ok (.ireturn, 1) := by decide +kernel
set_option maxRecDepth 20000 in
theorem ggX1_rankOf_X1_ranksBefore : GoodIn wsX1_rankOf wsX1_ranksBefore := goodIn_ca (goodIn_ca (goodIn_r _ [6, 7, 8, 9, 10, 5, 11, 12, 13, 14, 15, 16, 17, 18, 19, 20, 21, 22, 23, 24, 25, 26, 27, 28, 29, 30, 31, 32, 33, 34, 35, 36] (by decide +kernel) (by decide +kernel)) (goodIn_sub (fun _ h => List.mem_cons_of_mem _ (List.mem_append_left _ (List.mem_append_right _ h))) (by decide +kernel))) (goodIn_sub (fun _ h => List.mem_cons_of_mem _ (List.mem_append_right _ h)) (by decide +kernel))
set_option maxRecDepth 20000 in
theorem gX1_rankOf_X1_ranksBefore : GoodIn wsX1_rankOf (wsV RX1 56 RX1 yX1_ranksBefore wsX1_ranksBefore) := goodIn_app (goodIn_of _ (by decide +kernel)) ggX1_rankOf_X1_ranksBefore
theorem dX1_rankOf_0 : decode cX1_rankOf 0 = .ok (.iconst 0, 1) := by decide +kernel
theorem dX1_rankOf_1 : decode cX1_rankOf 1 = .ok (.istore_n 3, 1) := by decide +kernel
theorem dX1_rankOf_2 : decode cX1_rankOf 2 = .ok (.iconst 0, 1) := by decide +kernel
theorem dX1_rankOf_3 : decode cX1_rankOf 3 = .ok (.istore 4, 2) := by decide +kernel
theorem dX1_rankOf_5 : decode cX1_rankOf 5 = .ok (.iload 4, 2) := by decide +kernel
theorem dX1_rankOf_7 : decode cX1_rankOf 7 = .ok (.aload_n 0, 1) := by decide +kernel
theorem dX1_rankOf_8 : decode cX1_rankOf 8 = .ok (.getfield 9, 3) := by decide +kernel
theorem dX1_rankOf_11 : decode cX1_rankOf 11 = .ok (.if_icmp .ge 23, 3) := by decide +kernel
theorem dX1_rankOf_14 : decode cX1_rankOf 14 = .ok (.aload_n 0, 1) := by decide +kernel
theorem dX1_rankOf_15 : decode cX1_rankOf 15 = .ok (.iload 4, 2) := by decide +kernel
theorem dX1_rankOf_17 : decode cX1_rankOf 17 = .ok (.iload_n 1, 1) := by decide +kernel
theorem dX1_rankOf_18 : decode cX1_rankOf 18 = .ok (.aload_n 2, 1) := by decide +kernel
theorem dX1_rankOf_19 : decode cX1_rankOf 19 = .ok (.invokevirtual 56, 3) := by decide +kernel
theorem dX1_rankOf_22 : decode cX1_rankOf 22 = .ok (.ifCond .eq 6, 3) := by decide +kernel
theorem dX1_rankOf_25 : decode cX1_rankOf 25 = .ok (.iinc 3 1, 3) := by decide +kernel
theorem dX1_rankOf_28 : decode cX1_rankOf 28 = .ok (.iinc 4 1, 3) := by decide +kernel
theorem dX1_rankOf_31 : decode cX1_rankOf 31 = .ok (.goto (-26), 3) := by decide +kernel
theorem dX1_rankOf_34 : decode cX1_rankOf 34 = .ok (.iload_n 3, 1) := by decide +kernel
theorem dX1_rankOf_35 : decode cX1_rankOf 35 = .ok (.ireturn, 1) := by decide +kernel
set_option maxRecDepth 20000 in
theorem ggX1_ranksBefore_X1_isPleased : GoodIn wsX1_ranksBefore wsX1_isPleased := goodIn_ca (goodIn_ca (goodIn_r _ [6, 7, 8, 9, 10, 11, 12, 13, 14, 15, 16, 17, 18, 19, 20, 21, 22, 23, 24, 25, 26, 27, 28, 29, 30, 31] (by decide +kernel) (by decide +kernel)) (goodIn_sub (fun _ h => List.mem_cons_of_mem _ (List.mem_append_left _ (List.mem_append_right _ h))) (by decide +kernel))) (goodIn_sub (fun _ h => List.mem_cons_of_mem _ (List.mem_append_right _ h)) (by decide +kernel))
set_option maxRecDepth 20000 in
theorem gX1_ranksBefore_X1_isPleased : GoodIn wsX1_ranksBefore (wsV RX1 48 RX1 yX1_isPleased wsX1_isPleased) := goodIn_app (goodIn_of _ (by decide +kernel)) ggX1_ranksBefore_X1_isPleased
theorem dX1_ranksBefore_0 : decode cX1_ranksBefore 0 = .ok (.aload_n 0, 1) := by decide +kernel
theorem dX1_ranksBefore_1 : decode cX1_ranksBefore 1 = .ok (.getfield 25, 3) := by decide +kernel
theorem dX1_ranksBefore_4 : decode cX1_ranksBefore 4 = .ok (.iload_n 1, 1) := by decide +kernel
theorem dX1_ranksBefore_5 : decode cX1_ranksBefore 5 = .ok (.iaload, 1) := by decide +kernel
theorem dX1_ranksBefore_6 : decode cX1_ranksBefore 6 = .ok (.aload_n 0, 1) := by decide +kernel
theorem dX1_ranksBefore_7 : decode cX1_ranksBefore 7 = .ok (.getfield 25, 3) := by decide +kernel
theorem dX1_ranksBefore_10 : decode cX1_ranksBefore 10 = .ok (.iload_n 2, 1) := by decide +kernel
theorem dX1_ranksBefore_11 : decode cX1_ranksBefore 11 = .ok (.iaload, 1) := by decide +kernel
theorem dX1_ranksBefore_12 : decode cX1_ranksBefore 12 = .ok (.if_icmp .eq 24, 3) := by decide +kernel
theorem dX1_ranksBefore_15 : decode cX1_ranksBefore 15 = .ok (.aload_n 0, 1) := by decide +kernel
theorem dX1_ranksBefore_16 : decode cX1_ranksBefore 16 = .ok (.getfield 25, 3) := by decide +kernel
theorem dX1_ranksBefore_19 : decode cX1_ranksBefore 19 = .ok (.iload_n 1, 1) := by decide +kernel
theorem dX1_ranksBefore_20 : decode cX1_ranksBefore 20 = .ok (.iaload, 1) := by decide +kernel
theorem dX1_ranksBefore_21 : decode cX1_ranksBefore 21 = .ok (.aload_n 0, 1) := by decide +kernel
theorem dX1_ranksBefore_22 : decode cX1_ranksBefore 22 = .ok (.getfield 25, 3) := by decide +kernel
theorem dX1_ranksBefore_25 : decode cX1_ranksBefore 25 = .ok (.iload_n 2, 1) := by decide +kernel
theorem dX1_ranksBefore_26 : decode cX1_ranksBefore 26 = .ok (.iaload, 1) := by decide +kernel
theorem dX1_ranksBefore_27 : decode cX1_ranksBefore 27 = .ok (.if_icmp .le 7, 3) := by decide +kernel
theorem dX1_ranksBefore_30 : decode cX1_ranksBefore 30 = .ok (.iconst 1, 1) := by decide +kernel
theorem dX1_ranksBefore_31 : decode cX1_ranksBefore 31 = .ok (.goto 4, 3) := by decide +kernel
theorem dX1_ranksBefore_34 : decode cX1_ranksBefore 34 = .ok (.iconst 0, 1) := by decide +kernel
theorem dX1_ranksBefore_35 : decode cX1_ranksBefore 35 = .ok (.ireturn, 1) := by decide +kernel
theorem dX1_ranksBefore_36 : decode cX1_ranksBefore 36 = .ok (.aload_n 0, 1) := by decide +kernel
theorem dX1_ranksBefore_37 : decode cX1_ranksBefore 37 = .ok (.iload_n 1, 1) := by decide +kernel
theorem dX1_ranksBefore_38 : decode cX1_ranksBefore 38 = .ok (.aload_n 3, 1) := by decide +kernel
theorem dX1_ranksBefore_39 : decode cX1_ranksBefore 39 = .ok (.invokevirtual 48, 3) := by decide +kernel
theorem dX1_ranksBefore_42 : decode cX1_ranksBefore 42 = .ok (.istore 4, 2) := by decide +kernel
theorem dX1_ranksBefore_44 : decode cX1_ranksBefore 44 = .ok (.iload 4, 2) := by decide +kernel
theorem dX1_ranksBefore_46 : decode cX1_ranksBefore 46 = .ok (.aload_n 0, 1) := by decide +kernel
theorem dX1_ranksBefore_47 : decode cX1_ranksBefore 47 = .ok (.iload_n 2, 1) := by decide +kernel
theorem dX1_ranksBefore_48 : decode cX1_ranksBefore 48 = .ok (.aload_n 3, 1) := by decide +kernel
theorem dX1_ranksBefore_49 : decode cX1_ranksBefore 49 = .ok (.invokevirtual 48, 3) := by decide +kernel
theorem dX1_ranksBefore_52 : decode cX1_ranksBefore 52 = .ok (.if_icmp .ne 16, 3) := by decide +kernel
theorem dX1_ranksBefore_55 : decode cX1_ranksBefore 55 = .ok (.iload_n 1, 1) := by decide +kernel
theorem dX1_ranksBefore_56 : decode cX1_ranksBefore 56 = .ok (.iload_n 2, 1) := by decide +kernel
theorem dX1_ranksBefore_57 : decode cX1_ranksBefore 57 = .ok (.if_icmp .ge 7, 3) := by decide +kernel
theorem dX1_ranksBefore_60 : decode cX1_ranksBefore 60 = .ok (.iconst 1, 1) := by decide +kernel
theorem dX1_ranksBefore_61 : decode cX1_ranksBefore 61 = .ok (.goto 9, 3) := by decide +kernel
theorem dX1_ranksBefore_64 : decode cX1_ranksBefore 64 = .ok (.iconst 0, 1) := by decide +kernel
theorem dX1_ranksBefore_65 : decode cX1_ranksBefore 65 = .ok (.goto 5, 3) := by decide +kernel
theorem dX1_ranksBefore_68 : decode cX1_ranksBefore 68 = .ok (.iload 4, 2) := by decide +kernel
theorem dX1_ranksBefore_70 : decode cX1_ranksBefore 70 = .ok (.ireturn, 1) := by decide +kernel
theorem dX2_init_0 : decode cX2_init 0 = .ok (.aload_n 0, 1) := by decide +kernel
theorem dX2_init_1 : decode cX2_init 1 = .ok (.invokespecial 3, 3) := by decide +kernel
theorem dX2_init_4 : decode cX2_init 4 = .ok (.aload_n 0, 1) := by decide +kernel
theorem dX2_init_5 : decode cX2_init 5 = .ok (.iconst 0, 1) := by decide +kernel
theorem dX2_init_6 : decode cX2_init 6 = .ok (.putfield 9, 3) := by decide +kernel
theorem dX2_init_9 : decode cX2_init 9 = .ok (.aload_n 0, 1) := by decide +kernel
theorem dX2_init_10 : decode cX2_init 10 = .ok (.bipush 10, 2) := by decide +kernel
theorem dX2_init_12 : decode cX2_init 12 = .ok (.newarray .char, 2) := by decide +kernel
theorem dX2_init_14 : decode cX2_init 14 = .ok (.putfield 15, 3) := by decide +kernel
theorem dX2_init_17 : decode cX2_init 17 = .ok (.aload_n 0, 1) := by decide +kernel
theorem dX2_init_18 : decode cX2_init 18 = .ok (.bipush 10, 2) := by decide +kernel
theorem dX2_init_20 : decode cX2_init 20 = .ok (.newarray .int, 2) := by decide +kernel
theorem dX2_init_22 : decode cX2_init 22 = .ok (.putfield 19, 3) := by decide +kernel
theorem dX2_init_25 : decode cX2_init 25 = .ok (.aload_n 0, 1) := by decide +kernel
theorem dX2_init_26 : decode cX2_init 26 = .ok (.bipush 10, 2) := by decide +kernel
theorem dX2_init_28 : decode cX2_init 28 = .ok (.newarray .int, 2) := by decide +kernel
theorem dX2_init_30 : decode cX2_init 30 = .ok (.putfield 23, 3) := by decide +kernel
theorem dX2_init_33 : decode cX2_init 33 = .ok (.return_, 1) := by decide +kernel
theorem dX2_copyFrom_0 : decode cX2_copyFrom 0 = .ok (.aload_n 0, 1) := by decide +kernel
theorem dX2_copyFrom_1 : decode cX2_copyFrom 1 = .ok (.aload_n 1, 1) := by decide +kernel
theorem dX2_copyFrom_2 : decode cX2_copyFrom 2 = .ok (.getfield 9, 3) := by decide +kernel
theorem dX2_copyFrom_5 : decode cX2_copyFrom 5 = .ok (.putfield 9, 3) := by decide +kernel
theorem dX2_copyFrom_8 : decode cX2_copyFrom 8 = .ok (.iconst 0, 1) := by decide +kernel
theorem dX2_copyFrom_9 : decode cX2_copyFrom 9 = .ok (.istore_n 2, 1) := by decide +kernel
theorem dX2_copyFrom_10 : decode cX2_copyFrom 10 = .ok (.iload_n 2, 1) := by decide +kernel
theorem dX2_copyFrom_11 : decode cX2_copyFrom 11 = .ok (.bipush 10, 2) := by decide +kernel
theorem dX2_copyFrom_13 : decode cX2_copyFrom 13 = .ok (.if_icmp .ge 45, 3) := by decide +kernel
theorem dX2_copyFrom_16 : decode cX2_copyFrom 16 = .ok (.aload_n 0, 1) := by decide +kernel
theorem dX2_copyFrom_17 : decode cX2_copyFrom 17 = .ok (.getfield 15, 3) := by decide +kernel
theorem dX2_copyFrom_20 : decode cX2_copyFrom 20 = .ok (.iload_n 2, 1) := by decide +kernel
theorem dX2_copyFrom_21 : decode cX2_copyFrom 21 = .ok (.aload_n 1, 1) := by decide +kernel
theorem dX2_copyFrom_22 : decode cX2_copyFrom 22 = .ok (.getfield 15, 3) := by decide +kernel
theorem dX2_copyFrom_25 : decode cX2_copyFrom 25 = .ok (.iload_n 2, 1) := by decide +kernel
theorem dX2_copyFrom_26 : decode cX2_copyFrom 26 = .ok (.caload, 1) := by decide +kernel
theorem dX2_copyFrom_27 : decode cX2_copyFrom 27 = .ok (.castore, 1) := by decide +kernel
theorem dX2_copyFrom_28 : decode cX2_copyFrom 28 = .ok (.aload_n 0, 1) := by decide +kernel
theorem dX2_copyFrom_29 : decode cX2_copyFrom 29 = .ok (.getfield 19, 3) := by decide +kernel
theorem dX2_copyFrom_32 : decode cX2_copyFrom 32 = .ok (.iload_n 2, 1) := by decide +kernel
theorem dX2_copyFrom_33 : decode cX2_copyFrom 33 = .ok (.aload_n 1, 1) := by decide +kernel
theorem dX2_copyFrom_34 : decode cX2_copyFrom 34 = .ok (.getfield 19, 3) := by decide +kernel
theorem dX2_copyFrom_37 : decode cX2_copyFrom 37 = .ok (.iload_n 2, 1) := by decide +kernel
theorem dX2_copyFrom_38 : decode cX2_copyFrom 38 = .ok (.iaload, 1) := by decide +kernel
theorem dX2_copyFrom_39 : decode cX2_copyFrom 39 = .ok (.iastore, 1) := by decide +kernel
theorem dX2_copyFrom_40 : decode cX2_copyFrom 40 = .ok (.aload_n 0, 1) := by decide +kernel
theorem dX2_copyFrom_41 : decode cX2_copyFrom 41 = .ok (.getfield 23, 3) := by decide +kernel
theorem dX2_copyFrom_44 : decode cX2_copyFrom 44 = .ok (.iload_n 2, 1) := by decide +kernel
theorem dX2_copyFrom_45 : decode cX2_copyFrom 45 = .ok (.aload_n 1, 1) := by decide +kernel
theorem dX2_copyFrom_46 : decode cX2_copyFrom 46 = .ok (.getfield 23, 3) := by decide +kernel
theorem dX2_copyFrom_49 : decode cX2_copyFrom 49 = .ok (.iload_n 2, 1) := by decide +kernel
theorem dX2_copyFrom_50 : decode cX2_copyFrom 50 = .ok (.iaload, 1) := by decide +kernel
theorem dX2_copyFrom_51 : decode cX2_copyFrom 51 = .ok (.iastore, 1) := by decide +kernel
theorem dX2_copyFrom_52 : decode cX2_copyFrom 52 = .ok (.iinc 2 1, 3) := by decide +kernel
theorem dX2_copyFrom_55 : decode cX2_copyFrom 55 = .ok (.goto (-45), 3) := by decide +kernel
theorem dX2_copyFrom_58 : decode cX2_copyFrom 58 = .ok (.return_, 1) := by decide +kernel
theorem dX2_note_0 : decode cX2_note 0 = .ok (.bipush 9, 2) := by decide +kernel
theorem dX2_note_2 : decode cX2_note 2 = .ok (.istore 4, 2) := by decide +kernel
theorem dX2_note_4 : decode cX2_note 4 = .ok (.iload 4, 2) := by decide +kernel
theorem dX2_note_6 : decode cX2_note 6 = .ok (.ifCond .le 57, 3) := by decide +kernel
theorem dX2_note_9 : decode cX2_note 9 = .ok (.aload_n 0, 1) := by decide +kernel
theorem dX2_note_10 : decode cX2_note 10 = .ok (.getfield 15, 3) := by decide +kernel
theorem dX2_note_13 : decode cX2_note 13 = .ok (.iload 4, 2) := by decide +kernel
theorem dX2_note_15 : decode cX2_note 15 = .ok (.aload_n 0, 1) := by decide +kernel
theorem dX2_note_16 : decode cX2_note 16 = .ok (.getfield 15, 3) := by decide +kernel
theorem dX2_note_19 : decode cX2_note 19 = .ok (.iload 4, 2) := by decide +kernel
theorem dX2_note_21 : decode cX2_note 21 = .ok (.iconst 1, 1) := by decide +kernel
theorem dX2_note_22 : decode cX2_note 22 = .ok (.isub, 1) := by decide +kernel
theorem dX2_note_23 : decode cX2_note 23 = .ok (.caload, 1) := by decide +kernel
theorem dX2_note_24 : decode cX2_note 24 = .ok (.castore, 1) := by decide +kernel
theorem dX2_note_25 : decode cX2_note 25 = .ok (.aload_n 0, 1) := by decide +kernel
theorem dX2_note_26 : decode cX2_note 26 = .ok (.getfield 19, 3) := by decide +kernel
theorem dX2_note_29 : decode cX2_note 29 = .ok (.iload 4, 2) := by decide +kernel
theorem dX2_note_31 : decode cX2_note 31 = .ok (.aload_n 0, 1) := by decide +kernel
theorem dX2_note_32 : decode cX2_note 32 = .ok (.getfield 19, 3) := by decide +kernel
theorem dX2_note_35 : decode cX2_note 35 = .ok (.iload 4, 2) := by decide +kernel
theorem dX2_note_37 : decode cX2_note 37 = .ok (.iconst 1, 1) := by decide +kernel
theorem dX2_note_38 : decode cX2_note 38 = .ok (.isub, 1) := by decide +kernel
theorem dX2_note_39 : decode cX2_note 39 = .ok (.iaload, 1) := by decide +kernel
theorem dX2_note_40 : decode cX2_note 40 = .ok (.iastore, 1) := by decide +kernel
theorem dX2_note_41 : decode cX2_note 41 = .ok (.aload_n 0, 1) := by decide +kernel
theorem dX2_note_42 : decode cX2_note 42 = .ok (.getfield 23, 3) := by decide +kernel
theorem dX2_note_45 : decode cX2_note 45 = .ok (.iload 4, 2) := by decide +kernel
theorem dX2_note_47 : decode cX2_note 47 = .ok (.aload_n 0, 1) := by decide +kernel
theorem dX2_note_48 : decode cX2_note 48 = .ok (.getfield 23, 3) := by decide +kernel
theorem dX2_note_51 : decode cX2_note 51 = .ok (.iload 4, 2) := by decide +kernel
theorem dX2_note_53 : decode cX2_note 53 = .ok (.iconst 1, 1) := by decide +kernel
theorem dX2_note_54 : decode cX2_note 54 = .ok (.isub, 1) := by decide +kernel
theorem dX2_note_55 : decode cX2_note 55 = .ok (.iaload, 1) := by decide +kernel
theorem dX2_note_56 : decode cX2_note 56 = .ok (.iastore, 1) := by decide +kernel
theorem dX2_note_57 : decode cX2_note 57 = .ok (.iinc 4 (-1), 3) := by decide +kernel
theorem dX2_note_60 : decode cX2_note 60 = .ok (.goto (-56), 3) := by decide +kernel
theorem dX2_note_63 : decode cX2_note 63 = .ok (.aload_n 0, 1) := by decide +kernel
theorem dX2_note_64 : decode cX2_note 64 = .ok (.getfield 15, 3) := by decide +kernel
theorem dX2_note_67 : decode cX2_note 67 = .ok (.iconst 0, 1) := by decide +kernel
theorem dX2_note_68 : decode cX2_note 68 = .ok (.iload_n 1, 1) := by decide +kernel
theorem dX2_note_69 : decode cX2_note 69 = .ok (.castore, 1) := by decide +kernel
theorem dX2_note_70 : decode cX2_note 70 = .ok (.aload_n 0, 1) := by decide +kernel
theorem dX2_note_71 : decode cX2_note 71 = .ok (.getfield 19, 3) := by decide +kernel
theorem dX2_note_74 : decode cX2_note 74 = .ok (.iconst 0, 1) := by decide +kernel
theorem dX2_note_75 : decode cX2_note 75 = .ok (.iload_n 2, 1) := by decide +kernel
theorem dX2_note_76 : decode cX2_note 76 = .ok (.iastore, 1) := by decide +kernel
theorem dX2_note_77 : decode cX2_note 77 = .ok (.aload_n 0, 1) := by decide +kernel
theorem dX2_note_78 : decode cX2_note 78 = .ok (.getfield 23, 3) := by decide +kernel
theorem dX2_note_81 : decode cX2_note 81 = .ok (.iconst 0, 1) := by decide +kernel
theorem dX2_note_82 : decode cX2_note 82 = .ok (.iload_n 3, 1) := by decide +kernel
theorem dX2_note_83 : decode cX2_note 83 = .ok (.iastore, 1) := by decide +kernel
theorem dX2_note_84 : decode cX2_note 84 = .ok (.aload_n 0, 1) := by decide +kernel
theorem dX2_note_85 : decode cX2_note 85 = .ok (.bipush 10, 2) := by decide +kernel
theorem dX2_note_87 : decode cX2_note 87 = .ok (.aload_n 0, 1) := by decide +kernel
theorem dX2_note_88 : decode cX2_note 88 = .ok (.getfield 9, 3) := by decide +kernel
theorem dX2_note_91 : decode cX2_note 91 = .ok (.iconst 1, 1) := by decide +kernel
theorem dX2_note_92 : decode cX2_note 92 = .ok (.iadd, 1) := by decide +kernel
theorem dX2_note_93 : decode cX2_note 93 = .ok (.invokestatic 26, 3) := by decide +kernel
theorem dX2_note_96 : decode cX2_note 96 = .ok (.putfield 9, 3) := by decide +kernel
theorem dX2_note_99 : decode cX2_note 99 = .ok (.return_, 1) := by decide +kernel
set_option maxRecDepth 20000 in
theorem ggX3_init_X5_init : GoodIn wsX3_init wsX5_init := goodIn_r _ [11, 12, 2, 3, 13, 14, 15, 16, 17, 18, 19, 20, 21, 22, 23, 24, 25, 26, 27, 28, 29, 30, 31, 32, 33, 34, 35, 36, 37, 38, 39, 40, 41, 42, 43, 44, 45, 46, 47, 48, 49, 50, 51, 52, 53, 54, 55, 56, 57, 58, 59, 60, 61, 62, 63, 64, 72, 73, 74, 75, 76, 68, 69, 70, 71, 77, 78, 79, 80, 81, 82, 83, 84, 85, 86, 87, 88, 89, 90, 91, 92] (by decide +kernel) (by decide +kernel)
set_option maxRecDepth 20000 in
theorem gX3_init_X5_init_n24 : GoodIn wsX3_init (wsX5_init) := ggX3_init_X5_init
theorem dX3_init_0 : decode cX3_init 0 = .ok (.aload_n 0, 1) := by decide +kernel
theorem dX3_init_1 : decode cX3_init 1 = .ok (.invokespecial 3, 3) := by decide +kernel
theorem dX3_init_4 : decode cX3_init 4 = .ok (.aload_n 0, 1) := by decide +kernel
theorem dX3_init_5 : decode cX3_init 5 = .ok (.bipush 8, 2) := by decide +kernel
theorem dX3_init_7 : decode cX3_init 7 = .ok (.anewarray 9, 3) := by decide +kernel
theorem dX3_init_10 : decode cX3_init 10 = .ok (.putfield 11, 3) := by decide +kernel
theorem dX3_init_13 : decode cX3_init 13 = .ok (.aload_n 0, 1) := by decide +kernel
theorem dX3_init_14 : decode cX3_init 14 = .ok (.iconst 0, 1) := by decide +kernel
theorem dX3_init_15 : decode cX3_init 15 = .ok (.putfield 17, 3) := by decide +kernel
theorem dX3_init_18 : decode cX3_init 18 = .ok (.aload_n 0, 1) := by decide +kernel
theorem dX3_init_19 : decode cX3_init 19 = .ok (.iconst 0, 1) := by decide +kernel
theorem dX3_init_20 : decode cX3_init 20 = .ok (.putfield 21, 3) := by decide +kernel
theorem dX3_init_23 : decode cX3_init 23 = .ok (.iconst 0, 1) := by decide +kernel
theorem dX3_init_24 : decode cX3_init 24 = .ok (.istore_n 1, 1) := by decide +kernel
theorem dX3_init_25 : decode cX3_init 25 = .ok (.iload_n 1, 1) := by decide +kernel
theorem dX3_init_26 : decode cX3_init 26 = .ok (.bipush 8, 2) := by decide +kernel
theorem dX3_init_28 : decode cX3_init 28 = .ok (.if_icmp .ge 22, 3) := by decide +kernel
theorem dX3_init_31 : decode cX3_init 31 = .ok (.aload_n 0, 1) := by decide +kernel
theorem dX3_init_32 : decode cX3_init 32 = .ok (.getfield 11, 3) := by decide +kernel
theorem dX3_init_35 : decode cX3_init 35 = .ok (.iload_n 1, 1) := by decide +kernel
theorem dX3_init_36 : decode cX3_init 36 = .ok (.new 9, 3) := by decide +kernel
theorem dX3_init_39 : decode cX3_init 39 = .ok (.dup, 1) := by decide +kernel
theorem dX3_init_40 : decode cX3_init 40 = .ok (.invokespecial 24, 3) := by decide +kernel
theorem dX3_init_43 : decode cX3_init 43 = .ok (.aastore, 1) := by decide +kernel
theorem dX3_init_44 : decode cX3_init 44 = .ok (.iinc 1 1, 3) := by decide +kernel
theorem dX3_init_47 : decode cX3_init 47 = .ok (.goto (-22), 3) := by decide +kernel
theorem dX3_init_50 : decode cX3_init 50 = .ok (.return_, 1) := by decide +kernel
set_option maxRecDepth 20000 in
theorem ggX3_remember_X5_copyFrom : GoodIn wsX3_remember wsX5_copyFrom := goodIn_ca (goodIn_r _ [12, 13, 14, 15, 16, 17, 18, 19, 20, 21, 22, 23, 24, 25, 26, 27, 28, 29, 30, 31, 32, 33, 34, 35, 36, 37, 38, 39, 40, 41, 42, 43, 44, 45, 46, 47, 48, 49, 50, 51, 52, 53, 54, 55, 56, 57, 61, 62, 63, 64, 65, 66, 67, 68, 69, 70, 71, 72, 73, 74, 75, 76, 77, 78, 79, 80, 81, 82, 83, 84, 85] (by decide +kernel) (by decide +kernel)) (goodIn_sub (fun _ h => List.mem_cons_of_mem _ (List.mem_append_right _ h)) (by decide +kernel))
set_option maxRecDepth 20000 in
theorem gX3_remember_X5_copyFrom : GoodIn wsX3_remember (wsV RX3 25 RX5 yX5_copyFrom wsX5_copyFrom) := goodIn_app (goodIn_of _ (by decide +kernel)) ggX3_remember_X5_copyFrom
theorem dX3_remember_0 : decode cX3_remember 0 = .ok (.aload_n 0, 1) := by decide +kernel
theorem dX3_remember_1 : decode cX3_remember 1 = .ok (.getfield 11, 3) := by decide +kernel
theorem dX3_remember_4 : decode cX3_remember 4 = .ok (.aload_n 0, 1) := by decide +kernel
theorem dX3_remember_5 : decode cX3_remember 5 = .ok (.getfield 17, 3) := by decide +kernel
theorem dX3_remember_8 : decode cX3_remember 8 = .ok (.aaload, 1) := by decide +kernel
theorem dX3_remember_9 : decode cX3_remember 9 = .ok (.aload_n 1, 1) := by decide +kernel
theorem dX3_remember_10 : decode cX3_remember 10 = .ok (.invokevirtual 25, 3) := by decide +kernel
theorem dX3_remember_13 : decode cX3_remember 13 = .ok (.aload_n 0, 1) := by decide +kernel
theorem dX3_remember_14 : decode cX3_remember 14 = .ok (.aload_n 0, 1) := by decide +kernel
theorem dX3_remember_15 : decode cX3_remember 15 = .ok (.getfield 17, 3) := by decide +kernel
theorem dX3_remember_18 : decode cX3_remember 18 = .ok (.iconst 1, 1) := by decide +kernel
theorem dX3_remember_19 : decode cX3_remember 19 = .ok (.iadd, 1) := by decide +kernel
theorem dX3_remember_20 : decode cX3_remember 20 = .ok (.bipush 8, 2) := by decide +kernel
theorem dX3_remember_22 : decode cX3_remember 22 = .ok (.irem, 1) := by decide +kernel
theorem dX3_remember_23 : decode cX3_remember 23 = .ok (.putfield 17, 3) := by decide +kernel
theorem dX3_remember_26 : decode cX3_remember 26 = .ok (.aload_n 0, 1) := by decide +kernel
theorem dX3_remember_27 : decode cX3_remember 27 = .ok (.bipush 8, 2) := by decide +kernel
theorem dX3_remember_29 : decode cX3_remember 29 = .ok (.aload_n 0, 1) := by decide +kernel
theorem dX3_remember_30 : decode cX3_remember 30 = .ok (.getfield 21, 3) := by decide +kernel
theorem dX3_remember_33 : decode cX3_remember 33 = .ok (.iconst 1, 1) := by decide +kernel
theorem dX3_remember_34 : decode cX3_remember 34 = .ok (.iadd, 1) := by decide +kernel
theorem dX3_remember_35 : decode cX3_remember 35 = .ok (.invokestatic 29, 3) := by decide +kernel
theorem dX3_remember_38 : decode cX3_remember 38 = .ok (.putfield 21, 3) := by decide +kernel
theorem dX3_remember_41 : decode cX3_remember 41 = .ok (.return_, 1) := by decide +kernel
set_option maxRecDepth 20000 in
theorem ggX3_recall_X5_copyFrom : GoodIn wsX3_recall wsX5_copyFrom := goodIn_ca (goodIn_r _ [8, 9, 10, 11, 12, 13, 14, 15, 16, 17, 18, 19, 20, 21, 22, 23, 24, 25, 26, 27, 28, 29, 30, 31, 32, 33, 34, 35, 36, 37, 38, 39, 40, 41, 42, 43, 44, 45, 46, 47, 48, 49, 50, 51, 52, 53, 57, 58, 59, 60, 61, 62, 63, 64, 65, 66, 67, 68, 69, 70, 71, 72, 73, 74, 75, 76, 77, 78, 79, 80, 81] (by decide +kernel) (by decide +kernel)) (goodIn_sub (fun _ h => List.mem_cons_of_mem _ (List.mem_append_right _ h)) (by decide +kernel))
set_option maxRecDepth 20000 in
theorem gX3_recall_X5_copyFrom : GoodIn wsX3_recall (wsV RX3 25 RX5 yX5_copyFrom wsX5_copyFrom) := goodIn_app (goodIn_of _ (by decide +kernel)) ggX3_recall_X5_copyFrom
theorem dX3_recall_0 : decode cX3_recall 0 = .ok (.aload_n 0, 1) := by decide +kernel
theorem dX3_recall_1 : decode cX3_recall 1 = .ok (.aload_n 0, 1) := by decide +kernel
theorem dX3_recall_2 : decode cX3_recall 2 = .ok (.getfield 17, 3) := by decide +kernel
theorem dX3_recall_5 : decode cX3_recall 5 = .ok (.bipush 8, 2) := by decide +kernel
theorem dX3_recall_7 : decode cX3_recall 7 = .ok (.iadd, 1) := by decide +kernel
theorem dX3_recall_8 : decode cX3_recall 8 = .ok (.iconst 1, 1) := by decide +kernel
theorem dX3_recall_9 : decode cX3_recall 9 = .ok (.isub, 1) := by decide +kernel
theorem dX3_recall_10 : decode cX3_recall 10 = .ok (.bipush 8, 2) := by decide +kernel
theorem dX3_recall_12 : decode cX3_recall 12 = .ok (.irem, 1) := by decide +kernel
theorem dX3_recall_13 : decode cX3_recall 13 = .ok (.putfield 17, 3) := by decide +kernel
theorem dX3_recall_16 : decode cX3_recall 16 = .ok (.aload_n 1, 1) := by decide +kernel
theorem dX3_recall_17 : decode cX3_recall 17 = .ok (.aload_n 0, 1) := by decide +kernel
theorem dX3_recall_18 : decode cX3_recall 18 = .ok (.getfield 11, 3) := by decide +kernel
theorem dX3_recall_21 : decode cX3_recall 21 = .ok (.aload_n 0, 1) := by decide +kernel
theorem dX3_recall_22 : decode cX3_recall 22 = .ok (.getfield 17, 3) := by decide +kernel
theorem dX3_recall_25 : decode cX3_recall 25 = .ok (.aaload, 1) := by decide +kernel
theorem dX3_recall_26 : decode cX3_recall 26 = .ok (.invokevirtual 25, 3) := by decide +kernel
theorem dX3_recall_29 : decode cX3_recall 29 = .ok (.aload_n 0, 1) := by decide +kernel
theorem dX3_recall_30 : decode cX3_recall 30 = .ok (.dup, 1) := by decide +kernel
theorem dX3_recall_31 : decode cX3_recall 31 = .ok (.getfield 21, 3) := by decide +kernel
theorem dX3_recall_34 : decode cX3_recall 34 = .ok (.iconst 1, 1) := by decide +kernel
theorem dX3_recall_35 : decode cX3_recall 35 = .ok (.isub, 1) := by decide +kernel
theorem dX3_recall_36 : decode cX3_recall 36 = .ok (.putfield 21, 3) := by decide +kernel
theorem dX3_recall_39 : decode cX3_recall 39 = .ok (.return_, 1) := by decide +kernel
theorem dX4_init_0 : decode cX4_init 0 = .ok (.aload_n 0, 1) := by decide +kernel
theorem dX4_init_1 : decode cX4_init 1 = .ok (.invokespecial 3, 3) := by decide +kernel
theorem dX4_init_4 : decode cX4_init 4 = .ok (.aload_n 0, 1) := by decide +kernel
theorem dX4_init_5 : decode cX4_init 5 = .ok (.bipush 60, 2) := by decide +kernel
theorem dX4_init_7 : decode cX4_init 7 = .ok (.newarray .char, 2) := by decide +kernel
theorem dX4_init_9 : decode cX4_init 9 = .ok (.putfield 9, 3) := by decide +kernel
theorem dX4_init_12 : decode cX4_init 12 = .ok (.aload_n 0, 1) := by decide +kernel
theorem dX4_init_13 : decode cX4_init 13 = .ok (.iconst 0, 1) := by decide +kernel
theorem dX4_init_14 : decode cX4_init 14 = .ok (.putfield 15, 3) := by decide +kernel
theorem dX4_init_17 : decode cX4_init 17 = .ok (.aload_n 0, 1) := by decide +kernel
theorem dX4_init_18 : decode cX4_init 18 = .ok (.iconst 0, 1) := by decide +kernel
theorem dX4_init_19 : decode cX4_init 19 = .ok (.putfield 19, 3) := by decide +kernel
theorem dX4_init_22 : decode cX4_init 22 = .ok (.aload_n 0, 1) := by decide +kernel
theorem dX4_init_23 : decode cX4_init 23 = .ok (.iconst 0, 1) := by decide +kernel
theorem dX4_init_24 : decode cX4_init 24 = .ok (.putfield 22, 3) := by decide +kernel
theorem dX4_init_27 : decode cX4_init 27 = .ok (.aload_n 0, 1) := by decide +kernel
theorem dX4_init_28 : decode cX4_init 28 = .ok (.iconst 0, 1) := by decide +kernel
theorem dX4_init_29 : decode cX4_init 29 = .ok (.putfield 26, 3) := by decide +kernel
theorem dX4_init_32 : decode cX4_init 32 = .ok (.aload_n 0, 1) := by decide +kernel
theorem dX4_init_33 : decode cX4_init 33 = .ok (.bipush 13, 2) := by decide +kernel
theorem dX4_init_35 : decode cX4_init 35 = .ok (.newarray .int, 2) := by decide +kernel
theorem dX4_init_37 : decode cX4_init 37 = .ok (.putfield 29, 3) := by decide +kernel
theorem dX4_init_40 : decode cX4_init 40 = .ok (.aload_n 0, 1) := by decide +kernel
theorem dX4_init_41 : decode cX4_init 41 = .ok (.bipush 13, 2) := by decide +kernel
theorem dX4_init_43 : decode cX4_init 43 = .ok (.newarray .int, 2) := by decide +kernel
theorem dX4_init_45 : decode cX4_init 45 = .ok (.putfield 33, 3) := by decide +kernel
theorem dX4_init_48 : decode cX4_init 48 = .ok (.aload_n 0, 1) := by decide +kernel
theorem dX4_init_49 : decode cX4_init 49 = .ok (.bipush 13, 2) := by decide +kernel
theorem dX4_init_51 : decode cX4_init 51 = .ok (.newarray .int, 2) := by decide +kernel
theorem dX4_init_53 : decode cX4_init 53 = .ok (.putfield 36, 3) := by decide +kernel
theorem dX4_init_56 : decode cX4_init 56 = .ok (.aload_n 0, 1) := by decide +kernel
theorem dX4_init_57 : decode cX4_init 57 = .ok (.bipush 13, 2) := by decide +kernel
theorem dX4_init_59 : decode cX4_init 59 = .ok (.newarray .int, 2) := by decide +kernel
theorem dX4_init_61 : decode cX4_init 61 = .ok (.putfield 39, 3) := by decide +kernel
theorem dX4_init_64 : decode cX4_init 64 = .ok (.return_, 1) := by decide +kernel
theorem dX4_append_0 : decode cX4_append 0 = .ok (.aload_n 0, 1) := by decide +kernel
theorem dX4_append_1 : decode cX4_append 1 = .ok (.getfield 9, 3) := by decide +kernel
theorem dX4_append_4 : decode cX4_append 4 = .ok (.aload_n 0, 1) := by decide +kernel
theorem dX4_append_5 : decode cX4_append 5 = .ok (.getfield 15, 3) := by decide +kernel
theorem dX4_append_8 : decode cX4_append 8 = .ok (.iload_n 1, 1) := by decide +kernel
theorem dX4_append_9 : decode cX4_append 9 = .ok (.castore, 1) := by decide +kernel
theorem dX4_append_10 : decode cX4_append 10 = .ok (.aload_n 0, 1) := by decide +kernel
theorem dX4_append_11 : decode cX4_append 11 = .ok (.dup, 1) := by decide +kernel
theorem dX4_append_12 : decode cX4_append 12 = .ok (.getfield 15, 3) := by decide +kernel
theorem dX4_append_15 : decode cX4_append 15 = .ok (.iconst 1, 1) := by decide +kernel
theorem dX4_append_16 : decode cX4_append 16 = .ok (.iadd, 1) := by decide +kernel
theorem dX4_append_17 : decode cX4_append 17 = .ok (.putfield 15, 3) := by decide +kernel
theorem dX4_append_20 : decode cX4_append 20 = .ok (.return_, 1) := by decide +kernel
theorem dX4_empty_0 : decode cX4_empty 0 = .ok (.aload_n 0, 1) := by decide +kernel
theorem dX4_empty_1 : decode cX4_empty 1 = .ok (.iconst 0, 1) := by decide +kernel
theorem dX4_empty_2 : decode cX4_empty 2 = .ok (.putfield 15, 3) := by decide +kernel
theorem dX4_empty_5 : decode cX4_empty 5 = .ok (.return_, 1) := by decide +kernel
set_option maxRecDepth 20000 in
theorem ggX4_read_X4_readCommand : GoodIn wsX4_read wsX4_readCommand := goodIn_ca (goodIn_r _ [9, 2, 10, 11, 12, 8, 13, 1, 4, 14, 15, 16, 17, 18, 19, 20, 21, 22, 23, 24, 25, 26, 27, 28, 29, 30, 31, 32, 33, 34, 35, 36, 37, 38, 39, 40, 41, 42, 43, 44, 45, 46, 47, 48, 49, 50, 51, 52, 53, 54, 55, 56, 57, 58, 59, 60, 61, 62, 63, 64, 65, 66, 67, 68, 69, 70, 71, 72, 73, 74, 75, 3, 76, 77, 78, 79, 80, 81, 82, 83, 84, 85, 86, 87, 88, 89, 90, 91, 92, 93, 94, 95, 96, 97, 98, 99, 100, 101, 102, 103, 104, 105, 106, 107, 108, 109, 110, 111, 112, 113, 114, 115, 116, 117, 118, 119, 120, 121, 122, 123] (by decide +kernel) (by decide +kernel)) (goodIn_sub (fun _ h => List.mem_cons_of_mem _ (List.mem_append_right _ h)) (by decide +kernel))
set_option maxRecDepth 20000 in
theorem gX4_read_X4_readCommand : GoodIn wsX4_read (wsV RX4 42 RX4 yX4_readCommand wsX4_readCommand) := goodIn_app (goodIn_of _ (by decide +kernel)) ggX4_read_X4_readCommand
set_option maxRecDepth 20000 in
theorem ggX4_read_X4_readSign : GoodIn wsX4_read wsX4_readSign := goodIn_ca (goodIn_r _ [71, 2, 1, 10, 11, 12, 8, 13, 4, 14, 111, 112, 113, 114, 115, 116, 117, 118, 119] (by decide +kernel) (by decide +kernel)) (goodIn_sub (fun _ h => List.mem_cons_of_mem _ (List.mem_append_right _ h)) (by decide +kernel))
set_option maxRecDepth 20000 in
theorem gX4_read_X4_readSign : GoodIn wsX4_read (wsV RX4 45 RX4 yX4_readSign wsX4_readSign) := goodIn_app (goodIn_of _ (by decide +kernel)) ggX4_read_X4_readSign
theorem dX4_read_0 : decode cX4_read 0 = .ok (.aload_n 0, 1) := by decide +kernel
theorem dX4_read_1 : decode cX4_read 1 = .ok (.iconst 0, 1) := by decide +kernel
theorem dX4_read_2 : decode cX4_read 2 = .ok (.putfield 19, 3) := by decide +kernel
theorem dX4_read_5 : decode cX4_read 5 = .ok (.aload_n 0, 1) := by decide +kernel
theorem dX4_read_6 : decode cX4_read 6 = .ok (.iconst 0, 1) := by decide +kernel
theorem dX4_read_7 : decode cX4_read 7 = .ok (.putfield 22, 3) := by decide +kernel
theorem dX4_read_10 : decode cX4_read 10 = .ok (.aload_n 0, 1) := by decide +kernel
theorem dX4_read_11 : decode cX4_read 11 = .ok (.iconst 0, 1) := by decide +kernel
theorem dX4_read_12 : decode cX4_read 12 = .ok (.putfield 26, 3) := by decide +kernel
theorem dX4_read_15 : decode cX4_read 15 = .ok (.iconst 1, 1) := by decide +kernel
theorem dX4_read_16 : decode cX4_read 16 = .ok (.istore_n 1, 1) := by decide +kernel
theorem dX4_read_17 : decode cX4_read 17 = .ok (.iconst 0, 1) := by decide +kernel
theorem dX4_read_18 : decode cX4_read 18 = .ok (.istore_n 2, 1) := by decide +kernel
theorem dX4_read_19 : decode cX4_read 19 = .ok (.iload_n 2, 1) := by decide +kernel
theorem dX4_read_20 : decode cX4_read 20 = .ok (.bipush 13, 2) := by decide +kernel
theorem dX4_read_22 : decode cX4_read 22 = .ok (.if_icmp .ge 61, 3) := by decide +kernel
theorem dX4_read_25 : decode cX4_read 25 = .ok (.iload_n 1, 1) := by decide +kernel
theorem dX4_read_26 : decode cX4_read 26 = .ok (.ifCond .eq 57, 3) := by decide +kernel
theorem dX4_read_29 : decode cX4_read 29 = .ok (.aload_n 0, 1) := by decide +kernel
theorem dX4_read_30 : decode cX4_read 30 = .ok (.invokevirtual 42, 3) := by decide +kernel
theorem dX4_read_33 : decode cX4_read 33 = .ok (.aload_n 0, 1) := by decide +kernel
theorem dX4_read_34 : decode cX4_read 34 = .ok (.getfield 19, 3) := by decide +kernel
theorem dX4_read_37 : decode cX4_read 37 = .ok (.aload_n 0, 1) := by decide +kernel
theorem dX4_read_38 : decode cX4_read 38 = .ok (.getfield 15, 3) := by decide +kernel
theorem dX4_read_41 : decode cX4_read 41 = .ok (.if_icmp .ge 7, 3) := by decide +kernel
theorem dX4_read_44 : decode cX4_read 44 = .ok (.iconst 1, 1) := by decide +kernel
theorem dX4_read_45 : decode cX4_read 45 = .ok (.goto 4, 3) := by decide +kernel
theorem dX4_read_48 : decode cX4_read 48 = .ok (.iconst 0, 1) := by decide +kernel
theorem dX4_read_49 : decode cX4_read 49 = .ok (.istore_n 1, 1) := by decide +kernel
theorem dX4_read_50 : decode cX4_read 50 = .ok (.iload_n 1, 1) := by decide +kernel
theorem dX4_read_51 : decode cX4_read 51 = .ok (.ifCond .eq 9, 3) := by decide +kernel
theorem dX4_read_54 : decode cX4_read 54 = .ok (.aload_n 0, 1) := by decide +kernel
theorem dX4_read_55 : decode cX4_read 55 = .ok (.bipush 59, 2) := by decide +kernel
theorem dX4_read_57 : decode cX4_read 57 = .ok (.invokevirtual 45, 3) := by decide +kernel
theorem dX4_read_60 : decode cX4_read 60 = .ok (.iload_n 1, 1) := by decide +kernel
theorem dX4_read_61 : decode cX4_read 61 = .ok (.ifCond .eq 14, 3) := by decide +kernel
theorem dX4_read_64 : decode cX4_read 64 = .ok (.aload_n 0, 1) := by decide +kernel
theorem dX4_read_65 : decode cX4_read 65 = .ok (.getfield 22, 3) := by decide +kernel
theorem dX4_read_68 : decode cX4_read 68 = .ok (.ifCond .ne 7, 3) := by decide +kernel
theorem dX4_read_71 : decode cX4_read 71 = .ok (.iconst 1, 1) := by decide +kernel
theorem dX4_read_72 : decode cX4_read 72 = .ok (.goto 4, 3) := by decide +kernel
theorem dX4_read_75 : decode cX4_read 75 = .ok (.iconst 0, 1) := by decide +kernel
theorem dX4_read_76 : decode cX4_read 76 = .ok (.istore_n 1, 1) := by decide +kernel
theorem dX4_read_77 : decode cX4_read 77 = .ok (.iinc 2 1, 3) := by decide +kernel
theorem dX4_read_80 : decode cX4_read 80 = .ok (.goto (-61), 3) := by decide +kernel
theorem dX4_read_83 : decode cX4_read 83 = .ok (.return_, 1) := by decide +kernel
set_option maxRecDepth 20000 in
theorem ggX4_readCommand_X4_peek : GoodIn wsX4_readCommand wsX4_peek := goodIn_ca (goodIn_r _ [6, 1, 7, 8, 9, 107, 108, 109, 110, 111, 112, 113, 114, 115] (by decide +kernel) (by decide +kernel)) (goodIn_sub (fun _ h => List.mem_cons_of_mem _ (List.mem_append_right _ h)) (by decide +kernel))
set_option maxRecDepth 20000 in
theorem gX4_readCommand_X4_peek : GoodIn wsX4_readCommand (wsV RX4 49 RX4 yX4_peek wsX4_peek) := goodIn_app (goodIn_of _ (by decide +kernel)) ggX4_readCommand_X4_peek
set_option maxRecDepth 20000 in
theorem ggX4_readCommand_X4_readWord : GoodIn wsX4_readCommand wsX4_readWord := goodIn_ca (goodIn_r _ [13, 14, 15, 16, 17, 18, 19, 20, 21, 22, 23, 24, 25, 26, 27, 28, 29, 30, 31, 32, 33, 34, 35, 36, 37, 38, 39, 40, 41, 42, 43, 44, 45, 46, 47, 48, 49, 50, 51, 52, 53, 54, 55, 56, 57, 58, 59, 60, 61, 62, 63, 64, 65, 5, 66, 1, 7, 2, 3, 4, 6, 8, 9, 116, 117, 118, 119, 107, 108, 109, 110, 111, 112, 113, 114, 115] (by decide +kernel) (by decide +kernel)) (goodIn_sub (fun _ h => List.mem_cons_of_mem _ (List.mem_append_right _ h)) (by decide +kernel))
set_option maxRecDepth 20000 in
theorem gX4_readCommand_X4_readWord : GoodIn wsX4_readCommand (wsV RX4 55 RX4 yX4_readWord wsX4_readWord) := goodIn_app (goodIn_of _ (by decide +kernel)) ggX4_readCommand_X4_readWord
set_option maxRecDepth 20000 in
theorem ggX4_readCommand_X4_addCommand : GoodIn wsX4_readCommand wsX4_addCommand := goodIn_ca (goodIn_r _ [70, 1, 71, 72, 73, 74, 75, 107, 108, 109, 110, 111, 112, 113, 114, 115] (by decide +kernel) (by decide +kernel)) (goodIn_sub (fun _ h => List.mem_cons_of_mem _ (List.mem_append_right _ h)) (by decide +kernel))
set_option maxRecDepth 20000 in
theorem gX4_readCommand_X4_addCommand : GoodIn wsX4_readCommand (wsV RX4 59 RX4 yX4_addCommand wsX4_addCommand) := goodIn_app (goodIn_of _ (by decide +kernel)) ggX4_readCommand_X4_addCommand
set_option maxRecDepth 20000 in
theorem ggX4_readCommand_X4_readSign : GoodIn wsX4_readCommand wsX4_readSign := goodIn_ca (goodIn_r _ [66, 1, 7, 2, 3, 4, 5, 6, 8, 9, 107, 108, 109, 110, 111, 112, 113, 114, 115] (by decide +kernel) (by decide +kernel)) (goodIn_sub (fun _ h => List.mem_cons_of_mem _ (List.mem_append_right _ h)) (by decide +kernel))
set_option maxRecDepth 20000 in
theorem gX4_readCommand_X4_readSign : GoodIn wsX4_readCommand (wsV RX4 45 RX4 yX4_readSign wsX4_readSign) := goodIn_app (goodIn_of _ (by decide +kernel)) ggX4_readCommand_X4_readSign
set_option maxRecDepth 20000 in
theorem ggX4_readCommand_X4_readTapOrTick : GoodIn wsX4_readCommand wsX4_readTapOrTick := goodIn_ca (goodIn_r _ [79, 2, 3, 4, 5, 6, 1, 7, 8, 9, 10, 11, 12, 13, 14, 15, 16, 17, 18, 19, 20, 21, 22, 23, 24, 25, 26, 27, 28, 29, 30, 31, 32, 33, 34, 35, 36, 37, 38, 39, 40, 41, 42, 43, 44, 45, 46, 47, 48, 49, 50, 51, 52, 53, 54, 55, 56, 57, 58, 59, 60, 61, 62, 63, 64, 65, 66, 80, 81, 82, 83, 84, 85, 86, 87, 88, 89, 90, 91, 92, 93, 94, 67, 68, 69, 70, 71, 72, 73, 74, 75, 107, 108, 109, 110, 111, 112, 113, 114, 115, 116, 117, 118, 119] (by decide +kernel) (by decide +kernel)) (goodIn_sub (fun _ h => List.mem_cons_of_mem _ (List.mem_append_right _ h)) (by decide +kernel))
set_option maxRecDepth 20000 in
theorem gX4_readCommand_X4_readTapOrTick : GoodIn wsX4_readCommand (wsV RX4 63 RX4 yX4_readTapOrTick wsX4_readTapOrTick) := goodIn_app (goodIn_of _ (by decide +kernel)) ggX4_readCommand_X4_readTapOrTick
set_option maxRecDepth 20000 in
theorem ggX4_readCommand_X4_readPlugOrPour : GoodIn wsX4_readCommand wsX4_readPlugOrPour := goodIn_ca (goodIn_r _ [98, 2, 3, 4, 5, 6, 1, 7, 8, 9, 10, 11, 12, 13, 14, 15, 16, 17, 18, 19, 20, 21, 22, 23, 24, 25, 26, 27, 28, 29, 30, 31, 32, 33, 34, 35, 36, 37, 38, 39, 40, 41, 42, 43, 44, 45, 46, 47, 48, 49, 50, 51, 52, 53, 54, 55, 56, 57, 58, 59, 60, 61, 62, 63, 64, 65, 66, 80, 81, 82, 83, 84, 85, 86, 99, 100, 101, 102, 67, 68, 69, 70, 71, 72, 73, 74, 75, 91, 92, 93, 94, 107, 108, 109, 110, 111, 112, 113, 114, 115, 116, 117, 118, 119] (by decide +kernel) (by decide +kernel)) (goodIn_sub (fun _ h => List.mem_cons_of_mem _ (List.mem_append_right _ h)) (by decide +kernel))
set_option maxRecDepth 20000 in
theorem gX4_readCommand_X4_readPlugOrPour : GoodIn wsX4_readCommand (wsV RX4 66 RX4 yX4_readPlugOrPour wsX4_readPlugOrPour) := goodIn_app (goodIn_of _ (by decide +kernel)) ggX4_readCommand_X4_readPlugOrPour
set_option maxRecDepth 20000 in
theorem ggX4_readCommand_X4_readDuck : GoodIn wsX4_readCommand wsX4_readDuck := goodIn_ca (goodIn_r _ [106, 10, 11, 12, 5, 13, 14, 15, 16, 17, 18, 19, 20, 21, 22, 23, 24, 25, 26, 27, 28, 29, 30, 31, 32, 33, 34, 35, 36, 37, 38, 39, 40, 41, 42, 43, 44, 45, 46, 47, 48, 49, 50, 51, 52, 53, 54, 55, 56, 57, 58, 59, 60, 61, 62, 63, 64, 65, 66, 1, 7, 2, 3, 4, 6, 8, 9, 80, 81, 82, 83, 84, 85, 86, 91, 92, 93, 94, 67, 68, 69, 70, 71, 72, 73, 74, 75, 116, 117, 118, 119, 107, 108, 109, 110, 111, 112, 113, 114, 115] (by decide +kernel) (by decide +kernel)) (goodIn_sub (fun _ h => List.mem_cons_of_mem _ (List.mem_append_right _ h)) (by decide +kernel))
set_option maxRecDepth 20000 in
theorem gX4_readCommand_X4_readDuck : GoodIn wsX4_readCommand (wsV RX4 69 RX4 yX4_readDuck wsX4_readDuck) := goodIn_app (goodIn_of _ (by decide +kernel)) ggX4_readCommand_X4_readDuck
set_option maxRecDepth 20000 in
theorem ggX4_readCommand_X4_readDigit : GoodIn wsX4_readCommand wsX4_readDigit := goodIn_ca (goodIn_r _ [83, 1, 7, 2, 3, 4, 5, 6, 8, 9, 84, 85, 86, 107, 108, 109, 110, 111, 112, 113, 114, 115] (by decide +kernel) (by decide +kernel)) (goodIn_sub (fun _ h => List.mem_cons_of_mem _ (List.mem_append_right _ h)) (by decide +kernel))
set_option maxRecDepth 20000 in
theorem gX4_readCommand_X4_readDigit : GoodIn wsX4_readCommand (wsV RX4 74 RX4 yX4_readDigit wsX4_readDigit) := goodIn_app (goodIn_of _ (by decide +kernel)) ggX4_readCommand_X4_readDigit
theorem dX4_readCommand_0 : decode cX4_readCommand 0 = .ok (.aload_n 0, 1) := by decide +kernel
theorem dX4_readCommand_1 : decode cX4_readCommand 1 = .ok (.invokevirtual 49, 3) := by decide +kernel
theorem dX4_readCommand_4 : decode cX4_readCommand 4 = .ok (.tableswitch 183 98 116 #[92, 183, 135, 183, 183, 183, 183, 183, 142, 183, 162, 183, 183, 183, 122, 183, 183, 183, 109], 92) := by decide +kernel
theorem dX4_readCommand_96 : decode cX4_readCommand 96 = .ok (.aload_n 0, 1) := by decide +kernel
theorem dX4_readCommand_97 : decode cX4_readCommand 97 = .ok (.ldc 53, 2) := by decide +kernel
theorem dX4_readCommand_99 : decode cX4_readCommand 99 = .ok (.invokevirtual 55, 3) := by decide +kernel
theorem dX4_readCommand_102 : decode cX4_readCommand 102 = .ok (.aload_n 0, 1) := by decide +kernel
theorem dX4_readCommand_103 : decode cX4_readCommand 103 = .ok (.iconst 0, 1) := by decide +kernel
theorem dX4_readCommand_104 : decode cX4_readCommand 104 = .ok (.iconst 0, 1) := by decide +kernel
theorem dX4_readCommand_105 : decode cX4_readCommand 105 = .ok (.iconst 0, 1) := by decide +kernel
theorem dX4_readCommand_106 : decode cX4_readCommand 106 = .ok (.iconst 0, 1) := by decide +kernel
theorem dX4_readCommand_107 : decode cX4_readCommand 107 = .ok (.invokevirtual 59, 3) := by decide +kernel
theorem dX4_readCommand_110 : decode cX4_readCommand 110 = .ok (.goto 82, 3) := by decide +kernel
theorem dX4_readCommand_113 : decode cX4_readCommand 113 = .ok (.aload_n 0, 1) := by decide +kernel
theorem dX4_readCommand_114 : decode cX4_readCommand 114 = .ok (.bipush 116, 2) := by decide +kernel
theorem dX4_readCommand_116 : decode cX4_readCommand 116 = .ok (.invokevirtual 45, 3) := by decide +kernel
theorem dX4_readCommand_119 : decode cX4_readCommand 119 = .ok (.aload_n 0, 1) := by decide +kernel
theorem dX4_readCommand_120 : decode cX4_readCommand 120 = .ok (.invokevirtual 63, 3) := by decide +kernel
theorem dX4_readCommand_123 : decode cX4_readCommand 123 = .ok (.goto 69, 3) := by decide +kernel
theorem dX4_readCommand_126 : decode cX4_readCommand 126 = .ok (.aload_n 0, 1) := by decide +kernel
theorem dX4_readCommand_127 : decode cX4_readCommand 127 = .ok (.bipush 112, 2) := by decide +kernel
theorem dX4_readCommand_129 : decode cX4_readCommand 129 = .ok (.invokevirtual 45, 3) := by decide +kernel
theorem dX4_readCommand_132 : decode cX4_readCommand 132 = .ok (.aload_n 0, 1) := by decide +kernel
theorem dX4_readCommand_133 : decode cX4_readCommand 133 = .ok (.invokevirtual 66, 3) := by decide +kernel
theorem dX4_readCommand_136 : decode cX4_readCommand 136 = .ok (.goto 56, 3) := by decide +kernel
theorem dX4_readCommand_139 : decode cX4_readCommand 139 = .ok (.aload_n 0, 1) := by decide +kernel
theorem dX4_readCommand_140 : decode cX4_readCommand 140 = .ok (.invokevirtual 69, 3) := by decide +kernel
theorem dX4_readCommand_143 : decode cX4_readCommand 143 = .ok (.goto 49, 3) := by decide +kernel
theorem dX4_readCommand_146 : decode cX4_readCommand 146 = .ok (.aload_n 0, 1) := by decide +kernel
theorem dX4_readCommand_147 : decode cX4_readCommand 147 = .ok (.ldc 72, 2) := by decide +kernel
theorem dX4_readCommand_149 : decode cX4_readCommand 149 = .ok (.invokevirtual 55, 3) := by decide +kernel
theorem dX4_readCommand_152 : decode cX4_readCommand 152 = .ok (.aload_n 0, 1) := by decide +kernel
theorem dX4_readCommand_153 : decode cX4_readCommand 153 = .ok (.iconst 5, 1) := by decide +kernel
theorem dX4_readCommand_154 : decode cX4_readCommand 154 = .ok (.aload_n 0, 1) := by decide +kernel
theorem dX4_readCommand_155 : decode cX4_readCommand 155 = .ok (.invokevirtual 74, 3) := by decide +kernel
theorem dX4_readCommand_158 : decode cX4_readCommand 158 = .ok (.iconst 0, 1) := by decide +kernel
theorem dX4_readCommand_159 : decode cX4_readCommand 159 = .ok (.iconst 0, 1) := by decide +kernel
theorem dX4_readCommand_160 : decode cX4_readCommand 160 = .ok (.invokevirtual 59, 3) := by decide +kernel
theorem dX4_readCommand_163 : decode cX4_readCommand 163 = .ok (.goto 29, 3) := by decide +kernel
theorem dX4_readCommand_166 : decode cX4_readCommand 166 = .ok (.aload_n 0, 1) := by decide +kernel
theorem dX4_readCommand_167 : decode cX4_readCommand 167 = .ok (.ldc 78, 2) := by decide +kernel
theorem dX4_readCommand_169 : decode cX4_readCommand 169 = .ok (.invokevirtual 55, 3) := by decide +kernel
theorem dX4_readCommand_172 : decode cX4_readCommand 172 = .ok (.aload_n 0, 1) := by decide +kernel
theorem dX4_readCommand_173 : decode cX4_readCommand 173 = .ok (.bipush 6, 2) := by decide +kernel
theorem dX4_readCommand_175 : decode cX4_readCommand 175 = .ok (.aload_n 0, 1) := by decide +kernel
theorem dX4_readCommand_176 : decode cX4_readCommand 176 = .ok (.invokevirtual 74, 3) := by decide +kernel
theorem dX4_readCommand_179 : decode cX4_readCommand 179 = .ok (.iconst 0, 1) := by decide +kernel
theorem dX4_readCommand_180 : decode cX4_readCommand 180 = .ok (.iconst 0, 1) := by decide +kernel
theorem dX4_readCommand_181 : decode cX4_readCommand 181 = .ok (.invokevirtual 59, 3) := by decide +kernel
theorem dX4_readCommand_184 : decode cX4_readCommand 184 = .ok (.goto 8, 3) := by decide +kernel
theorem dX4_readCommand_187 : decode cX4_readCommand 187 = .ok (.aload_n 0, 1) := by decide +kernel
theorem dX4_readCommand_188 : decode cX4_readCommand 188 = .ok (.iconst 1, 1) := by decide +kernel
theorem dX4_readCommand_189 : decode cX4_readCommand 189 = .ok (.putfield 22, 3) := by decide +kernel
theorem dX4_readCommand_192 : decode cX4_readCommand 192 = .ok (.return_, 1) := by decide +kernel
set_option maxRecDepth 20000 in
theorem ggX4_readTapOrTick_X4_peek : GoodIn wsX4_readTapOrTick wsX4_peek := goodIn_ca (goodIn_r _ [5, 6, 7, 8, 9, 91, 92, 93, 94, 95, 96, 97, 98, 99] (by decide +kernel) (by decide +kernel)) (goodIn_sub (fun _ h => List.mem_cons_of_mem _ (List.mem_append_right _ h)) (by decide +kernel))
set_option maxRecDepth 20000 in
theorem gX4_readTapOrTick_X4_peek : GoodIn wsX4_readTapOrTick (wsV RX4 49 RX4 yX4_peek wsX4_peek) := goodIn_app (goodIn_of _ (by decide +kernel)) ggX4_readTapOrTick_X4_peek
set_option maxRecDepth 20000 in
theorem ggX4_readTapOrTick_X4_readWord : GoodIn wsX4_readTapOrTick wsX4_readWord := goodIn_ca (goodIn_r _ [13, 14, 15, 16, 17, 18, 19, 20, 21, 22, 23, 24, 25, 26, 27, 28, 29, 30, 31, 32, 33, 34, 35, 36, 37, 38, 39, 40, 41, 42, 43, 44, 45, 46, 47, 48, 49, 50, 51, 52, 53, 54, 55, 56, 57, 58, 59, 60, 61, 62, 63, 64, 65, 4, 66, 6, 7, 1, 2, 3, 5, 8, 9, 100, 101, 102, 103, 91, 92, 93, 94, 95, 96, 97, 98, 99] (by decide +kernel) (by decide +kernel)) (goodIn_sub (fun _ h => List.mem_cons_of_mem _ (List.mem_append_right _ h)) (by decide +kernel))
set_option maxRecDepth 20000 in
theorem gX4_readTapOrTick_X4_readWord : GoodIn wsX4_readTapOrTick (wsV RX4 55 RX4 yX4_readWord wsX4_readWord) := goodIn_app (goodIn_of _ (by decide +kernel)) ggX4_readTapOrTick_X4_readWord
set_option maxRecDepth 20000 in
theorem ggX4_readTapOrTick_X4_readDigit : GoodIn wsX4_readTapOrTick wsX4_readDigit := goodIn_ca (goodIn_r _ [70, 6, 7, 1, 2, 3, 4, 5, 8, 9, 71, 72, 73, 91, 92, 93, 94, 95, 96, 97, 98, 99] (by decide +kernel) (by decide +kernel)) (goodIn_sub (fun _ h => List.mem_cons_of_mem _ (List.mem_append_right _ h)) (by decide +kernel))
set_option maxRecDepth 20000 in
theorem gX4_readTapOrTick_X4_readDigit : GoodIn wsX4_readTapOrTick (wsV RX4 74 RX4 yX4_readDigit wsX4_readDigit) := goodIn_app (goodIn_of _ (by decide +kernel)) ggX4_readTapOrTick_X4_readDigit
set_option maxRecDepth 20000 in
theorem ggX4_readTapOrTick_X4_readSign : GoodIn wsX4_readTapOrTick wsX4_readSign := goodIn_ca (goodIn_r _ [66, 6, 7, 1, 2, 3, 4, 5, 8, 9, 91, 92, 93, 94, 95, 96, 97, 98, 99] (by decide +kernel) (by decide +kernel)) (goodIn_sub (fun _ h => List.mem_cons_of_mem _ (List.mem_append_right _ h)) (by decide +kernel))
set_option maxRecDepth 20000 in
theorem gX4_readTapOrTick_X4_readSign : GoodIn wsX4_readTapOrTick (wsV RX4 45 RX4 yX4_readSign wsX4_readSign) := goodIn_app (goodIn_of _ (by decide +kernel)) ggX4_readTapOrTick_X4_readSign
set_option maxRecDepth 20000 in
theorem ggX4_readTapOrTick_X4_readTapLetter : GoodIn wsX4_readTapOrTick wsX4_readTapLetter := goodIn_ca (goodIn_r _ [77, 1, 2, 3, 4, 5, 6, 7, 8, 9, 63, 64, 65, 66, 91, 92, 93, 94, 95, 96, 97, 98, 99] (by decide +kernel) (by decide +kernel)) (goodIn_sub (fun _ h => List.mem_cons_of_mem _ (List.mem_append_right _ h)) (by decide +kernel))
set_option maxRecDepth 20000 in
theorem gX4_readTapOrTick_X4_readTapLetter : GoodIn wsX4_readTapOrTick (wsV RX4 82 RX4 yX4_readTapLetter wsX4_readTapLetter) := goodIn_app (goodIn_of _ (by decide +kernel)) ggX4_readTapOrTick_X4_readTapLetter
set_option maxRecDepth 20000 in
theorem ggX4_readTapOrTick_X4_readNumber : GoodIn wsX4_readTapOrTick wsX4_readNumber := goodIn_ca (goodIn_r _ [81, 67, 68, 69, 4, 70, 6, 7, 1, 2, 3, 5, 8, 9, 71, 72, 73, 91, 92, 93, 94, 95, 96, 97, 98, 99] (by decide +kernel) (by decide +kernel)) (goodIn_sub (fun _ h => List.mem_cons_of_mem _ (List.mem_append_right _ h)) (by decide +kernel))
set_option maxRecDepth 20000 in
theorem gX4_readTapOrTick_X4_readNumber : GoodIn wsX4_readTapOrTick (wsV RX4 85 RX4 yX4_readNumber wsX4_readNumber) := goodIn_app (goodIn_of _ (by decide +kernel)) ggX4_readTapOrTick_X4_readNumber
set_option maxRecDepth 20000 in
theorem ggX4_readTapOrTick_X4_addCommand : GoodIn wsX4_readTapOrTick wsX4_addCommand := goodIn_ca (goodIn_r _ [85, 6, 86, 87, 88, 89, 90, 91, 92, 93, 94, 95, 96, 97, 98, 99] (by decide +kernel) (by decide +kernel)) (goodIn_sub (fun _ h => List.mem_cons_of_mem _ (List.mem_append_right _ h)) (by decide +kernel))
set_option maxRecDepth 20000 in
theorem gX4_readTapOrTick_X4_addCommand : GoodIn wsX4_readTapOrTick (wsV RX4 59 RX4 yX4_addCommand wsX4_addCommand) := goodIn_app (goodIn_of _ (by decide +kernel)) ggX4_readTapOrTick_X4_addCommand
theorem dX4_readTapOrTick_0 : decode cX4_readTapOrTick 0 = .ok (.aload_n 0, 1) := by decide +kernel
theorem dX4_readTapOrTick_1 : decode cX4_readTapOrTick 1 = .ok (.invokevirtual 49, 3) := by decide +kernel
theorem dX4_readTapOrTick_4 : decode cX4_readTapOrTick 4 = .ok (.bipush 97, 2) := by decide +kernel
theorem dX4_readTapOrTick_6 : decode cX4_readTapOrTick 6 = .ok (.if_icmp .ne 45, 3) := by decide +kernel
theorem dX4_readTapOrTick_9 : decode cX4_readTapOrTick 9 = .ok (.aload_n 0, 1) := by decide +kernel
theorem dX4_readTapOrTick_10 : decode cX4_readTapOrTick 10 = .ok (.ldc 80, 2) := by decide +kernel
theorem dX4_readTapOrTick_12 : decode cX4_readTapOrTick 12 = .ok (.invokevirtual 55, 3) := by decide +kernel
theorem dX4_readTapOrTick_15 : decode cX4_readTapOrTick 15 = .ok (.aload_n 0, 1) := by decide +kernel
theorem dX4_readTapOrTick_16 : decode cX4_readTapOrTick 16 = .ok (.invokevirtual 74, 3) := by decide +kernel
theorem dX4_readTapOrTick_19 : decode cX4_readTapOrTick 19 = .ok (.istore_n 1, 1) := by decide +kernel
theorem dX4_readTapOrTick_20 : decode cX4_readTapOrTick 20 = .ok (.aload_n 0, 1) := by decide +kernel
theorem dX4_readTapOrTick_21 : decode cX4_readTapOrTick 21 = .ok (.bipush 32, 2) := by decide +kernel
theorem dX4_readTapOrTick_23 : decode cX4_readTapOrTick 23 = .ok (.invokevirtual 45, 3) := by decide +kernel
theorem dX4_readTapOrTick_26 : decode cX4_readTapOrTick 26 = .ok (.aload_n 0, 1) := by decide +kernel
theorem dX4_readTapOrTick_27 : decode cX4_readTapOrTick 27 = .ok (.invokevirtual 82, 3) := by decide +kernel
theorem dX4_readTapOrTick_30 : decode cX4_readTapOrTick 30 = .ok (.istore_n 2, 1) := by decide +kernel
theorem dX4_readTapOrTick_31 : decode cX4_readTapOrTick 31 = .ok (.aload_n 0, 1) := by decide +kernel
theorem dX4_readTapOrTick_32 : decode cX4_readTapOrTick 32 = .ok (.bipush 32, 2) := by decide +kernel
theorem dX4_readTapOrTick_34 : decode cX4_readTapOrTick 34 = .ok (.invokevirtual 45, 3) := by decide +kernel
theorem dX4_readTapOrTick_37 : decode cX4_readTapOrTick 37 = .ok (.aload_n 0, 1) := by decide +kernel
theorem dX4_readTapOrTick_38 : decode cX4_readTapOrTick 38 = .ok (.iconst 1, 1) := by decide +kernel
theorem dX4_readTapOrTick_39 : decode cX4_readTapOrTick 39 = .ok (.iload_n 1, 1) := by decide +kernel
theorem dX4_readTapOrTick_40 : decode cX4_readTapOrTick 40 = .ok (.iload_n 2, 1) := by decide +kernel
theorem dX4_readTapOrTick_41 : decode cX4_readTapOrTick 41 = .ok (.aload_n 0, 1) := by decide +kernel
theorem dX4_readTapOrTick_42 : decode cX4_readTapOrTick 42 = .ok (.invokevirtual 85, 3) := by decide +kernel
theorem dX4_readTapOrTick_45 : decode cX4_readTapOrTick 45 = .ok (.invokevirtual 59, 3) := by decide +kernel
theorem dX4_readTapOrTick_48 : decode cX4_readTapOrTick 48 = .ok (.goto 40, 3) := by decide +kernel
theorem dX4_readTapOrTick_51 : decode cX4_readTapOrTick 51 = .ok (.aload_n 0, 1) := by decide +kernel
theorem dX4_readTapOrTick_52 : decode cX4_readTapOrTick 52 = .ok (.ldc 88, 2) := by decide +kernel
theorem dX4_readTapOrTick_54 : decode cX4_readTapOrTick 54 = .ok (.invokevirtual 55, 3) := by decide +kernel
theorem dX4_readTapOrTick_57 : decode cX4_readTapOrTick 57 = .ok (.iconst 1, 1) := by decide +kernel
theorem dX4_readTapOrTick_58 : decode cX4_readTapOrTick 58 = .ok (.istore_n 1, 1) := by decide +kernel
theorem dX4_readTapOrTick_59 : decode cX4_readTapOrTick 59 = .ok (.aload_n 0, 1) := by decide +kernel
theorem dX4_readTapOrTick_60 : decode cX4_readTapOrTick 60 = .ok (.invokevirtual 49, 3) := by decide +kernel
theorem dX4_readTapOrTick_63 : decode cX4_readTapOrTick 63 = .ok (.bipush 32, 2) := by decide +kernel
theorem dX4_readTapOrTick_65 : decode cX4_readTapOrTick 65 = .ok (.if_icmp .ne 14, 3) := by decide +kernel
theorem dX4_readTapOrTick_68 : decode cX4_readTapOrTick 68 = .ok (.aload_n 0, 1) := by decide +kernel
theorem dX4_readTapOrTick_69 : decode cX4_readTapOrTick 69 = .ok (.bipush 32, 2) := by decide +kernel
theorem dX4_readTapOrTick_71 : decode cX4_readTapOrTick 71 = .ok (.invokevirtual 45, 3) := by decide +kernel
theorem dX4_readTapOrTick_74 : decode cX4_readTapOrTick 74 = .ok (.aload_n 0, 1) := by decide +kernel
theorem dX4_readTapOrTick_75 : decode cX4_readTapOrTick 75 = .ok (.invokevirtual 85, 3) := by decide +kernel
theorem dX4_readTapOrTick_78 : decode cX4_readTapOrTick 78 = .ok (.istore_n 1, 1) := by decide +kernel
theorem dX4_readTapOrTick_79 : decode cX4_readTapOrTick 79 = .ok (.aload_n 0, 1) := by decide +kernel
theorem dX4_readTapOrTick_80 : decode cX4_readTapOrTick 80 = .ok (.bipush 7, 2) := by decide +kernel
theorem dX4_readTapOrTick_82 : decode cX4_readTapOrTick 82 = .ok (.iload_n 1, 1) := by decide +kernel
theorem dX4_readTapOrTick_83 : decode cX4_readTapOrTick 83 = .ok (.iconst 0, 1) := by decide +kernel
theorem dX4_readTapOrTick_84 : decode cX4_readTapOrTick 84 = .ok (.iconst 0, 1) := by decide +kernel
theorem dX4_readTapOrTick_85 : decode cX4_readTapOrTick 85 = .ok (.invokevirtual 59, 3) := by decide +kernel
theorem dX4_readTapOrTick_88 : decode cX4_readTapOrTick 88 = .ok (.return_, 1) := by decide +kernel
set_option maxRecDepth 20000 in
theorem ggX4_readPlugOrPour_X4_peek : GoodIn wsX4_readPlugOrPour wsX4_peek := goodIn_ca (goodIn_r _ [5, 6, 7, 8, 9, 91, 92, 93, 94, 95, 96, 97, 98, 99] (by decide +kernel) (by decide +kernel)) (goodIn_sub (fun _ h => List.mem_cons_of_mem _ (List.mem_append_right _ h)) (by decide +kernel))
set_option maxRecDepth 20000 in
theorem gX4_readPlugOrPour_X4_peek : GoodIn wsX4_readPlugOrPour (wsV RX4 49 RX4 yX4_peek wsX4_peek) := goodIn_app (goodIn_of _ (by decide +kernel)) ggX4_readPlugOrPour_X4_peek
set_option maxRecDepth 20000 in
theorem ggX4_readPlugOrPour_X4_readWord : GoodIn wsX4_readPlugOrPour wsX4_readWord := goodIn_ca (goodIn_r _ [13, 14, 15, 16, 17, 18, 19, 20, 21, 22, 23, 24, 25, 26, 27, 28, 29, 30, 31, 32, 33, 34, 35, 36, 37, 38, 39, 40, 41, 42, 43, 44, 45, 46, 47, 48, 49, 50, 51, 52, 53, 54, 55, 56, 57, 58, 59, 60, 61, 62, 63, 64, 65, 4, 66, 6, 7, 1, 2, 3, 5, 8, 9, 100, 101, 102, 103, 91, 92, 93, 94, 95, 96, 97, 98, 99] (by decide +kernel) (by decide +kernel)) (goodIn_sub (fun _ h => List.mem_cons_of_mem _ (List.mem_append_right _ h)) (by decide +kernel))
set_option maxRecDepth 20000 in
theorem gX4_readPlugOrPour_X4_readWord : GoodIn wsX4_readPlugOrPour (wsV RX4 55 RX4 yX4_readWord wsX4_readWord) := goodIn_app (goodIn_of _ (by decide +kernel)) ggX4_readPlugOrPour_X4_readWord
set_option maxRecDepth 20000 in
theorem ggX4_readPlugOrPour_X4_readDigit : GoodIn wsX4_readPlugOrPour wsX4_readDigit := goodIn_ca (goodIn_r _ [70, 6, 7, 1, 2, 3, 4, 5, 8, 9, 71, 72, 73, 91, 92, 93, 94, 95, 96, 97, 98, 99] (by decide +kernel) (by decide +kernel)) (goodIn_sub (fun _ h => List.mem_cons_of_mem _ (List.mem_append_right _ h)) (by decide +kernel))
set_option maxRecDepth 20000 in
theorem gX4_readPlugOrPour_X4_readDigit : GoodIn wsX4_readPlugOrPour (wsV RX4 74 RX4 yX4_readDigit wsX4_readDigit) := goodIn_app (goodIn_of _ (by decide +kernel)) ggX4_readPlugOrPour_X4_readDigit
set_option maxRecDepth 20000 in
theorem ggX4_readPlugOrPour_X4_readSign : GoodIn wsX4_readPlugOrPour wsX4_readSign := goodIn_ca (goodIn_r _ [66, 6, 7, 1, 2, 3, 4, 5, 8, 9, 91, 92, 93, 94, 95, 96, 97, 98, 99] (by decide +kernel) (by decide +kernel)) (goodIn_sub (fun _ h => List.mem_cons_of_mem _ (List.mem_append_right _ h)) (by decide +kernel))
set_option maxRecDepth 20000 in
theorem gX4_readPlugOrPour_X4_readSign : GoodIn wsX4_readPlugOrPour (wsV RX4 45 RX4 yX4_readSign wsX4_readSign) := goodIn_app (goodIn_of _ (by decide +kernel)) ggX4_readPlugOrPour_X4_readSign
set_option maxRecDepth 20000 in
theorem ggX4_readPlugOrPour_X4_readPlugSign : GoodIn wsX4_readPlugOrPour wsX4_readPlugSign := goodIn_ca (goodIn_r _ [77, 1, 2, 3, 4, 5, 6, 7, 8, 9, 63, 64, 65, 66, 91, 92, 93, 94, 95, 96, 97, 98, 99] (by decide +kernel) (by decide +kernel)) (goodIn_sub (fun _ h => List.mem_cons_of_mem _ (List.mem_append_right _ h)) (by decide +kernel))
set_option maxRecDepth 20000 in
theorem gX4_readPlugOrPour_X4_readPlugSign : GoodIn wsX4_readPlugOrPour (wsV RX4 92 RX4 yX4_readPlugSign wsX4_readPlugSign) := goodIn_app (goodIn_of _ (by decide +kernel)) ggX4_readPlugOrPour_X4_readPlugSign
set_option maxRecDepth 20000 in
theorem ggX4_readPlugOrPour_X4_addCommand : GoodIn wsX4_readPlugOrPour wsX4_addCommand := goodIn_ca (goodIn_r _ [81, 6, 82, 83, 84, 85, 86, 91, 92, 93, 94, 95, 96, 97, 98, 99] (by decide +kernel) (by decide +kernel)) (goodIn_sub (fun _ h => List.mem_cons_of_mem _ (List.mem_append_right _ h)) (by decide +kernel))
set_option maxRecDepth 20000 in
theorem gX4_readPlugOrPour_X4_addCommand : GoodIn wsX4_readPlugOrPour (wsV RX4 59 RX4 yX4_addCommand wsX4_addCommand) := goodIn_app (goodIn_of _ (by decide +kernel)) ggX4_readPlugOrPour_X4_addCommand
set_option maxRecDepth 20000 in
theorem ggX4_readPlugOrPour_X4_readNumber : GoodIn wsX4_readPlugOrPour wsX4_readNumber := goodIn_ca (goodIn_r _ [90, 67, 68, 69, 4, 70, 6, 7, 1, 2, 3, 5, 8, 9, 71, 72, 73, 91, 92, 93, 94, 95, 96, 97, 98, 99] (by decide +kernel) (by decide +kernel)) (goodIn_sub (fun _ h => List.mem_cons_of_mem _ (List.mem_append_right _ h)) (by decide +kernel))
set_option maxRecDepth 20000 in
theorem gX4_readPlugOrPour_X4_readNumber : GoodIn wsX4_readPlugOrPour (wsV RX4 85 RX4 yX4_readNumber wsX4_readNumber) := goodIn_app (goodIn_of _ (by decide +kernel)) ggX4_readPlugOrPour_X4_readNumber
theorem dX4_readPlugOrPour_0 : decode cX4_readPlugOrPour 0 = .ok (.aload_n 0, 1) := by decide +kernel
theorem dX4_readPlugOrPour_1 : decode cX4_readPlugOrPour 1 = .ok (.invokevirtual 49, 3) := by decide +kernel
theorem dX4_readPlugOrPour_4 : decode cX4_readPlugOrPour 4 = .ok (.bipush 108, 2) := by decide +kernel
theorem dX4_readPlugOrPour_6 : decode cX4_readPlugOrPour 6 = .ok (.if_icmp .ne 34, 3) := by decide +kernel
theorem dX4_readPlugOrPour_9 : decode cX4_readPlugOrPour 9 = .ok (.aload_n 0, 1) := by decide +kernel
theorem dX4_readPlugOrPour_10 : decode cX4_readPlugOrPour 10 = .ok (.ldc 90, 2) := by decide +kernel
theorem dX4_readPlugOrPour_12 : decode cX4_readPlugOrPour 12 = .ok (.invokevirtual 55, 3) := by decide +kernel
theorem dX4_readPlugOrPour_15 : decode cX4_readPlugOrPour 15 = .ok (.aload_n 0, 1) := by decide +kernel
theorem dX4_readPlugOrPour_16 : decode cX4_readPlugOrPour 16 = .ok (.invokevirtual 74, 3) := by decide +kernel
theorem dX4_readPlugOrPour_19 : decode cX4_readPlugOrPour 19 = .ok (.istore_n 1, 1) := by decide +kernel
theorem dX4_readPlugOrPour_20 : decode cX4_readPlugOrPour 20 = .ok (.aload_n 0, 1) := by decide +kernel
theorem dX4_readPlugOrPour_21 : decode cX4_readPlugOrPour 21 = .ok (.bipush 32, 2) := by decide +kernel
theorem dX4_readPlugOrPour_23 : decode cX4_readPlugOrPour 23 = .ok (.invokevirtual 45, 3) := by decide +kernel
theorem dX4_readPlugOrPour_26 : decode cX4_readPlugOrPour 26 = .ok (.aload_n 0, 1) := by decide +kernel
theorem dX4_readPlugOrPour_27 : decode cX4_readPlugOrPour 27 = .ok (.iconst 2, 1) := by decide +kernel
theorem dX4_readPlugOrPour_28 : decode cX4_readPlugOrPour 28 = .ok (.iload_n 1, 1) := by decide +kernel
theorem dX4_readPlugOrPour_29 : decode cX4_readPlugOrPour 29 = .ok (.aload_n 0, 1) := by decide +kernel
theorem dX4_readPlugOrPour_30 : decode cX4_readPlugOrPour 30 = .ok (.invokevirtual 92, 3) := by decide +kernel
theorem dX4_readPlugOrPour_33 : decode cX4_readPlugOrPour 33 = .ok (.iconst 0, 1) := by decide +kernel
theorem dX4_readPlugOrPour_34 : decode cX4_readPlugOrPour 34 = .ok (.invokevirtual 59, 3) := by decide +kernel
theorem dX4_readPlugOrPour_37 : decode cX4_readPlugOrPour 37 = .ok (.goto 42, 3) := by decide +kernel
theorem dX4_readPlugOrPour_40 : decode cX4_readPlugOrPour 40 = .ok (.aload_n 0, 1) := by decide +kernel
theorem dX4_readPlugOrPour_41 : decode cX4_readPlugOrPour 41 = .ok (.ldc 95, 2) := by decide +kernel
theorem dX4_readPlugOrPour_43 : decode cX4_readPlugOrPour 43 = .ok (.invokevirtual 55, 3) := by decide +kernel
theorem dX4_readPlugOrPour_46 : decode cX4_readPlugOrPour 46 = .ok (.aload_n 0, 1) := by decide +kernel
theorem dX4_readPlugOrPour_47 : decode cX4_readPlugOrPour 47 = .ok (.invokevirtual 74, 3) := by decide +kernel
theorem dX4_readPlugOrPour_50 : decode cX4_readPlugOrPour 50 = .ok (.istore_n 1, 1) := by decide +kernel
theorem dX4_readPlugOrPour_51 : decode cX4_readPlugOrPour 51 = .ok (.aload_n 0, 1) := by decide +kernel
theorem dX4_readPlugOrPour_52 : decode cX4_readPlugOrPour 52 = .ok (.bipush 32, 2) := by decide +kernel
theorem dX4_readPlugOrPour_54 : decode cX4_readPlugOrPour 54 = .ok (.invokevirtual 45, 3) := by decide +kernel
theorem dX4_readPlugOrPour_57 : decode cX4_readPlugOrPour 57 = .ok (.aload_n 0, 1) := by decide +kernel
theorem dX4_readPlugOrPour_58 : decode cX4_readPlugOrPour 58 = .ok (.invokevirtual 74, 3) := by decide +kernel
theorem dX4_readPlugOrPour_61 : decode cX4_readPlugOrPour 61 = .ok (.istore_n 2, 1) := by decide +kernel
theorem dX4_readPlugOrPour_62 : decode cX4_readPlugOrPour 62 = .ok (.aload_n 0, 1) := by decide +kernel
theorem dX4_readPlugOrPour_63 : decode cX4_readPlugOrPour 63 = .ok (.bipush 32, 2) := by decide +kernel
theorem dX4_readPlugOrPour_65 : decode cX4_readPlugOrPour 65 = .ok (.invokevirtual 45, 3) := by decide +kernel
theorem dX4_readPlugOrPour_68 : decode cX4_readPlugOrPour 68 = .ok (.aload_n 0, 1) := by decide +kernel
theorem dX4_readPlugOrPour_69 : decode cX4_readPlugOrPour 69 = .ok (.iconst 3, 1) := by decide +kernel
theorem dX4_readPlugOrPour_70 : decode cX4_readPlugOrPour 70 = .ok (.iload_n 1, 1) := by decide +kernel
theorem dX4_readPlugOrPour_71 : decode cX4_readPlugOrPour 71 = .ok (.iload_n 2, 1) := by decide +kernel
theorem dX4_readPlugOrPour_72 : decode cX4_readPlugOrPour 72 = .ok (.aload_n 0, 1) := by decide +kernel
theorem dX4_readPlugOrPour_73 : decode cX4_readPlugOrPour 73 = .ok (.invokevirtual 85, 3) := by decide +kernel
theorem dX4_readPlugOrPour_76 : decode cX4_readPlugOrPour 76 = .ok (.invokevirtual 59, 3) := by decide +kernel
theorem dX4_readPlugOrPour_79 : decode cX4_readPlugOrPour 79 = .ok (.return_, 1) := by decide +kernel
set_option maxRecDepth 20000 in
theorem ggX4_readDuck_X4_readWord : GoodIn wsX4_readDuck wsX4_readWord := goodIn_ca (goodIn_r _ [5, 6, 7, 8, 9, 10, 11, 12, 13, 14, 15, 16, 17, 18, 19, 20, 21, 22, 23, 24, 25, 26, 27, 28, 29, 30, 31, 32, 33, 34, 35, 36, 37, 38, 39, 40, 41, 42, 43, 44, 45, 46, 47, 48, 49, 50, 51, 52, 53, 54, 55, 56, 57, 4, 58, 59, 60, 61, 62, 63, 64, 65, 66, 87, 88, 89, 90, 91, 92, 93, 94, 95, 96, 97, 98, 99] (by decide +kernel) (by decide +kernel)) (goodIn_sub (fun _ h => List.mem_cons_of_mem _ (List.mem_append_right _ h)) (by decide +kernel))
set_option maxRecDepth 20000 in
theorem gX4_readDuck_X4_readWord : GoodIn wsX4_readDuck (wsV RX4 55 RX4 yX4_readWord wsX4_readWord) := goodIn_app (goodIn_of _ (by decide +kernel)) ggX4_readDuck_X4_readWord
set_option maxRecDepth 20000 in
theorem ggX4_readDuck_X4_readDigit : GoodIn wsX4_readDuck wsX4_readDigit := goodIn_ca (goodIn_r _ [70, 59, 60, 61, 62, 63, 4, 64, 65, 66, 71, 72, 73, 91, 92, 93, 94, 95, 96, 97, 98, 99] (by decide +kernel) (by decide +kernel)) (goodIn_sub (fun _ h => List.mem_cons_of_mem _ (List.mem_append_right _ h)) (by decide +kernel))
set_option maxRecDepth 20000 in
theorem gX4_readDuck_X4_readDigit : GoodIn wsX4_readDuck (wsV RX4 74 RX4 yX4_readDigit wsX4_readDigit) := goodIn_app (goodIn_of _ (by decide +kernel)) ggX4_readDuck_X4_readDigit
set_option maxRecDepth 20000 in
theorem ggX4_readDuck_X4_readSign : GoodIn wsX4_readDuck wsX4_readSign := goodIn_ca (goodIn_r _ [58, 59, 60, 61, 62, 63, 4, 64, 65, 66, 91, 92, 93, 94, 95, 96, 97, 98, 99] (by decide +kernel) (by decide +kernel)) (goodIn_sub (fun _ h => List.mem_cons_of_mem _ (List.mem_append_right _ h)) (by decide +kernel))
set_option maxRecDepth 20000 in
theorem gX4_readDuck_X4_readSign : GoodIn wsX4_readDuck (wsV RX4 45 RX4 yX4_readSign wsX4_readSign) := goodIn_app (goodIn_of _ (by decide +kernel)) ggX4_readDuck_X4_readSign
set_option maxRecDepth 20000 in
theorem ggX4_readDuck_X4_readNumber : GoodIn wsX4_readDuck wsX4_readNumber := goodIn_ca (goodIn_r _ [77, 67, 68, 69, 4, 70, 59, 60, 61, 62, 63, 64, 65, 66, 71, 72, 73, 91, 92, 93, 94, 95, 96, 97, 98, 99] (by decide +kernel) (by decide +kernel)) (goodIn_sub (fun _ h => List.mem_cons_of_mem _ (List.mem_append_right _ h)) (by decide +kernel))
set_option maxRecDepth 20000 in
theorem gX4_readDuck_X4_readNumber : GoodIn wsX4_readDuck (wsV RX4 85 RX4 yX4_readNumber wsX4_readNumber) := goodIn_app (goodIn_of _ (by decide +kernel)) ggX4_readDuck_X4_readNumber
set_option maxRecDepth 20000 in
theorem ggX4_readDuck_X4_addCommand : GoodIn wsX4_readDuck wsX4_addCommand := goodIn_ca (goodIn_r _ [81, 59, 82, 83, 84, 85, 86, 91, 92, 93, 94, 95, 96, 97, 98, 99] (by decide +kernel) (by decide +kernel)) (goodIn_sub (fun _ h => List.mem_cons_of_mem _ (List.mem_append_right _ h)) (by decide +kernel))
set_option maxRecDepth 20000 in
theorem gX4_readDuck_X4_addCommand : GoodIn wsX4_readDuck (wsV RX4 59 RX4 yX4_addCommand wsX4_addCommand) := goodIn_app (goodIn_of _ (by decide +kernel)) ggX4_readDuck_X4_addCommand
theorem dX4_readDuck_0 : decode cX4_readDuck 0 = .ok (.aload_n 0, 1) := by decide +kernel
theorem dX4_readDuck_1 : decode cX4_readDuck 1 = .ok (.ldc 97, 2) := by decide +kernel
theorem dX4_readDuck_3 : decode cX4_readDuck 3 = .ok (.invokevirtual 55, 3) := by decide +kernel
theorem dX4_readDuck_6 : decode cX4_readDuck 6 = .ok (.aload_n 0, 1) := by decide +kernel
theorem dX4_readDuck_7 : decode cX4_readDuck 7 = .ok (.invokevirtual 74, 3) := by decide +kernel
theorem dX4_readDuck_10 : decode cX4_readDuck 10 = .ok (.istore_n 1, 1) := by decide +kernel
theorem dX4_readDuck_11 : decode cX4_readDuck 11 = .ok (.aload_n 0, 1) := by decide +kernel
theorem dX4_readDuck_12 : decode cX4_readDuck 12 = .ok (.bipush 32, 2) := by decide +kernel
theorem dX4_readDuck_14 : decode cX4_readDuck 14 = .ok (.invokevirtual 45, 3) := by decide +kernel
theorem dX4_readDuck_17 : decode cX4_readDuck 17 = .ok (.aload_n 0, 1) := by decide +kernel
theorem dX4_readDuck_18 : decode cX4_readDuck 18 = .ok (.invokevirtual 85, 3) := by decide +kernel
theorem dX4_readDuck_21 : decode cX4_readDuck 21 = .ok (.istore_n 2, 1) := by decide +kernel
theorem dX4_readDuck_22 : decode cX4_readDuck 22 = .ok (.aload_n 0, 1) := by decide +kernel
theorem dX4_readDuck_23 : decode cX4_readDuck 23 = .ok (.bipush 32, 2) := by decide +kernel
theorem dX4_readDuck_25 : decode cX4_readDuck 25 = .ok (.invokevirtual 45, 3) := by decide +kernel
theorem dX4_readDuck_28 : decode cX4_readDuck 28 = .ok (.aload_n 0, 1) := by decide +kernel
theorem dX4_readDuck_29 : decode cX4_readDuck 29 = .ok (.iconst 4, 1) := by decide +kernel
theorem dX4_readDuck_30 : decode cX4_readDuck 30 = .ok (.iload_n 1, 1) := by decide +kernel
theorem dX4_readDuck_31 : decode cX4_readDuck 31 = .ok (.iload_n 2, 1) := by decide +kernel
theorem dX4_readDuck_32 : decode cX4_readDuck 32 = .ok (.aload_n 0, 1) := by decide +kernel
theorem dX4_readDuck_33 : decode cX4_readDuck 33 = .ok (.invokevirtual 85, 3) := by decide +kernel
theorem dX4_readDuck_36 : decode cX4_readDuck 36 = .ok (.invokevirtual 59, 3) := by decide +kernel
theorem dX4_readDuck_39 : decode cX4_readDuck 39 = .ok (.return_, 1) := by decide +kernel
set_option maxRecDepth 20000 in
theorem ggX4_readTapLetter_X4_peek : GoodIn wsX4_readTapLetter wsX4_peek := goodIn_ca (goodIn_r _ [5, 6, 7, 8, 9, 14, 15, 16, 17, 18, 19, 20, 21, 22] (by decide +kernel) (by decide +kernel)) (goodIn_sub (fun _ h => List.mem_cons_of_mem _ (List.mem_append_right _ h)) (by decide +kernel))
set_option maxRecDepth 20000 in
theorem gX4_readTapLetter_X4_peek : GoodIn wsX4_readTapLetter (wsV RX4 49 RX4 yX4_peek wsX4_peek) := goodIn_app (goodIn_of _ (by decide +kernel)) ggX4_readTapLetter_X4_peek
set_option maxRecDepth 20000 in
theorem ggX4_readTapLetter_X4_readSign : GoodIn wsX4_readTapLetter wsX4_readSign := goodIn_ca (goodIn_r _ [13, 6, 7, 1, 2, 3, 4, 5, 8, 9, 14, 15, 16, 17, 18, 19, 20, 21, 22] (by decide +kernel) (by decide +kernel)) (goodIn_sub (fun _ h => List.mem_cons_of_mem _ (List.mem_append_right _ h)) (by decide +kernel))
set_option maxRecDepth 20000 in
theorem gX4_readTapLetter_X4_readSign : GoodIn wsX4_readTapLetter (wsV RX4 45 RX4 yX4_readSign wsX4_readSign) := goodIn_app (goodIn_of _ (by decide +kernel)) ggX4_readTapLetter_X4_readSign
theorem dX4_readTapLetter_0 : decode cX4_readTapLetter 0 = .ok (.aload_n 0, 1) := by decide +kernel
theorem dX4_readTapLetter_1 : decode cX4_readTapLetter 1 = .ok (.invokevirtual 49, 3) := by decide +kernel
theorem dX4_readTapLetter_4 : decode cX4_readTapLetter 4 = .ok (.istore_n 1, 1) := by decide +kernel
theorem dX4_readTapLetter_5 : decode cX4_readTapLetter 5 = .ok (.iload_n 1, 1) := by decide +kernel
theorem dX4_readTapLetter_6 : decode cX4_readTapLetter 6 = .ok (.bipush 99, 2) := by decide +kernel
theorem dX4_readTapLetter_8 : decode cX4_readTapLetter 8 = .ok (.if_icmp .ne 11, 3) := by decide +kernel
theorem dX4_readTapLetter_11 : decode cX4_readTapLetter 11 = .ok (.aload_n 0, 1) := by decide +kernel
theorem dX4_readTapLetter_12 : decode cX4_readTapLetter 12 = .ok (.bipush 99, 2) := by decide +kernel
theorem dX4_readTapLetter_14 : decode cX4_readTapLetter 14 = .ok (.invokevirtual 45, 3) := by decide +kernel
theorem dX4_readTapLetter_17 : decode cX4_readTapLetter 17 = .ok (.iconst 0, 1) := by decide +kernel
theorem dX4_readTapLetter_18 : decode cX4_readTapLetter 18 = .ok (.ireturn, 1) := by decide +kernel
theorem dX4_readTapLetter_19 : decode cX4_readTapLetter 19 = .ok (.iload_n 1, 1) := by decide +kernel
theorem dX4_readTapLetter_20 : decode cX4_readTapLetter 20 = .ok (.bipush 119, 2) := by decide +kernel
theorem dX4_readTapLetter_22 : decode cX4_readTapLetter 22 = .ok (.if_icmp .ne 11, 3) := by decide +kernel
theorem dX4_readTapLetter_25 : decode cX4_readTapLetter 25 = .ok (.aload_n 0, 1) := by decide +kernel
theorem dX4_readTapLetter_26 : decode cX4_readTapLetter 26 = .ok (.bipush 119, 2) := by decide +kernel
theorem dX4_readTapLetter_28 : decode cX4_readTapLetter 28 = .ok (.invokevirtual 45, 3) := by decide +kernel
theorem dX4_readTapLetter_31 : decode cX4_readTapLetter 31 = .ok (.iconst 1, 1) := by decide +kernel
theorem dX4_readTapLetter_32 : decode cX4_readTapLetter 32 = .ok (.ireturn, 1) := by decide +kernel
theorem dX4_readTapLetter_33 : decode cX4_readTapLetter 33 = .ok (.aload_n 0, 1) := by decide +kernel
theorem dX4_readTapLetter_34 : decode cX4_readTapLetter 34 = .ok (.bipush 104, 2) := by decide +kernel
theorem dX4_readTapLetter_36 : decode cX4_readTapLetter 36 = .ok (.invokevirtual 45, 3) := by decide +kernel
theorem dX4_readTapLetter_39 : decode cX4_readTapLetter 39 = .ok (.iconst 2, 1) := by decide +kernel
theorem dX4_readTapLetter_40 : decode cX4_readTapLetter 40 = .ok (.ireturn, 1) := by decide +kernel
set_option maxRecDepth 20000 in
theorem ggX4_readPlugSign_X4_peek : GoodIn wsX4_readPlugSign wsX4_peek := goodIn_ca (goodIn_r _ [5, 6, 7, 8, 9, 14, 15, 16, 17, 18, 19, 20, 21, 22] (by decide +kernel) (by decide +kernel)) (goodIn_sub (fun _ h => List.mem_cons_of_mem _ (List.mem_append_right _ h)) (by decide +kernel))
set_option maxRecDepth 20000 in
theorem gX4_readPlugSign_X4_peek : GoodIn wsX4_readPlugSign (wsV RX4 49 RX4 yX4_peek wsX4_peek) := goodIn_app (goodIn_of _ (by decide +kernel)) ggX4_readPlugSign_X4_peek
set_option maxRecDepth 20000 in
theorem ggX4_readPlugSign_X4_readSign : GoodIn wsX4_readPlugSign wsX4_readSign := goodIn_ca (goodIn_r _ [13, 6, 7, 1, 2, 3, 4, 5, 8, 9, 14, 15, 16, 17, 18, 19, 20, 21, 22] (by decide +kernel) (by decide +kernel)) (goodIn_sub (fun _ h => List.mem_cons_of_mem _ (List.mem_append_right _ h)) (by decide +kernel))
set_option maxRecDepth 20000 in
theorem gX4_readPlugSign_X4_readSign : GoodIn wsX4_readPlugSign (wsV RX4 45 RX4 yX4_readSign wsX4_readSign) := goodIn_app (goodIn_of _ (by decide +kernel)) ggX4_readPlugSign_X4_readSign
theorem dX4_readPlugSign_0 : decode cX4_readPlugSign 0 = .ok (.aload_n 0, 1) := by decide +kernel
theorem dX4_readPlugSign_1 : decode cX4_readPlugSign 1 = .ok (.invokevirtual 49, 3) := by decide +kernel
theorem dX4_readPlugSign_4 : decode cX4_readPlugSign 4 = .ok (.bipush 43, 2) := by decide +kernel
theorem dX4_readPlugSign_6 : decode cX4_readPlugSign 6 = .ok (.if_icmp .ne 11, 3) := by decide +kernel
theorem dX4_readPlugSign_9 : decode cX4_readPlugSign 9 = .ok (.aload_n 0, 1) := by decide +kernel
theorem dX4_readPlugSign_10 : decode cX4_readPlugSign 10 = .ok (.bipush 43, 2) := by decide +kernel
theorem dX4_readPlugSign_12 : decode cX4_readPlugSign 12 = .ok (.invokevirtual 45, 3) := by decide +kernel
theorem dX4_readPlugSign_15 : decode cX4_readPlugSign 15 = .ok (.iconst 1, 1) := by decide +kernel
theorem dX4_readPlugSign_16 : decode cX4_readPlugSign 16 = .ok (.ireturn, 1) := by decide +kernel
theorem dX4_readPlugSign_17 : decode cX4_readPlugSign 17 = .ok (.aload_n 0, 1) := by decide +kernel
theorem dX4_readPlugSign_18 : decode cX4_readPlugSign 18 = .ok (.bipush 45, 2) := by decide +kernel
theorem dX4_readPlugSign_20 : decode cX4_readPlugSign 20 = .ok (.invokevirtual 45, 3) := by decide +kernel
theorem dX4_readPlugSign_23 : decode cX4_readPlugSign 23 = .ok (.iconst 0, 1) := by decide +kernel
theorem dX4_readPlugSign_24 : decode cX4_readPlugSign 24 = .ok (.ireturn, 1) := by decide +kernel
set_option maxRecDepth 20000 in
theorem ggX4_readNumber_X4_readDigit : GoodIn wsX4_readNumber wsX4_readDigit := goodIn_ca (goodIn_r _ [5, 6, 7, 8, 9, 10, 4, 11, 12, 13, 14, 15, 16, 17, 18, 19, 20, 21, 22, 23, 24, 25] (by decide +kernel) (by decide +kernel)) (goodIn_sub (fun _ h => List.mem_cons_of_mem _ (List.mem_append_right _ h)) (by decide +kernel))
set_option maxRecDepth 20000 in
theorem gX4_readNumber_X4_readDigit : GoodIn wsX4_readNumber (wsV RX4 74 RX4 yX4_readDigit wsX4_readDigit) := goodIn_app (goodIn_of _ (by decide +kernel)) ggX4_readNumber_X4_readDigit
set_option maxRecDepth 20000 in
theorem ggX4_readNumber_X4_peek : GoodIn wsX4_readNumber wsX4_peek := goodIn_ca (goodIn_r _ [11, 6, 7, 12, 13, 17, 18, 19, 20, 21, 22, 23, 24, 25] (by decide +kernel) (by decide +kernel)) (goodIn_sub (fun _ h => List.mem_cons_of_mem _ (List.mem_append_right _ h)) (by decide +kernel))
set_option maxRecDepth 20000 in
theorem gX4_readNumber_X4_peek : GoodIn wsX4_readNumber (wsV RX4 49 RX4 yX4_peek wsX4_peek) := goodIn_app (goodIn_of _ (by decide +kernel)) ggX4_readNumber_X4_peek
set_option maxRecDepth 20000 in
theorem ggX4_readNumber_X4_isDigit : GoodIn wsX4_readNumber wsX4_isDigit := goodIn_r _ [16] (by decide +kernel) (by decide +kernel)
set_option maxRecDepth 20000 in
theorem gX4_readNumber_X4_isDigit : GoodIn wsX4_readNumber (va_wsS RX4 99 yX4_isDigit wsX4_isDigit) := goodIn_app (goodIn_of _ (by decide +kernel)) ggX4_readNumber_X4_isDigit
theorem dX4_readNumber_0 : decode cX4_readNumber 0 = .ok (.aload_n 0, 1) := by decide +kernel
theorem dX4_readNumber_1 : decode cX4_readNumber 1 = .ok (.invokevirtual 74, 3) := by decide +kernel
theorem dX4_readNumber_4 : decode cX4_readNumber 4 = .ok (.istore_n 1, 1) := by decide +kernel
theorem dX4_readNumber_5 : decode cX4_readNumber 5 = .ok (.aload_n 0, 1) := by decide +kernel
theorem dX4_readNumber_6 : decode cX4_readNumber 6 = .ok (.invokevirtual 49, 3) := by decide +kernel
theorem dX4_readNumber_9 : decode cX4_readNumber 9 = .ok (.invokestatic 99, 3) := by decide +kernel
theorem dX4_readNumber_12 : decode cX4_readNumber 12 = .ok (.ifCond .eq 15, 3) := by decide +kernel
theorem dX4_readNumber_15 : decode cX4_readNumber 15 = .ok (.bipush 10, 2) := by decide +kernel
theorem dX4_readNumber_17 : decode cX4_readNumber 17 = .ok (.iload_n 1, 1) := by decide +kernel
theorem dX4_readNumber_18 : decode cX4_readNumber 18 = .ok (.imul, 1) := by decide +kernel
theorem dX4_readNumber_19 : decode cX4_readNumber 19 = .ok (.aload_n 0, 1) := by decide +kernel
theorem dX4_readNumber_20 : decode cX4_readNumber 20 = .ok (.invokevirtual 74, 3) := by decide +kernel
theorem dX4_readNumber_23 : decode cX4_readNumber 23 = .ok (.iadd, 1) := by decide +kernel
theorem dX4_readNumber_24 : decode cX4_readNumber 24 = .ok (.goto 4, 3) := by decide +kernel
theorem dX4_readNumber_27 : decode cX4_readNumber 27 = .ok (.iload_n 1, 1) := by decide +kernel
theorem dX4_readNumber_28 : decode cX4_readNumber 28 = .ok (.ireturn, 1) := by decide +kernel
set_option maxRecDepth 20000 in
theorem ggX4_readDigit_X4_peek : GoodIn wsX4_readDigit wsX4_peek := goodIn_ca (goodIn_r _ [7, 1, 2, 8, 9, 13, 14, 15, 16, 17, 18, 19, 20, 21] (by decide +kernel) (by decide +kernel)) (goodIn_sub (fun _ h => List.mem_cons_of_mem _ (List.mem_append_right _ h)) (by decide +kernel))
set_option maxRecDepth 20000 in
theorem gX4_readDigit_X4_peek : GoodIn wsX4_readDigit (wsV RX4 49 RX4 yX4_peek wsX4_peek) := goodIn_app (goodIn_of _ (by decide +kernel)) ggX4_readDigit_X4_peek
set_option maxRecDepth 20000 in
theorem ggX4_readDigit_X4_isDigit : GoodIn wsX4_readDigit wsX4_isDigit := goodIn_r _ [12] (by decide +kernel) (by decide +kernel)
set_option maxRecDepth 20000 in
theorem gX4_readDigit_X4_isDigit : GoodIn wsX4_readDigit (va_wsS RX4 99 yX4_isDigit wsX4_isDigit) := goodIn_app (goodIn_of _ (by decide +kernel)) ggX4_readDigit_X4_isDigit
theorem dX4_readDigit_0 : decode cX4_readDigit 0 = .ok (.aload_n 0, 1) := by decide +kernel
theorem dX4_readDigit_1 : decode cX4_readDigit 1 = .ok (.invokevirtual 49, 3) := by decide +kernel
theorem dX4_readDigit_4 : decode cX4_readDigit 4 = .ok (.istore_n 1, 1) := by decide +kernel
theorem dX4_readDigit_5 : decode cX4_readDigit 5 = .ok (.iload_n 1, 1) := by decide +kernel
theorem dX4_readDigit_6 : decode cX4_readDigit 6 = .ok (.invokestatic 99, 3) := by decide +kernel
theorem dX4_readDigit_9 : decode cX4_readDigit 9 = .ok (.ifCond .ne 10, 3) := by decide +kernel
theorem dX4_readDigit_12 : decode cX4_readDigit 12 = .ok (.aload_n 0, 1) := by decide +kernel
theorem dX4_readDigit_13 : decode cX4_readDigit 13 = .ok (.iconst 1, 1) := by decide +kernel
theorem dX4_readDigit_14 : decode cX4_readDigit 14 = .ok (.putfield 22, 3) := by decide +kernel
theorem dX4_readDigit_17 : decode cX4_readDigit 17 = .ok (.iconst 0, 1) := by decide +kernel
theorem dX4_readDigit_18 : decode cX4_readDigit 18 = .ok (.ireturn, 1) := by decide +kernel
theorem dX4_readDigit_19 : decode cX4_readDigit 19 = .ok (.aload_n 0, 1) := by decide +kernel
theorem dX4_readDigit_20 : decode cX4_readDigit 20 = .ok (.dup, 1) := by decide +kernel
theorem dX4_readDigit_21 : decode cX4_readDigit 21 = .ok (.getfield 19, 3) := by decide +kernel
theorem dX4_readDigit_24 : decode cX4_readDigit 24 = .ok (.iconst 1, 1) := by decide +kernel
theorem dX4_readDigit_25 : decode cX4_readDigit 25 = .ok (.iadd, 1) := by decide +kernel
theorem dX4_readDigit_26 : decode cX4_readDigit 26 = .ok (.putfield 19, 3) := by decide +kernel
theorem dX4_readDigit_29 : decode cX4_readDigit 29 = .ok (.iload_n 1, 1) := by decide +kernel
theorem dX4_readDigit_30 : decode cX4_readDigit 30 = .ok (.bipush 48, 2) := by decide +kernel
theorem dX4_readDigit_32 : decode cX4_readDigit 32 = .ok (.isub, 1) := by decide +kernel
theorem dX4_readDigit_33 : decode cX4_readDigit 33 = .ok (.ireturn, 1) := by decide +kernel
set_option maxRecDepth 20000 in
theorem ggX4_readWord_J0_length_8abf5 : GoodIn wsX4_readWord wsJ0_length_8abf5 := goodIn_r _ [5, 6, 7, 8, 9, 4, 10, 11, 12, 63, 64, 65, 66] (by decide +kernel) (by decide +kernel)
set_option maxRecDepth 20000 in
theorem gX4_readWord_J0_length_8abf5 : GoodIn wsX4_readWord (wsV RX4 103 RJ0 yJ0_length_8abf5 wsJ0_length_8abf5) := goodIn_app (goodIn_of _ (by decide +kernel)) ggX4_readWord_J0_length_8abf5
set_option maxRecDepth 20000 in
theorem ggX4_readWord_J0_charAt_5068e : GoodIn wsX4_readWord wsJ0_charAt_5068e := goodIn_r _ [16, 6, 17, 18, 19, 4, 20, 11, 12, 21, 22, 23, 24, 25, 26, 27, 28, 29, 30, 31, 32, 33, 34, 35, 36, 37, 38, 39, 40, 41, 42, 43, 44, 45, 46, 47, 48, 49, 63, 64, 65, 66] (by decide +kernel) (by decide +kernel)
set_option maxRecDepth 20000 in
theorem gX4_readWord_J0_charAt_5068e : GoodIn wsX4_readWord (wsV RX4 107 RJ0 yJ0_charAt_5068e wsJ0_charAt_5068e) := goodIn_app (goodIn_of _ (by decide +kernel)) ggX4_readWord_J0_charAt_5068e
set_option maxRecDepth 20000 in
theorem ggX4_readWord_X4_readSign : GoodIn wsX4_readWord wsX4_readSign := goodIn_ca (goodIn_r _ [54, 55, 56, 57, 58, 59, 53, 60, 61, 62, 67, 68, 69, 70, 71, 72, 73, 74, 75] (by decide +kernel) (by decide +kernel)) (goodIn_sub (fun _ h => List.mem_cons_of_mem _ (List.mem_append_right _ h)) (by decide +kernel))
set_option maxRecDepth 20000 in
theorem gX4_readWord_X4_readSign : GoodIn wsX4_readWord (wsV RX4 45 RX4 yX4_readSign wsX4_readSign) := goodIn_app (goodIn_of _ (by decide +kernel)) ggX4_readWord_X4_readSign
theorem dX4_readWord_0 : decode cX4_readWord 0 = .ok (.iconst 0, 1) := by decide +kernel
theorem dX4_readWord_1 : decode cX4_readWord 1 = .ok (.istore_n 2, 1) := by decide +kernel
theorem dX4_readWord_2 : decode cX4_readWord 2 = .ok (.iload_n 2, 1) := by decide +kernel
theorem dX4_readWord_3 : decode cX4_readWord 3 = .ok (.aload_n 1, 1) := by decide +kernel
theorem dX4_readWord_4 : decode cX4_readWord 4 = .ok (.invokevirtual 103, 3) := by decide +kernel
theorem dX4_readWord_7 : decode cX4_readWord 7 = .ok (.if_icmp .ge 18, 3) := by decide +kernel
theorem dX4_readWord_10 : decode cX4_readWord 10 = .ok (.aload_n 0, 1) := by decide +kernel
theorem dX4_readWord_11 : decode cX4_readWord 11 = .ok (.aload_n 1, 1) := by decide +kernel
theorem dX4_readWord_12 : decode cX4_readWord 12 = .ok (.iload_n 2, 1) := by decide +kernel
theorem dX4_readWord_13 : decode cX4_readWord 13 = .ok (.invokevirtual 107, 3) := by decide +kernel
theorem dX4_readWord_16 : decode cX4_readWord 16 = .ok (.invokevirtual 45, 3) := by decide +kernel
theorem dX4_readWord_19 : decode cX4_readWord 19 = .ok (.iinc 2 1, 3) := by decide +kernel
theorem dX4_readWord_22 : decode cX4_readWord 22 = .ok (.goto (-20), 3) := by decide +kernel
theorem dX4_readWord_25 : decode cX4_readWord 25 = .ok (.return_, 1) := by decide +kernel
set_option maxRecDepth 20000 in
theorem ggX4_readSign_X4_peek : GoodIn wsX4_readSign wsX4_peek := goodIn_ca (goodIn_r _ [7, 1, 2, 8, 9, 10, 11, 12, 13, 14, 15, 16, 17, 18] (by decide +kernel) (by decide +kernel)) (goodIn_sub (fun _ h => List.mem_cons_of_mem _ (List.mem_append_right _ h)) (by decide +kernel))
set_option maxRecDepth 20000 in
theorem gX4_readSign_X4_peek : GoodIn wsX4_readSign (wsV RX4 49 RX4 yX4_peek wsX4_peek) := goodIn_app (goodIn_of _ (by decide +kernel)) ggX4_readSign_X4_peek
theorem dX4_readSign_0 : decode cX4_readSign 0 = .ok (.aload_n 0, 1) := by decide +kernel
theorem dX4_readSign_1 : decode cX4_readSign 1 = .ok (.invokevirtual 49, 3) := by decide +kernel
theorem dX4_readSign_4 : decode cX4_readSign 4 = .ok (.iload_n 1, 1) := by decide +kernel
theorem dX4_readSign_5 : decode cX4_readSign 5 = .ok (.if_icmp .eq 8, 3) := by decide +kernel
theorem dX4_readSign_8 : decode cX4_readSign 8 = .ok (.aload_n 0, 1) := by decide +kernel
theorem dX4_readSign_9 : decode cX4_readSign 9 = .ok (.iconst 1, 1) := by decide +kernel
theorem dX4_readSign_10 : decode cX4_readSign 10 = .ok (.putfield 22, 3) := by decide +kernel
theorem dX4_readSign_13 : decode cX4_readSign 13 = .ok (.aload_n 0, 1) := by decide +kernel
theorem dX4_readSign_14 : decode cX4_readSign 14 = .ok (.getfield 22, 3) := by decide +kernel
theorem dX4_readSign_17 : decode cX4_readSign 17 = .ok (.ifCond .ne 13, 3) := by decide +kernel
theorem dX4_readSign_20 : decode cX4_readSign 20 = .ok (.aload_n 0, 1) := by decide +kernel
theorem dX4_readSign_21 : decode cX4_readSign 21 = .ok (.dup, 1) := by decide +kernel
theorem dX4_readSign_22 : decode cX4_readSign 22 = .ok (.getfield 19, 3) := by decide +kernel
theorem dX4_readSign_25 : decode cX4_readSign 25 = .ok (.iconst 1, 1) := by decide +kernel
theorem dX4_readSign_26 : decode cX4_readSign 26 = .ok (.iadd, 1) := by decide +kernel
theorem dX4_readSign_27 : decode cX4_readSign 27 = .ok (.putfield 19, 3) := by decide +kernel
theorem dX4_readSign_30 : decode cX4_readSign 30 = .ok (.return_, 1) := by decide +kernel
theorem dX4_peek_0 : decode cX4_peek 0 = .ok (.aload_n 0, 1) := by decide +kernel
theorem dX4_peek_1 : decode cX4_peek 1 = .ok (.getfield 22, 3) := by decide +kernel
theorem dX4_peek_4 : decode cX4_peek 4 = .ok (.ifCond .ne 26, 3) := by decide +kernel
theorem dX4_peek_7 : decode cX4_peek 7 = .ok (.aload_n 0, 1) := by decide +kernel
theorem dX4_peek_8 : decode cX4_peek 8 = .ok (.getfield 19, 3) := by decide +kernel
theorem dX4_peek_11 : decode cX4_peek 11 = .ok (.aload_n 0, 1) := by decide +kernel
theorem dX4_peek_12 : decode cX4_peek 12 = .ok (.getfield 15, 3) := by decide +kernel
theorem dX4_peek_15 : decode cX4_peek 15 = .ok (.if_icmp .ge 15, 3) := by decide +kernel
theorem dX4_peek_18 : decode cX4_peek 18 = .ok (.aload_n 0, 1) := by decide +kernel
theorem dX4_peek_19 : decode cX4_peek 19 = .ok (.getfield 9, 3) := by decide +kernel
theorem dX4_peek_22 : decode cX4_peek 22 = .ok (.aload_n 0, 1) := by decide +kernel
theorem dX4_peek_23 : decode cX4_peek 23 = .ok (.getfield 19, 3) := by decide +kernel
theorem dX4_peek_26 : decode cX4_peek 26 = .ok (.caload, 1) := by decide +kernel
theorem dX4_peek_27 : decode cX4_peek 27 = .ok (.goto 4, 3) := by decide +kernel
theorem dX4_peek_30 : decode cX4_peek 30 = .ok (.iconst 0, 1) := by decide +kernel
theorem dX4_peek_31 : decode cX4_peek 31 = .ok (.ireturn, 1) := by decide +kernel
theorem dX4_isDigit_0 : decode cX4_isDigit 0 = .ok (.iload_n 0, 1) := by decide +kernel
theorem dX4_isDigit_1 : decode cX4_isDigit 1 = .ok (.bipush 48, 2) := by decide +kernel
theorem dX4_isDigit_3 : decode cX4_isDigit 3 = .ok (.if_icmp .lt 13, 3) := by decide +kernel
theorem dX4_isDigit_6 : decode cX4_isDigit 6 = .ok (.iload_n 0, 1) := by decide +kernel
theorem dX4_isDigit_7 : decode cX4_isDigit 7 = .ok (.bipush 57, 2) := by decide +kernel
theorem dX4_isDigit_9 : decode cX4_isDigit 9 = .ok (.if_icmp .gt 7, 3) := by decide +kernel
theorem dX4_isDigit_12 : decode cX4_isDigit 12 = .ok (.iconst 1, 1) := by decide +kernel
theorem dX4_isDigit_13 : decode cX4_isDigit 13 = .ok (.goto 4, 3) := by decide +kernel
theorem dX4_isDigit_16 : decode cX4_isDigit 16 = .ok (.iconst 0, 1) := by decide +kernel
theorem dX4_isDigit_17 : decode cX4_isDigit 17 = .ok (.ireturn, 1) := by decide +kernel
theorem dX4_addCommand_0 : decode cX4_addCommand 0 = .ok (.aload_n 0, 1) := by decide +kernel
theorem dX4_addCommand_1 : decode cX4_addCommand 1 = .ok (.getfield 22, 3) := by decide +kernel
theorem dX4_addCommand_4 : decode cX4_addCommand 4 = .ok (.ifCond .ne 12, 3) := by decide +kernel
theorem dX4_addCommand_7 : decode cX4_addCommand 7 = .ok (.aload_n 0, 1) := by decide +kernel
theorem dX4_addCommand_8 : decode cX4_addCommand 8 = .ok (.getfield 26, 3) := by decide +kernel
theorem dX4_addCommand_11 : decode cX4_addCommand 11 = .ok (.bipush 13, 2) := by decide +kernel
theorem dX4_addCommand_13 : decode cX4_addCommand 13 = .ok (.if_icmp .lt 4, 3) := by decide +kernel
theorem dX4_addCommand_16 : decode cX4_addCommand 16 = .ok (.return_, 1) := by decide +kernel
theorem dX4_addCommand_17 : decode cX4_addCommand 17 = .ok (.aload_n 0, 1) := by decide +kernel
theorem dX4_addCommand_18 : decode cX4_addCommand 18 = .ok (.getfield 29, 3) := by decide +kernel
theorem dX4_addCommand_21 : decode cX4_addCommand 21 = .ok (.aload_n 0, 1) := by decide +kernel
theorem dX4_addCommand_22 : decode cX4_addCommand 22 = .ok (.getfield 26, 3) := by decide +kernel
theorem dX4_addCommand_25 : decode cX4_addCommand 25 = .ok (.iload_n 1, 1) := by decide +kernel
theorem dX4_addCommand_26 : decode cX4_addCommand 26 = .ok (.iastore, 1) := by decide +kernel
theorem dX4_addCommand_27 : decode cX4_addCommand 27 = .ok (.aload_n 0, 1) := by decide +kernel
theorem dX4_addCommand_28 : decode cX4_addCommand 28 = .ok (.getfield 33, 3) := by decide +kernel
theorem dX4_addCommand_31 : decode cX4_addCommand 31 = .ok (.aload_n 0, 1) := by decide +kernel
theorem dX4_addCommand_32 : decode cX4_addCommand 32 = .ok (.getfield 26, 3) := by decide +kernel
theorem dX4_addCommand_35 : decode cX4_addCommand 35 = .ok (.iload_n 2, 1) := by decide +kernel
theorem dX4_addCommand_36 : decode cX4_addCommand 36 = .ok (.iastore, 1) := by decide +kernel
theorem dX4_addCommand_37 : decode cX4_addCommand 37 = .ok (.aload_n 0, 1) := by decide +kernel
theorem dX4_addCommand_38 : decode cX4_addCommand 38 = .ok (.getfield 36, 3) := by decide +kernel
theorem dX4_addCommand_41 : decode cX4_addCommand 41 = .ok (.aload_n 0, 1) := by decide +kernel
theorem dX4_addCommand_42 : decode cX4_addCommand 42 = .ok (.getfield 26, 3) := by decide +kernel
theorem dX4_addCommand_45 : decode cX4_addCommand 45 = .ok (.iload_n 3, 1) := by decide +kernel
theorem dX4_addCommand_46 : decode cX4_addCommand 46 = .ok (.iastore, 1) := by decide +kernel
theorem dX4_addCommand_47 : decode cX4_addCommand 47 = .ok (.aload_n 0, 1) := by decide +kernel
theorem dX4_addCommand_48 : decode cX4_addCommand 48 = .ok (.getfield 39, 3) := by decide +kernel
theorem dX4_addCommand_51 : decode cX4_addCommand 51 = .ok (.aload_n 0, 1) := by decide +kernel
theorem dX4_addCommand_52 : decode cX4_addCommand 52 = .ok (.getfield 26, 3) := by decide +kernel
theorem dX4_addCommand_55 : decode cX4_addCommand 55 = .ok (.iload 4, 2) := by decide +kernel
theorem dX4_addCommand_57 : decode cX4_addCommand 57 = .ok (.iastore, 1) := by decide +kernel
theorem dX4_addCommand_58 : decode cX4_addCommand 58 = .ok (.aload_n 0, 1) := by decide +kernel
theorem dX4_addCommand_59 : decode cX4_addCommand 59 = .ok (.dup, 1) := by decide +kernel
theorem dX4_addCommand_60 : decode cX4_addCommand 60 = .ok (.getfield 26, 3) := by decide +kernel
theorem dX4_addCommand_63 : decode cX4_addCommand 63 = .ok (.iconst 1, 1) := by decide +kernel
theorem dX4_addCommand_64 : decode cX4_addCommand 64 = .ok (.iadd, 1) := by decide +kernel
theorem dX4_addCommand_65 : decode cX4_addCommand 65 = .ok (.putfield 26, 3) := by decide +kernel
theorem dX4_addCommand_68 : decode cX4_addCommand 68 = .ok (.return_, 1) := by decide +kernel
set_option maxRecDepth 20000 in
theorem ggX5_init_X0_init : GoodIn wsX5_init wsX0_init := goodIn_r _ [21, 22, 2, 3, 23, 24, 25, 26, 27, 28, 29, 56, 57, 58, 59, 60] (by decide +kernel) (by decide +kernel)
set_option maxRecDepth 20000 in
theorem gX5_init_X0_init_n11 : GoodIn wsX5_init (wsX0_init) := ggX5_init_X0_init
set_option maxRecDepth 20000 in
theorem ggX5_init_X1_init : GoodIn wsX5_init wsX1_init := goodIn_r _ [31, 32, 2, 3, 33, 24, 34, 35, 36, 37, 27, 38, 65, 66, 67, 68, 69, 70] (by decide +kernel) (by decide +kernel)
set_option maxRecDepth 20000 in
theorem gX5_init_X1_init_n20 : GoodIn wsX5_init (wsX1_init) := ggX5_init_X1_init
set_option maxRecDepth 20000 in
theorem ggX5_init_X2_init : GoodIn wsX5_init wsX2_init := goodIn_r _ [40, 41, 2, 3, 42, 43, 44, 24, 45, 46, 71, 72, 73, 74] (by decide +kernel) (by decide +kernel)
set_option maxRecDepth 20000 in
theorem gX5_init_X2_init_n27 : GoodIn wsX5_init (wsX2_init) := ggX5_init_X2_init
set_option maxRecDepth 20000 in
theorem ggX5_init_X6_init : GoodIn wsX5_init wsX6_init := goodIn_r _ [48, 49, 2, 3, 50, 51, 52, 53, 54, 55, 75, 76, 77, 78, 79, 80] (by decide +kernel) (by decide +kernel)
set_option maxRecDepth 20000 in
theorem gX5_init_X6_init_n34 : GoodIn wsX5_init (wsX6_init) := ggX5_init_X6_init
theorem dX5_init_0 : decode cX5_init 0 = .ok (.aload_n 0, 1) := by decide +kernel
theorem dX5_init_1 : decode cX5_init 1 = .ok (.invokespecial 3, 3) := by decide +kernel
theorem dX5_init_4 : decode cX5_init 4 = .ok (.aload_n 0, 1) := by decide +kernel
theorem dX5_init_5 : decode cX5_init 5 = .ok (.new 9, 3) := by decide +kernel
theorem dX5_init_8 : decode cX5_init 8 = .ok (.dup, 1) := by decide +kernel
theorem dX5_init_9 : decode cX5_init 9 = .ok (.invokespecial 11, 3) := by decide +kernel
theorem dX5_init_12 : decode cX5_init 12 = .ok (.putfield 12, 3) := by decide +kernel
theorem dX5_init_15 : decode cX5_init 15 = .ok (.aload_n 0, 1) := by decide +kernel
theorem dX5_init_16 : decode cX5_init 16 = .ok (.new 18, 3) := by decide +kernel
theorem dX5_init_19 : decode cX5_init 19 = .ok (.dup, 1) := by decide +kernel
theorem dX5_init_20 : decode cX5_init 20 = .ok (.invokespecial 20, 3) := by decide +kernel
theorem dX5_init_23 : decode cX5_init 23 = .ok (.putfield 21, 3) := by decide +kernel
theorem dX5_init_26 : decode cX5_init 26 = .ok (.aload_n 0, 1) := by decide +kernel
theorem dX5_init_27 : decode cX5_init 27 = .ok (.new 25, 3) := by decide +kernel
theorem dX5_init_30 : decode cX5_init 30 = .ok (.dup, 1) := by decide +kernel
theorem dX5_init_31 : decode cX5_init 31 = .ok (.invokespecial 27, 3) := by decide +kernel
theorem dX5_init_34 : decode cX5_init 34 = .ok (.putfield 28, 3) := by decide +kernel
theorem dX5_init_37 : decode cX5_init 37 = .ok (.aload_n 0, 1) := by decide +kernel
theorem dX5_init_38 : decode cX5_init 38 = .ok (.new 32, 3) := by decide +kernel
theorem dX5_init_41 : decode cX5_init 41 = .ok (.dup, 1) := by decide +kernel
theorem dX5_init_42 : decode cX5_init 42 = .ok (.invokespecial 34, 3) := by decide +kernel
theorem dX5_init_45 : decode cX5_init 45 = .ok (.putfield 35, 3) := by decide +kernel
theorem dX5_init_48 : decode cX5_init 48 = .ok (.return_, 1) := by decide +kernel
set_option maxRecDepth 20000 in
theorem ggX5_copyFrom_X0_copyFrom : GoodIn wsX5_copyFrom wsX0_copyFrom := goodIn_ca (goodIn_r _ [9, 10, 11, 12, 13, 14, 50, 51, 52, 53, 54] (by decide +kernel) (by decide +kernel)) (goodIn_sub (fun _ h => List.mem_cons_of_mem _ (List.mem_append_right _ h)) (by decide +kernel))
set_option maxRecDepth 20000 in
theorem gX5_copyFrom_X0_copyFrom : GoodIn wsX5_copyFrom (wsV RX5 39 RX0 yX0_copyFrom wsX0_copyFrom) := goodIn_app (goodIn_of _ (by decide +kernel)) ggX5_copyFrom_X0_copyFrom
set_option maxRecDepth 20000 in
theorem ggX5_copyFrom_X1_copyFrom : GoodIn wsX5_copyFrom wsX1_copyFrom := goodIn_ca (goodIn_r _ [19, 20, 21, 22, 23, 24, 25, 55, 56, 57, 58, 59, 60] (by decide +kernel) (by decide +kernel)) (goodIn_sub (fun _ h => List.mem_cons_of_mem _ (List.mem_append_right _ h)) (by decide +kernel))
set_option maxRecDepth 20000 in
theorem gX5_copyFrom_X1_copyFrom : GoodIn wsX5_copyFrom (wsV RX5 43 RX1 yX1_copyFrom wsX1_copyFrom) := goodIn_app (goodIn_of _ (by decide +kernel)) ggX5_copyFrom_X1_copyFrom
set_option maxRecDepth 20000 in
theorem ggX5_copyFrom_X2_copyFrom : GoodIn wsX5_copyFrom wsX2_copyFrom := goodIn_ca (goodIn_r _ [30, 31, 32, 33, 34, 61, 62, 63, 64] (by decide +kernel) (by decide +kernel)) (goodIn_sub (fun _ h => List.mem_cons_of_mem _ (List.mem_append_right _ h)) (by decide +kernel))
set_option maxRecDepth 20000 in
theorem gX5_copyFrom_X2_copyFrom : GoodIn wsX5_copyFrom (wsV RX5 46 RX2 yX2_copyFrom wsX2_copyFrom) := goodIn_app (goodIn_of _ (by decide +kernel)) ggX5_copyFrom_X2_copyFrom
set_option maxRecDepth 20000 in
theorem ggX5_copyFrom_X6_copyFrom : GoodIn wsX5_copyFrom wsX6_copyFrom := goodIn_r _ [39, 40, 41, 42, 43, 44, 45, 65, 66, 67, 68, 69, 70] (by decide +kernel) (by decide +kernel)
set_option maxRecDepth 20000 in
theorem gX5_copyFrom_X6_copyFrom : GoodIn wsX5_copyFrom (wsV RX5 49 RX6 yX6_copyFrom wsX6_copyFrom) := goodIn_app (goodIn_of _ (by decide +kernel)) ggX5_copyFrom_X6_copyFrom
theorem dX5_copyFrom_0 : decode cX5_copyFrom 0 = .ok (.aload_n 0, 1) := by decide +kernel
theorem dX5_copyFrom_1 : decode cX5_copyFrom 1 = .ok (.getfield 12, 3) := by decide +kernel
theorem dX5_copyFrom_4 : decode cX5_copyFrom 4 = .ok (.aload_n 1, 1) := by decide +kernel
theorem dX5_copyFrom_5 : decode cX5_copyFrom 5 = .ok (.getfield 12, 3) := by decide +kernel
theorem dX5_copyFrom_8 : decode cX5_copyFrom 8 = .ok (.invokevirtual 39, 3) := by decide +kernel
theorem dX5_copyFrom_11 : decode cX5_copyFrom 11 = .ok (.aload_n 0, 1) := by decide +kernel
theorem dX5_copyFrom_12 : decode cX5_copyFrom 12 = .ok (.getfield 21, 3) := by decide +kernel
theorem dX5_copyFrom_15 : decode cX5_copyFrom 15 = .ok (.aload_n 1, 1) := by decide +kernel
theorem dX5_copyFrom_16 : decode cX5_copyFrom 16 = .ok (.getfield 21, 3) := by decide +kernel
theorem dX5_copyFrom_19 : decode cX5_copyFrom 19 = .ok (.invokevirtual 43, 3) := by decide +kernel
theorem dX5_copyFrom_22 : decode cX5_copyFrom 22 = .ok (.aload_n 0, 1) := by decide +kernel
theorem dX5_copyFrom_23 : decode cX5_copyFrom 23 = .ok (.getfield 28, 3) := by decide +kernel
theorem dX5_copyFrom_26 : decode cX5_copyFrom 26 = .ok (.aload_n 1, 1) := by decide +kernel
theorem dX5_copyFrom_27 : decode cX5_copyFrom 27 = .ok (.getfield 28, 3) := by decide +kernel
theorem dX5_copyFrom_30 : decode cX5_copyFrom 30 = .ok (.invokevirtual 46, 3) := by decide +kernel
theorem dX5_copyFrom_33 : decode cX5_copyFrom 33 = .ok (.aload_n 0, 1) := by decide +kernel
theorem dX5_copyFrom_34 : decode cX5_copyFrom 34 = .ok (.getfield 35, 3) := by decide +kernel
theorem dX5_copyFrom_37 : decode cX5_copyFrom 37 = .ok (.aload_n 1, 1) := by decide +kernel
theorem dX5_copyFrom_38 : decode cX5_copyFrom 38 = .ok (.getfield 35, 3) := by decide +kernel
theorem dX5_copyFrom_41 : decode cX5_copyFrom 41 = .ok (.invokevirtual 49, 3) := by decide +kernel
theorem dX5_copyFrom_44 : decode cX5_copyFrom 44 = .ok (.return_, 1) := by decide +kernel
theorem dX5_placeBathFault_0 : decode cX5_placeBathFault 0 = .ok (.aload_n 0, 1) := by decide +kernel
theorem dX5_placeBathFault_1 : decode cX5_placeBathFault 1 = .ok (.getfield 12, 3) := by decide +kernel
theorem dX5_placeBathFault_4 : decode cX5_placeBathFault 4 = .ok (.getfield 52, 3) := by decide +kernel
theorem dX5_placeBathFault_7 : decode cX5_placeBathFault 7 = .ok (.iconst 5, 1) := by decide +kernel
theorem dX5_placeBathFault_8 : decode cX5_placeBathFault 8 = .ok (.if_icmp .lt 7, 3) := by decide +kernel
theorem dX5_placeBathFault_11 : decode cX5_placeBathFault 11 = .ok (.iconst 3, 1) := by decide +kernel
theorem dX5_placeBathFault_12 : decode cX5_placeBathFault 12 = .ok (.goto 4, 3) := by decide +kernel
theorem dX5_placeBathFault_15 : decode cX5_placeBathFault 15 = .ok (.iconst 0, 1) := by decide +kernel
theorem dX5_placeBathFault_16 : decode cX5_placeBathFault 16 = .ok (.ireturn, 1) := by decide +kernel
theorem dX5_placeBath_0 : decode cX5_placeBath 0 = .ok (.aload_n 0, 1) := by decide +kernel
theorem dX5_placeBath_1 : decode cX5_placeBath 1 = .ok (.getfield 12, 3) := by decide +kernel
theorem dX5_placeBath_4 : decode cX5_placeBath 4 = .ok (.getfield 52, 3) := by decide +kernel
theorem dX5_placeBath_7 : decode cX5_placeBath 7 = .ok (.istore_n 1, 1) := by decide +kernel
theorem dX5_placeBath_8 : decode cX5_placeBath 8 = .ok (.aload_n 0, 1) := by decide +kernel
theorem dX5_placeBath_9 : decode cX5_placeBath 9 = .ok (.getfield 12, 3) := by decide +kernel
theorem dX5_placeBath_12 : decode cX5_placeBath 12 = .ok (.getfield 56, 3) := by decide +kernel
theorem dX5_placeBath_15 : decode cX5_placeBath 15 = .ok (.iload_n 1, 1) := by decide +kernel
theorem dX5_placeBath_16 : decode cX5_placeBath 16 = .ok (.iconst 1, 1) := by decide +kernel
theorem dX5_placeBath_17 : decode cX5_placeBath 17 = .ok (.bastore, 1) := by decide +kernel
theorem dX5_placeBath_18 : decode cX5_placeBath 18 = .ok (.aload_n 0, 1) := by decide +kernel
theorem dX5_placeBath_19 : decode cX5_placeBath 19 = .ok (.getfield 12, 3) := by decide +kernel
theorem dX5_placeBath_22 : decode cX5_placeBath 22 = .ok (.dup, 1) := by decide +kernel
theorem dX5_placeBath_23 : decode cX5_placeBath 23 = .ok (.getfield 52, 3) := by decide +kernel
theorem dX5_placeBath_26 : decode cX5_placeBath 26 = .ok (.iconst 1, 1) := by decide +kernel
theorem dX5_placeBath_27 : decode cX5_placeBath 27 = .ok (.iadd, 1) := by decide +kernel
theorem dX5_placeBath_28 : decode cX5_placeBath 28 = .ok (.putfield 52, 3) := by decide +kernel
theorem dX5_placeBath_31 : decode cX5_placeBath 31 = .ok (.iload_n 1, 1) := by decide +kernel
theorem dX5_placeBath_32 : decode cX5_placeBath 32 = .ok (.ireturn, 1) := by decide +kernel
set_option maxRecDepth 20000 in
theorem ggX5_fillFault_X0_has : GoodIn wsX5_fillFault wsX0_has := goodIn_r _ [7, 8, 16, 17, 18, 19, 20] (by decide +kernel) (by decide +kernel)
set_option maxRecDepth 20000 in
theorem gX5_fillFault_X0_has : GoodIn wsX5_fillFault (wsV RX5 60 RX0 yX0_has wsX0_has) := goodIn_app (goodIn_of _ (by decide +kernel)) ggX5_fillFault_X0_has
set_option maxRecDepth 20000 in
theorem ggX5_fillFault_X7_isTap : GoodIn wsX5_fillFault wsX7_isTap := goodIn_r _ [11] (by decide +kernel) (by decide +kernel)
set_option maxRecDepth 20000 in
theorem gX5_fillFault_X7_isTap_n64 : GoodIn wsX5_fillFault (wsX7_isTap) := ggX5_fillFault_X7_isTap
theorem dX5_fillFault_0 : decode cX5_fillFault 0 = .ok (.aload_n 0, 1) := by decide +kernel
theorem dX5_fillFault_1 : decode cX5_fillFault 1 = .ok (.getfield 12, 3) := by decide +kernel
theorem dX5_fillFault_4 : decode cX5_fillFault 4 = .ok (.iload_n 1, 1) := by decide +kernel
theorem dX5_fillFault_5 : decode cX5_fillFault 5 = .ok (.invokevirtual 60, 3) := by decide +kernel
theorem dX5_fillFault_8 : decode cX5_fillFault 8 = .ok (.ifCond .ne 5, 3) := by decide +kernel
theorem dX5_fillFault_11 : decode cX5_fillFault 11 = .ok (.iconst 1, 1) := by decide +kernel
theorem dX5_fillFault_12 : decode cX5_fillFault 12 = .ok (.ireturn, 1) := by decide +kernel
theorem dX5_fillFault_13 : decode cX5_fillFault 13 = .ok (.iload_n 2, 1) := by decide +kernel
theorem dX5_fillFault_14 : decode cX5_fillFault 14 = .ok (.invokestatic 64, 3) := by decide +kernel
theorem dX5_fillFault_17 : decode cX5_fillFault 17 = .ok (.ifCond .eq 14, 3) := by decide +kernel
theorem dX5_fillFault_20 : decode cX5_fillFault 20 = .ok (.iload_n 3, 1) := by decide +kernel
theorem dX5_fillFault_21 : decode cX5_fillFault 21 = .ok (.iconst 1, 1) := by decide +kernel
theorem dX5_fillFault_22 : decode cX5_fillFault 22 = .ok (.if_icmp .lt 9, 3) := by decide +kernel
theorem dX5_fillFault_25 : decode cX5_fillFault 25 = .ok (.iload_n 3, 1) := by decide +kernel
theorem dX5_fillFault_26 : decode cX5_fillFault 26 = .ok (.bipush 20, 2) := by decide +kernel
theorem dX5_fillFault_28 : decode cX5_fillFault 28 = .ok (.if_icmp .le 5, 3) := by decide +kernel
theorem dX5_fillFault_31 : decode cX5_fillFault 31 = .ok (.iconst 2, 1) := by decide +kernel
theorem dX5_fillFault_32 : decode cX5_fillFault 32 = .ok (.ireturn, 1) := by decide +kernel
theorem dX5_fillFault_33 : decode cX5_fillFault 33 = .ok (.aload_n 0, 1) := by decide +kernel
theorem dX5_fillFault_34 : decode cX5_fillFault 34 = .ok (.getfield 12, 3) := by decide +kernel
theorem dX5_fillFault_37 : decode cX5_fillFault 37 = .ok (.getfield 67, 3) := by decide +kernel
theorem dX5_fillFault_40 : decode cX5_fillFault 40 = .ok (.iload_n 1, 1) := by decide +kernel
theorem dX5_fillFault_41 : decode cX5_fillFault 41 = .ok (.iaload, 1) := by decide +kernel
theorem dX5_fillFault_42 : decode cX5_fillFault 42 = .ok (.iload_n 3, 1) := by decide +kernel
theorem dX5_fillFault_43 : decode cX5_fillFault 43 = .ok (.iadd, 1) := by decide +kernel
theorem dX5_fillFault_44 : decode cX5_fillFault 44 = .ok (.bipush 100, 2) := by decide +kernel
theorem dX5_fillFault_46 : decode cX5_fillFault 46 = .ok (.if_icmp .le 7, 3) := by decide +kernel
theorem dX5_fillFault_49 : decode cX5_fillFault 49 = .ok (.iconst 5, 1) := by decide +kernel
theorem dX5_fillFault_50 : decode cX5_fillFault 50 = .ok (.goto 4, 3) := by decide +kernel
theorem dX5_fillFault_53 : decode cX5_fillFault 53 = .ok (.iconst 0, 1) := by decide +kernel
theorem dX5_fillFault_54 : decode cX5_fillFault 54 = .ok (.ireturn, 1) := by decide +kernel
set_option maxRecDepth 20000 in
theorem ggX5_fill_X2_note : GoodIn wsX5_fill wsX2_note := goodIn_ca (goodIn_r _ [13, 14, 15, 16, 17, 18, 19, 20, 21, 63, 64, 65, 66] (by decide +kernel) (by decide +kernel)) (goodIn_sub (fun _ h => List.mem_cons_of_mem _ (List.mem_append_left _ (List.mem_append_right _ h))) (by decide +kernel))
set_option maxRecDepth 20000 in
theorem gX5_fill_X2_note : GoodIn wsX5_fill (wsV RX5 83 RX2 yX2_note wsX2_note) := goodIn_app (goodIn_of _ (by decide +kernel)) ggX5_fill_X2_note
set_option maxRecDepth 20000 in
theorem ggX5_fill_X1_observe : GoodIn wsX5_fill wsX1_observe := goodIn_ca (goodIn_ca (goodIn_r _ [26, 27, 28, 29, 30, 31, 32, 25, 33, 34, 35, 36, 37, 38, 39, 40, 41, 42, 43, 44, 45, 46, 47, 67, 68, 69, 70, 71, 72, 52, 53, 54, 55, 56] (by decide +kernel) (by decide +kernel)) (goodIn_sub (fun _ h => List.mem_cons_of_mem _ (List.mem_append_left _ (List.mem_append_right _ h))) (by decide +kernel))) (goodIn_sub (fun _ h => List.mem_cons_of_mem _ (List.mem_append_right _ h)) (by decide +kernel))
set_option maxRecDepth 20000 in
theorem gX5_fill_X1_observe : GoodIn wsX5_fill (wsV RX5 87 RX1 yX1_observe wsX1_observe) := goodIn_app (goodIn_of _ (by decide +kernel)) ggX5_fill_X1_observe
theorem dX5_fill_0 : decode cX5_fill 0 = .ok (.iload_n 3, 1) := by decide +kernel
theorem dX5_fill_1 : decode cX5_fill 1 = .ok (.getstatic 71, 3) := by decide +kernel
theorem dX5_fill_4 : decode cX5_fill 4 = .ok (.iload_n 2, 1) := by decide +kernel
theorem dX5_fill_5 : decode cX5_fill 5 = .ok (.iaload, 1) := by decide +kernel
theorem dX5_fill_6 : decode cX5_fill 6 = .ok (.imul, 1) := by decide +kernel
theorem dX5_fill_7 : decode cX5_fill 7 = .ok (.istore 4, 2) := by decide +kernel
theorem dX5_fill_9 : decode cX5_fill 9 = .ok (.aload_n 0, 1) := by decide +kernel
theorem dX5_fill_10 : decode cX5_fill 10 = .ok (.getfield 12, 3) := by decide +kernel
theorem dX5_fill_13 : decode cX5_fill 13 = .ok (.getfield 67, 3) := by decide +kernel
theorem dX5_fill_16 : decode cX5_fill 16 = .ok (.iload_n 1, 1) := by decide +kernel
theorem dX5_fill_17 : decode cX5_fill 17 = .ok (.dup2, 1) := by decide +kernel
theorem dX5_fill_18 : decode cX5_fill 18 = .ok (.iaload, 1) := by decide +kernel
theorem dX5_fill_19 : decode cX5_fill 19 = .ok (.iload_n 3, 1) := by decide +kernel
theorem dX5_fill_20 : decode cX5_fill 20 = .ok (.iadd, 1) := by decide +kernel
theorem dX5_fill_21 : decode cX5_fill 21 = .ok (.iastore, 1) := by decide +kernel
theorem dX5_fill_22 : decode cX5_fill 22 = .ok (.aload_n 0, 1) := by decide +kernel
theorem dX5_fill_23 : decode cX5_fill 23 = .ok (.getfield 12, 3) := by decide +kernel
theorem dX5_fill_26 : decode cX5_fill 26 = .ok (.getfield 74, 3) := by decide +kernel
theorem dX5_fill_29 : decode cX5_fill 29 = .ok (.iload_n 1, 1) := by decide +kernel
theorem dX5_fill_30 : decode cX5_fill 30 = .ok (.dup2, 1) := by decide +kernel
theorem dX5_fill_31 : decode cX5_fill 31 = .ok (.iaload, 1) := by decide +kernel
theorem dX5_fill_32 : decode cX5_fill 32 = .ok (.iload 4, 2) := by decide +kernel
theorem dX5_fill_34 : decode cX5_fill 34 = .ok (.iadd, 1) := by decide +kernel
theorem dX5_fill_35 : decode cX5_fill 35 = .ok (.iastore, 1) := by decide +kernel
theorem dX5_fill_36 : decode cX5_fill 36 = .ok (.aload_n 0, 1) := by decide +kernel
theorem dX5_fill_37 : decode cX5_fill 37 = .ok (.getfield 35, 3) := by decide +kernel
theorem dX5_fill_40 : decode cX5_fill 40 = .ok (.dup, 1) := by decide +kernel
theorem dX5_fill_41 : decode cX5_fill 41 = .ok (.getfield 77, 3) := by decide +kernel
theorem dX5_fill_44 : decode cX5_fill 44 = .ok (.iload_n 3, 1) := by decide +kernel
theorem dX5_fill_45 : decode cX5_fill 45 = .ok (.iadd, 1) := by decide +kernel
theorem dX5_fill_46 : decode cX5_fill 46 = .ok (.putfield 77, 3) := by decide +kernel
theorem dX5_fill_49 : decode cX5_fill 49 = .ok (.aload_n 0, 1) := by decide +kernel
theorem dX5_fill_50 : decode cX5_fill 50 = .ok (.getfield 35, 3) := by decide +kernel
theorem dX5_fill_53 : decode cX5_fill 53 = .ok (.dup, 1) := by decide +kernel
theorem dX5_fill_54 : decode cX5_fill 54 = .ok (.getfield 80, 3) := by decide +kernel
theorem dX5_fill_57 : decode cX5_fill 57 = .ok (.iload 4, 2) := by decide +kernel
theorem dX5_fill_59 : decode cX5_fill 59 = .ok (.iadd, 1) := by decide +kernel
theorem dX5_fill_60 : decode cX5_fill 60 = .ok (.putfield 80, 3) := by decide +kernel
theorem dX5_fill_63 : decode cX5_fill 63 = .ok (.aload_n 0, 1) := by decide +kernel
theorem dX5_fill_64 : decode cX5_fill 64 = .ok (.getfield 28, 3) := by decide +kernel
theorem dX5_fill_67 : decode cX5_fill 67 = .ok (.bipush 116, 2) := by decide +kernel
theorem dX5_fill_69 : decode cX5_fill 69 = .ok (.iload_n 1, 1) := by decide +kernel
theorem dX5_fill_70 : decode cX5_fill 70 = .ok (.iload_n 3, 1) := by decide +kernel
theorem dX5_fill_71 : decode cX5_fill 71 = .ok (.invokevirtual 83, 3) := by decide +kernel
theorem dX5_fill_74 : decode cX5_fill 74 = .ok (.aload_n 0, 1) := by decide +kernel
theorem dX5_fill_75 : decode cX5_fill 75 = .ok (.getfield 21, 3) := by decide +kernel
theorem dX5_fill_78 : decode cX5_fill 78 = .ok (.aload_n 0, 1) := by decide +kernel
theorem dX5_fill_79 : decode cX5_fill 79 = .ok (.getfield 12, 3) := by decide +kernel
theorem dX5_fill_82 : decode cX5_fill 82 = .ok (.invokevirtual 87, 3) := by decide +kernel
theorem dX5_fill_85 : decode cX5_fill 85 = .ok (.return_, 1) := by decide +kernel
set_option maxRecDepth 20000 in
theorem ggX5_plugFault_X0_has : GoodIn wsX5_plugFault wsX0_has := goodIn_r _ [6, 7, 12, 13, 14, 15, 16] (by decide +kernel) (by decide +kernel)
set_option maxRecDepth 20000 in
theorem gX5_plugFault_X0_has : GoodIn wsX5_plugFault (wsV RX5 60 RX0 yX0_has wsX0_has) := goodIn_app (goodIn_of _ (by decide +kernel)) ggX5_plugFault_X0_has
theorem dX5_plugFault_0 : decode cX5_plugFault 0 = .ok (.aload_n 0, 1) := by decide +kernel
theorem dX5_plugFault_1 : decode cX5_plugFault 1 = .ok (.getfield 12, 3) := by decide +kernel
theorem dX5_plugFault_4 : decode cX5_plugFault 4 = .ok (.iload_n 1, 1) := by decide +kernel
theorem dX5_plugFault_5 : decode cX5_plugFault 5 = .ok (.invokevirtual 60, 3) := by decide +kernel
theorem dX5_plugFault_8 : decode cX5_plugFault 8 = .ok (.ifCond .eq 7, 3) := by decide +kernel
theorem dX5_plugFault_11 : decode cX5_plugFault 11 = .ok (.iconst 0, 1) := by decide +kernel
theorem dX5_plugFault_12 : decode cX5_plugFault 12 = .ok (.goto 4, 3) := by decide +kernel
theorem dX5_plugFault_15 : decode cX5_plugFault 15 = .ok (.iconst 1, 1) := by decide +kernel
theorem dX5_plugFault_16 : decode cX5_plugFault 16 = .ok (.ireturn, 1) := by decide +kernel
theorem dX5_plug_0 : decode cX5_plug 0 = .ok (.aload_n 0, 1) := by decide +kernel
theorem dX5_plug_1 : decode cX5_plug 1 = .ok (.getfield 12, 3) := by decide +kernel
theorem dX5_plug_4 : decode cX5_plug 4 = .ok (.getfield 56, 3) := by decide +kernel
theorem dX5_plug_7 : decode cX5_plug 7 = .ok (.iload_n 1, 1) := by decide +kernel
theorem dX5_plug_8 : decode cX5_plug 8 = .ok (.iload_n 2, 1) := by decide +kernel
theorem dX5_plug_9 : decode cX5_plug 9 = .ok (.bastore, 1) := by decide +kernel
theorem dX5_plug_10 : decode cX5_plug 10 = .ok (.return_, 1) := by decide +kernel
set_option maxRecDepth 20000 in
theorem ggX5_transferFault_X0_has : GoodIn wsX5_transferFault wsX0_has := goodIn_r _ [7, 8, 13, 14, 15, 16, 17] (by decide +kernel) (by decide +kernel)
set_option maxRecDepth 20000 in
theorem gX5_transferFault_X0_has : GoodIn wsX5_transferFault (wsV RX5 60 RX0 yX0_has wsX0_has) := goodIn_app (goodIn_of _ (by decide +kernel)) ggX5_transferFault_X0_has
theorem dX5_transferFault_0 : decode cX5_transferFault 0 = .ok (.aload_n 0, 1) := by decide +kernel
theorem dX5_transferFault_1 : decode cX5_transferFault 1 = .ok (.getfield 12, 3) := by decide +kernel
theorem dX5_transferFault_4 : decode cX5_transferFault 4 = .ok (.iload_n 1, 1) := by decide +kernel
theorem dX5_transferFault_5 : decode cX5_transferFault 5 = .ok (.invokevirtual 60, 3) := by decide +kernel
theorem dX5_transferFault_8 : decode cX5_transferFault 8 = .ok (.ifCond .eq 14, 3) := by decide +kernel
theorem dX5_transferFault_11 : decode cX5_transferFault 11 = .ok (.aload_n 0, 1) := by decide +kernel
theorem dX5_transferFault_12 : decode cX5_transferFault 12 = .ok (.getfield 12, 3) := by decide +kernel
theorem dX5_transferFault_15 : decode cX5_transferFault 15 = .ok (.iload_n 2, 1) := by decide +kernel
theorem dX5_transferFault_16 : decode cX5_transferFault 16 = .ok (.invokevirtual 60, 3) := by decide +kernel
theorem dX5_transferFault_19 : decode cX5_transferFault 19 = .ok (.ifCond .ne 5, 3) := by decide +kernel
theorem dX5_transferFault_22 : decode cX5_transferFault 22 = .ok (.iconst 1, 1) := by decide +kernel
theorem dX5_transferFault_23 : decode cX5_transferFault 23 = .ok (.ireturn, 1) := by decide +kernel
theorem dX5_transferFault_24 : decode cX5_transferFault 24 = .ok (.iload_n 1, 1) := by decide +kernel
theorem dX5_transferFault_25 : decode cX5_transferFault 25 = .ok (.iload_n 2, 1) := by decide +kernel
theorem dX5_transferFault_26 : decode cX5_transferFault 26 = .ok (.if_icmp .eq 14, 3) := by decide +kernel
theorem dX5_transferFault_29 : decode cX5_transferFault 29 = .ok (.iload_n 3, 1) := by decide +kernel
theorem dX5_transferFault_30 : decode cX5_transferFault 30 = .ok (.iconst 1, 1) := by decide +kernel
theorem dX5_transferFault_31 : decode cX5_transferFault 31 = .ok (.if_icmp .lt 9, 3) := by decide +kernel
theorem dX5_transferFault_34 : decode cX5_transferFault 34 = .ok (.iload_n 3, 1) := by decide +kernel
theorem dX5_transferFault_35 : decode cX5_transferFault 35 = .ok (.bipush 99, 2) := by decide +kernel
theorem dX5_transferFault_37 : decode cX5_transferFault 37 = .ok (.if_icmp .le 5, 3) := by decide +kernel
theorem dX5_transferFault_40 : decode cX5_transferFault 40 = .ok (.iconst 2, 1) := by decide +kernel
theorem dX5_transferFault_41 : decode cX5_transferFault 41 = .ok (.ireturn, 1) := by decide +kernel
theorem dX5_transferFault_42 : decode cX5_transferFault 42 = .ok (.aload_n 0, 1) := by decide +kernel
theorem dX5_transferFault_43 : decode cX5_transferFault 43 = .ok (.getfield 12, 3) := by decide +kernel
theorem dX5_transferFault_46 : decode cX5_transferFault 46 = .ok (.getfield 67, 3) := by decide +kernel
theorem dX5_transferFault_49 : decode cX5_transferFault 49 = .ok (.iload_n 1, 1) := by decide +kernel
theorem dX5_transferFault_50 : decode cX5_transferFault 50 = .ok (.iaload, 1) := by decide +kernel
theorem dX5_transferFault_51 : decode cX5_transferFault 51 = .ok (.iload_n 3, 1) := by decide +kernel
theorem dX5_transferFault_52 : decode cX5_transferFault 52 = .ok (.if_icmp .ge 5, 3) := by decide +kernel
theorem dX5_transferFault_55 : decode cX5_transferFault 55 = .ok (.iconst 4, 1) := by decide +kernel
theorem dX5_transferFault_56 : decode cX5_transferFault 56 = .ok (.ireturn, 1) := by decide +kernel
theorem dX5_transferFault_57 : decode cX5_transferFault 57 = .ok (.aload_n 0, 1) := by decide +kernel
theorem dX5_transferFault_58 : decode cX5_transferFault 58 = .ok (.getfield 12, 3) := by decide +kernel
theorem dX5_transferFault_61 : decode cX5_transferFault 61 = .ok (.getfield 67, 3) := by decide +kernel
theorem dX5_transferFault_64 : decode cX5_transferFault 64 = .ok (.iload_n 2, 1) := by decide +kernel
theorem dX5_transferFault_65 : decode cX5_transferFault 65 = .ok (.iaload, 1) := by decide +kernel
theorem dX5_transferFault_66 : decode cX5_transferFault 66 = .ok (.iload_n 3, 1) := by decide +kernel
theorem dX5_transferFault_67 : decode cX5_transferFault 67 = .ok (.iadd, 1) := by decide +kernel
theorem dX5_transferFault_68 : decode cX5_transferFault 68 = .ok (.bipush 100, 2) := by decide +kernel
theorem dX5_transferFault_70 : decode cX5_transferFault 70 = .ok (.if_icmp .le 7, 3) := by decide +kernel
theorem dX5_transferFault_73 : decode cX5_transferFault 73 = .ok (.iconst 5, 1) := by decide +kernel
theorem dX5_transferFault_74 : decode cX5_transferFault 74 = .ok (.goto 4, 3) := by decide +kernel
theorem dX5_transferFault_77 : decode cX5_transferFault 77 = .ok (.iconst 0, 1) := by decide +kernel
theorem dX5_transferFault_78 : decode cX5_transferFault 78 = .ok (.ireturn, 1) := by decide +kernel
set_option maxRecDepth 20000 in
theorem ggX5_transfer_X0_heatOf : GoodIn wsX5_transfer wsX0_heatOf := goodIn_ca (goodIn_ca (goodIn_r _ [10, 11, 12, 13, 14, 15, 9, 16, 55, 56, 57, 58, 59] (by decide +kernel) (by decide +kernel)) (goodIn_sub (fun _ h => List.mem_cons_of_mem _ (List.mem_append_left _ (List.mem_append_right _ h))) (by decide +kernel))) (goodIn_sub (fun _ h => List.mem_cons_of_mem _ (List.mem_append_right _ h)) (by decide +kernel))
set_option maxRecDepth 20000 in
theorem gX5_transfer_X0_heatOf : GoodIn wsX5_transfer (wsV RX5 90 RX0 yX0_heatOf wsX0_heatOf) := goodIn_app (goodIn_of _ (by decide +kernel)) ggX5_transfer_X0_heatOf
set_option maxRecDepth 20000 in
theorem ggX5_transfer_X2_note : GoodIn wsX5_transfer wsX2_note := goodIn_ca (goodIn_r _ [21, 22, 23, 24, 25, 26, 27, 28, 29, 60, 61, 62, 63] (by decide +kernel) (by decide +kernel)) (goodIn_sub (fun _ h => List.mem_cons_of_mem _ (List.mem_append_left _ (List.mem_append_right _ h))) (by decide +kernel))
set_option maxRecDepth 20000 in
theorem gX5_transfer_X2_note : GoodIn wsX5_transfer (wsV RX5 83 RX2 yX2_note wsX2_note) := goodIn_app (goodIn_of _ (by decide +kernel)) ggX5_transfer_X2_note
set_option maxRecDepth 20000 in
theorem ggX5_transfer_X1_observe : GoodIn wsX5_transfer wsX1_observe := goodIn_ca (goodIn_ca (goodIn_r _ [34, 35, 36, 37, 38, 39, 40, 33, 41, 42, 43, 44, 45, 46, 47, 48, 49, 50, 14, 15, 9, 16, 12, 64, 65, 66, 67, 68, 69, 55, 56, 57, 58, 59] (by decide +kernel) (by decide +kernel)) (goodIn_sub (fun _ h => List.mem_cons_of_mem _ (List.mem_append_left _ (List.mem_append_right _ h))) (by decide +kernel))) (goodIn_sub (fun _ h => List.mem_cons_of_mem _ (List.mem_append_right _ h)) (by decide +kernel))
set_option maxRecDepth 20000 in
theorem gX5_transfer_X1_observe : GoodIn wsX5_transfer (wsV RX5 87 RX1 yX1_observe wsX1_observe) := goodIn_app (goodIn_of _ (by decide +kernel)) ggX5_transfer_X1_observe
theorem dX5_transfer_0 : decode cX5_transfer 0 = .ok (.aload_n 0, 1) := by decide +kernel
theorem dX5_transfer_1 : decode cX5_transfer 1 = .ok (.getfield 12, 3) := by decide +kernel
theorem dX5_transfer_4 : decode cX5_transfer 4 = .ok (.iload_n 1, 1) := by decide +kernel
theorem dX5_transfer_5 : decode cX5_transfer 5 = .ok (.iload_n 3, 1) := by decide +kernel
theorem dX5_transfer_6 : decode cX5_transfer 6 = .ok (.invokevirtual 90, 3) := by decide +kernel
theorem dX5_transfer_9 : decode cX5_transfer 9 = .ok (.istore 4, 2) := by decide +kernel
theorem dX5_transfer_11 : decode cX5_transfer 11 = .ok (.aload_n 0, 1) := by decide +kernel
theorem dX5_transfer_12 : decode cX5_transfer 12 = .ok (.getfield 12, 3) := by decide +kernel
theorem dX5_transfer_15 : decode cX5_transfer 15 = .ok (.getfield 67, 3) := by decide +kernel
theorem dX5_transfer_18 : decode cX5_transfer 18 = .ok (.iload_n 1, 1) := by decide +kernel
theorem dX5_transfer_19 : decode cX5_transfer 19 = .ok (.dup2, 1) := by decide +kernel
theorem dX5_transfer_20 : decode cX5_transfer 20 = .ok (.iaload, 1) := by decide +kernel
theorem dX5_transfer_21 : decode cX5_transfer 21 = .ok (.iload_n 3, 1) := by decide +kernel
theorem dX5_transfer_22 : decode cX5_transfer 22 = .ok (.isub, 1) := by decide +kernel
theorem dX5_transfer_23 : decode cX5_transfer 23 = .ok (.iastore, 1) := by decide +kernel
theorem dX5_transfer_24 : decode cX5_transfer 24 = .ok (.aload_n 0, 1) := by decide +kernel
theorem dX5_transfer_25 : decode cX5_transfer 25 = .ok (.getfield 12, 3) := by decide +kernel
theorem dX5_transfer_28 : decode cX5_transfer 28 = .ok (.getfield 74, 3) := by decide +kernel
theorem dX5_transfer_31 : decode cX5_transfer 31 = .ok (.iload_n 1, 1) := by decide +kernel
theorem dX5_transfer_32 : decode cX5_transfer 32 = .ok (.dup2, 1) := by decide +kernel
theorem dX5_transfer_33 : decode cX5_transfer 33 = .ok (.iaload, 1) := by decide +kernel
theorem dX5_transfer_34 : decode cX5_transfer 34 = .ok (.iload 4, 2) := by decide +kernel
theorem dX5_transfer_36 : decode cX5_transfer 36 = .ok (.isub, 1) := by decide +kernel
theorem dX5_transfer_37 : decode cX5_transfer 37 = .ok (.iastore, 1) := by decide +kernel
theorem dX5_transfer_38 : decode cX5_transfer 38 = .ok (.aload_n 0, 1) := by decide +kernel
theorem dX5_transfer_39 : decode cX5_transfer 39 = .ok (.getfield 12, 3) := by decide +kernel
theorem dX5_transfer_42 : decode cX5_transfer 42 = .ok (.getfield 67, 3) := by decide +kernel
theorem dX5_transfer_45 : decode cX5_transfer 45 = .ok (.iload_n 2, 1) := by decide +kernel
theorem dX5_transfer_46 : decode cX5_transfer 46 = .ok (.dup2, 1) := by decide +kernel
theorem dX5_transfer_47 : decode cX5_transfer 47 = .ok (.iaload, 1) := by decide +kernel
theorem dX5_transfer_48 : decode cX5_transfer 48 = .ok (.iload_n 3, 1) := by decide +kernel
theorem dX5_transfer_49 : decode cX5_transfer 49 = .ok (.iadd, 1) := by decide +kernel
theorem dX5_transfer_50 : decode cX5_transfer 50 = .ok (.iastore, 1) := by decide +kernel
theorem dX5_transfer_51 : decode cX5_transfer 51 = .ok (.aload_n 0, 1) := by decide +kernel
theorem dX5_transfer_52 : decode cX5_transfer 52 = .ok (.getfield 12, 3) := by decide +kernel
theorem dX5_transfer_55 : decode cX5_transfer 55 = .ok (.getfield 74, 3) := by decide +kernel
theorem dX5_transfer_58 : decode cX5_transfer 58 = .ok (.iload_n 2, 1) := by decide +kernel
theorem dX5_transfer_59 : decode cX5_transfer 59 = .ok (.dup2, 1) := by decide +kernel
theorem dX5_transfer_60 : decode cX5_transfer 60 = .ok (.iaload, 1) := by decide +kernel
theorem dX5_transfer_61 : decode cX5_transfer 61 = .ok (.iload 4, 2) := by decide +kernel
theorem dX5_transfer_63 : decode cX5_transfer 63 = .ok (.iadd, 1) := by decide +kernel
theorem dX5_transfer_64 : decode cX5_transfer 64 = .ok (.iastore, 1) := by decide +kernel
theorem dX5_transfer_65 : decode cX5_transfer 65 = .ok (.aload_n 0, 1) := by decide +kernel
theorem dX5_transfer_66 : decode cX5_transfer 66 = .ok (.getfield 28, 3) := by decide +kernel
theorem dX5_transfer_69 : decode cX5_transfer 69 = .ok (.bipush 112, 2) := by decide +kernel
theorem dX5_transfer_71 : decode cX5_transfer 71 = .ok (.iload_n 1, 1) := by decide +kernel
theorem dX5_transfer_72 : decode cX5_transfer 72 = .ok (.iload_n 3, 1) := by decide +kernel
theorem dX5_transfer_73 : decode cX5_transfer 73 = .ok (.invokevirtual 83, 3) := by decide +kernel
theorem dX5_transfer_76 : decode cX5_transfer 76 = .ok (.aload_n 0, 1) := by decide +kernel
theorem dX5_transfer_77 : decode cX5_transfer 77 = .ok (.getfield 21, 3) := by decide +kernel
theorem dX5_transfer_80 : decode cX5_transfer 80 = .ok (.aload_n 0, 1) := by decide +kernel
theorem dX5_transfer_81 : decode cX5_transfer 81 = .ok (.getfield 12, 3) := by decide +kernel
theorem dX5_transfer_84 : decode cX5_transfer 84 = .ok (.invokevirtual 87, 3) := by decide +kernel
theorem dX5_transfer_87 : decode cX5_transfer 87 = .ok (.iload 4, 2) := by decide +kernel
theorem dX5_transfer_89 : decode cX5_transfer 89 = .ok (.ireturn, 1) := by decide +kernel
set_option maxRecDepth 20000 in
theorem ggX5_placeDuckFault_X0_has : GoodIn wsX5_placeDuckFault wsX0_has := goodIn_r _ [8, 9, 20, 21, 22, 23, 24] (by decide +kernel) (by decide +kernel)
set_option maxRecDepth 20000 in
theorem gX5_placeDuckFault_X0_has : GoodIn wsX5_placeDuckFault (wsV RX5 60 RX0 yX0_has wsX0_has) := goodIn_app (goodIn_of _ (by decide +kernel)) ggX5_placeDuckFault_X0_has
theorem dX5_placeDuckFault_0 : decode cX5_placeDuckFault 0 = .ok (.aload_n 0, 1) := by decide +kernel
theorem dX5_placeDuckFault_1 : decode cX5_placeDuckFault 1 = .ok (.getfield 12, 3) := by decide +kernel
theorem dX5_placeDuckFault_4 : decode cX5_placeDuckFault 4 = .ok (.iload_n 1, 1) := by decide +kernel
theorem dX5_placeDuckFault_5 : decode cX5_placeDuckFault 5 = .ok (.invokevirtual 60, 3) := by decide +kernel
theorem dX5_placeDuckFault_8 : decode cX5_placeDuckFault 8 = .ok (.ifCond .ne 5, 3) := by decide +kernel
theorem dX5_placeDuckFault_11 : decode cX5_placeDuckFault 11 = .ok (.iconst 1, 1) := by decide +kernel
theorem dX5_placeDuckFault_12 : decode cX5_placeDuckFault 12 = .ok (.ireturn, 1) := by decide +kernel
theorem dX5_placeDuckFault_13 : decode cX5_placeDuckFault 13 = .ok (.iload_n 2, 1) := by decide +kernel
theorem dX5_placeDuckFault_14 : decode cX5_placeDuckFault 14 = .ok (.ifCond .lt 14, 3) := by decide +kernel
theorem dX5_placeDuckFault_17 : decode cX5_placeDuckFault 17 = .ok (.iload_n 3, 1) := by decide +kernel
theorem dX5_placeDuckFault_18 : decode cX5_placeDuckFault 18 = .ok (.bipush 99, 2) := by decide +kernel
theorem dX5_placeDuckFault_20 : decode cX5_placeDuckFault 20 = .ok (.if_icmp .gt 8, 3) := by decide +kernel
theorem dX5_placeDuckFault_23 : decode cX5_placeDuckFault 23 = .ok (.iload_n 2, 1) := by decide +kernel
theorem dX5_placeDuckFault_24 : decode cX5_placeDuckFault 24 = .ok (.iload_n 3, 1) := by decide +kernel
theorem dX5_placeDuckFault_25 : decode cX5_placeDuckFault 25 = .ok (.if_icmp .le 5, 3) := by decide +kernel
theorem dX5_placeDuckFault_28 : decode cX5_placeDuckFault 28 = .ok (.iconst 2, 1) := by decide +kernel
theorem dX5_placeDuckFault_29 : decode cX5_placeDuckFault 29 = .ok (.ireturn, 1) := by decide +kernel
theorem dX5_placeDuckFault_30 : decode cX5_placeDuckFault 30 = .ok (.aload_n 0, 1) := by decide +kernel
theorem dX5_placeDuckFault_31 : decode cX5_placeDuckFault 31 = .ok (.getfield 21, 3) := by decide +kernel
theorem dX5_placeDuckFault_34 : decode cX5_placeDuckFault 34 = .ok (.getfield 94, 3) := by decide +kernel
theorem dX5_placeDuckFault_37 : decode cX5_placeDuckFault 37 = .ok (.bipush 6, 2) := by decide +kernel
theorem dX5_placeDuckFault_39 : decode cX5_placeDuckFault 39 = .ok (.if_icmp .lt 7, 3) := by decide +kernel
theorem dX5_placeDuckFault_42 : decode cX5_placeDuckFault 42 = .ok (.iconst 3, 1) := by decide +kernel
theorem dX5_placeDuckFault_43 : decode cX5_placeDuckFault 43 = .ok (.goto 4, 3) := by decide +kernel
theorem dX5_placeDuckFault_46 : decode cX5_placeDuckFault 46 = .ok (.iconst 0, 1) := by decide +kernel
theorem dX5_placeDuckFault_47 : decode cX5_placeDuckFault 47 = .ok (.ireturn, 1) := by decide +kernel
set_option maxRecDepth 20000 in
theorem ggX5_placeDuck_X1_isPleased : GoodIn wsX5_placeDuck wsX1_isPleased := goodIn_ca (goodIn_ca (goodIn_r _ [12, 13, 14, 15, 16, 17, 18, 19, 20, 21, 22, 23, 24, 25, 26, 31, 32, 33, 34, 35, 36, 37, 38, 39, 40, 41] (by decide +kernel) (by decide +kernel)) (goodIn_sub (fun _ h => List.mem_cons_of_mem _ (List.mem_append_left _ (List.mem_append_right _ h))) (by decide +kernel))) (goodIn_sub (fun _ h => List.mem_cons_of_mem _ (List.mem_append_right _ h)) (by decide +kernel))
set_option maxRecDepth 20000 in
theorem gX5_placeDuck_X1_isPleased : GoodIn wsX5_placeDuck (wsV RX5 107 RX1 yX1_isPleased wsX1_isPleased) := goodIn_app (goodIn_of _ (by decide +kernel)) ggX5_placeDuck_X1_isPleased
theorem dX5_placeDuck_0 : decode cX5_placeDuck 0 = .ok (.aload_n 0, 1) := by decide +kernel
theorem dX5_placeDuck_1 : decode cX5_placeDuck 1 = .ok (.getfield 21, 3) := by decide +kernel
theorem dX5_placeDuck_4 : decode cX5_placeDuck 4 = .ok (.getfield 94, 3) := by decide +kernel
theorem dX5_placeDuck_7 : decode cX5_placeDuck 7 = .ok (.istore 4, 2) := by decide +kernel
theorem dX5_placeDuck_9 : decode cX5_placeDuck 9 = .ok (.aload_n 0, 1) := by decide +kernel
theorem dX5_placeDuck_10 : decode cX5_placeDuck 10 = .ok (.getfield 21, 3) := by decide +kernel
theorem dX5_placeDuck_13 : decode cX5_placeDuck 13 = .ok (.getfield 95, 3) := by decide +kernel
theorem dX5_placeDuck_16 : decode cX5_placeDuck 16 = .ok (.iload 4, 2) := by decide +kernel
theorem dX5_placeDuck_18 : decode cX5_placeDuck 18 = .ok (.iload_n 1, 1) := by decide +kernel
theorem dX5_placeDuck_19 : decode cX5_placeDuck 19 = .ok (.iastore, 1) := by decide +kernel
theorem dX5_placeDuck_20 : decode cX5_placeDuck 20 = .ok (.aload_n 0, 1) := by decide +kernel
theorem dX5_placeDuck_21 : decode cX5_placeDuck 21 = .ok (.getfield 21, 3) := by decide +kernel
theorem dX5_placeDuck_24 : decode cX5_placeDuck 24 = .ok (.getfield 98, 3) := by decide +kernel
theorem dX5_placeDuck_27 : decode cX5_placeDuck 27 = .ok (.iload 4, 2) := by decide +kernel
theorem dX5_placeDuck_29 : decode cX5_placeDuck 29 = .ok (.iload_n 2, 1) := by decide +kernel
theorem dX5_placeDuck_30 : decode cX5_placeDuck 30 = .ok (.iastore, 1) := by decide +kernel
theorem dX5_placeDuck_31 : decode cX5_placeDuck 31 = .ok (.aload_n 0, 1) := by decide +kernel
theorem dX5_placeDuck_32 : decode cX5_placeDuck 32 = .ok (.getfield 21, 3) := by decide +kernel
theorem dX5_placeDuck_35 : decode cX5_placeDuck 35 = .ok (.getfield 101, 3) := by decide +kernel
theorem dX5_placeDuck_38 : decode cX5_placeDuck 38 = .ok (.iload 4, 2) := by decide +kernel
theorem dX5_placeDuck_40 : decode cX5_placeDuck 40 = .ok (.iload_n 3, 1) := by decide +kernel
theorem dX5_placeDuck_41 : decode cX5_placeDuck 41 = .ok (.iastore, 1) := by decide +kernel
theorem dX5_placeDuck_42 : decode cX5_placeDuck 42 = .ok (.aload_n 0, 1) := by decide +kernel
theorem dX5_placeDuck_43 : decode cX5_placeDuck 43 = .ok (.getfield 21, 3) := by decide +kernel
theorem dX5_placeDuck_46 : decode cX5_placeDuck 46 = .ok (.getfield 104, 3) := by decide +kernel
theorem dX5_placeDuck_49 : decode cX5_placeDuck 49 = .ok (.iload 4, 2) := by decide +kernel
theorem dX5_placeDuck_51 : decode cX5_placeDuck 51 = .ok (.aload_n 0, 1) := by decide +kernel
theorem dX5_placeDuck_52 : decode cX5_placeDuck 52 = .ok (.getfield 21, 3) := by decide +kernel
theorem dX5_placeDuck_55 : decode cX5_placeDuck 55 = .ok (.iload 4, 2) := by decide +kernel
theorem dX5_placeDuck_57 : decode cX5_placeDuck 57 = .ok (.aload_n 0, 1) := by decide +kernel
theorem dX5_placeDuck_58 : decode cX5_placeDuck 58 = .ok (.getfield 12, 3) := by decide +kernel
theorem dX5_placeDuck_61 : decode cX5_placeDuck 61 = .ok (.invokevirtual 107, 3) := by decide +kernel
theorem dX5_placeDuck_64 : decode cX5_placeDuck 64 = .ok (.bastore, 1) := by decide +kernel
theorem dX5_placeDuck_65 : decode cX5_placeDuck 65 = .ok (.aload_n 0, 1) := by decide +kernel
theorem dX5_placeDuck_66 : decode cX5_placeDuck 66 = .ok (.getfield 21, 3) := by decide +kernel
theorem dX5_placeDuck_69 : decode cX5_placeDuck 69 = .ok (.dup, 1) := by decide +kernel
theorem dX5_placeDuck_70 : decode cX5_placeDuck 70 = .ok (.getfield 94, 3) := by decide +kernel
theorem dX5_placeDuck_73 : decode cX5_placeDuck 73 = .ok (.iconst 1, 1) := by decide +kernel
theorem dX5_placeDuck_74 : decode cX5_placeDuck 74 = .ok (.iadd, 1) := by decide +kernel
theorem dX5_placeDuck_75 : decode cX5_placeDuck 75 = .ok (.putfield 94, 3) := by decide +kernel
theorem dX5_placeDuck_78 : decode cX5_placeDuck 78 = .ok (.iload 4, 2) := by decide +kernel
theorem dX5_placeDuck_80 : decode cX5_placeDuck 80 = .ok (.ireturn, 1) := by decide +kernel
set_option maxRecDepth 20000 in
theorem ggX5_admitFault_X0_has : GoodIn wsX5_admitFault wsX0_has := goodIn_r _ [7, 8, 26, 27, 28, 29, 30] (by decide +kernel) (by decide +kernel)
set_option maxRecDepth 20000 in
theorem gX5_admitFault_X0_has : GoodIn wsX5_admitFault (wsV RX5 60 RX0 yX0_has wsX0_has) := goodIn_app (goodIn_of _ (by decide +kernel)) ggX5_admitFault_X0_has
set_option maxRecDepth 20000 in
theorem ggX5_admitFault_X0_degrees : GoodIn wsX5_admitFault wsX0_degrees := goodIn_ca (goodIn_ca (goodIn_r _ [12, 13, 14, 15, 16, 17, 26, 27, 28, 29, 30] (by decide +kernel) (by decide +kernel)) (goodIn_sub (fun _ h => List.mem_cons_of_mem _ (List.mem_append_left _ (List.mem_append_right _ h))) (by decide +kernel))) (goodIn_sub (fun _ h => List.mem_cons_of_mem _ (List.mem_append_right _ h)) (by decide +kernel))
set_option maxRecDepth 20000 in
theorem gX5_admitFault_X0_degrees : GoodIn wsX5_admitFault (wsV RX5 114 RX0 yX0_degrees wsX0_degrees) := goodIn_app (goodIn_of _ (by decide +kernel)) ggX5_admitFault_X0_degrees
set_option maxRecDepth 20000 in
theorem ggX5_admitFault_X0_hasWater : GoodIn wsX5_admitFault wsX0_hasWater := goodIn_ca (goodIn_r _ [21, 14, 26, 27, 28, 29, 30] (by decide +kernel) (by decide +kernel)) (goodIn_sub (fun _ h => List.mem_cons_of_mem _ (List.mem_append_left _ (List.mem_append_right _ h))) (by decide +kernel))
set_option maxRecDepth 20000 in
theorem gX5_admitFault_X0_hasWater : GoodIn wsX5_admitFault (wsV RX5 118 RX0 yX0_hasWater wsX0_hasWater) := goodIn_app (goodIn_of _ (by decide +kernel)) ggX5_admitFault_X0_hasWater
theorem dX5_admitFault_0 : decode cX5_admitFault 0 = .ok (.aload_n 0, 1) := by decide +kernel
theorem dX5_admitFault_1 : decode cX5_admitFault 1 = .ok (.getfield 12, 3) := by decide +kernel
theorem dX5_admitFault_4 : decode cX5_admitFault 4 = .ok (.iload_n 1, 1) := by decide +kernel
theorem dX5_admitFault_5 : decode cX5_admitFault 5 = .ok (.invokevirtual 60, 3) := by decide +kernel
theorem dX5_admitFault_8 : decode cX5_admitFault 8 = .ok (.ifCond .ne 5, 3) := by decide +kernel
theorem dX5_admitFault_11 : decode cX5_admitFault 11 = .ok (.iconst 1, 1) := by decide +kernel
theorem dX5_admitFault_12 : decode cX5_admitFault 12 = .ok (.ireturn, 1) := by decide +kernel
theorem dX5_admitFault_13 : decode cX5_admitFault 13 = .ok (.aload_n 0, 1) := by decide +kernel
theorem dX5_admitFault_14 : decode cX5_admitFault 14 = .ok (.getfield 12, 3) := by decide +kernel
theorem dX5_admitFault_17 : decode cX5_admitFault 17 = .ok (.getfield 111, 3) := by decide +kernel
theorem dX5_admitFault_20 : decode cX5_admitFault 20 = .ok (.iload_n 1, 1) := by decide +kernel
theorem dX5_admitFault_21 : decode cX5_admitFault 21 = .ok (.baload, 1) := by decide +kernel
theorem dX5_admitFault_22 : decode cX5_admitFault 22 = .ok (.ifCond .eq 5, 3) := by decide +kernel
theorem dX5_admitFault_25 : decode cX5_admitFault 25 = .ok (.iconst 3, 1) := by decide +kernel
theorem dX5_admitFault_26 : decode cX5_admitFault 26 = .ok (.ireturn, 1) := by decide +kernel
theorem dX5_admitFault_27 : decode cX5_admitFault 27 = .ok (.aload_n 0, 1) := by decide +kernel
theorem dX5_admitFault_28 : decode cX5_admitFault 28 = .ok (.getfield 12, 3) := by decide +kernel
theorem dX5_admitFault_31 : decode cX5_admitFault 31 = .ok (.iload_n 1, 1) := by decide +kernel
theorem dX5_admitFault_32 : decode cX5_admitFault 32 = .ok (.invokevirtual 114, 3) := by decide +kernel
theorem dX5_admitFault_35 : decode cX5_admitFault 35 = .ok (.istore_n 2, 1) := by decide +kernel
theorem dX5_admitFault_36 : decode cX5_admitFault 36 = .ok (.aload_n 0, 1) := by decide +kernel
theorem dX5_admitFault_37 : decode cX5_admitFault 37 = .ok (.getfield 12, 3) := by decide +kernel
theorem dX5_admitFault_40 : decode cX5_admitFault 40 = .ok (.iload_n 1, 1) := by decide +kernel
theorem dX5_admitFault_41 : decode cX5_admitFault 41 = .ok (.invokevirtual 118, 3) := by decide +kernel
theorem dX5_admitFault_44 : decode cX5_admitFault 44 = .ok (.ifCond .eq 19, 3) := by decide +kernel
theorem dX5_admitFault_47 : decode cX5_admitFault 47 = .ok (.iload_n 2, 1) := by decide +kernel
theorem dX5_admitFault_48 : decode cX5_admitFault 48 = .ok (.bipush 30, 2) := by decide +kernel
theorem dX5_admitFault_50 : decode cX5_admitFault 50 = .ok (.if_icmp .lt 13, 3) := by decide +kernel
theorem dX5_admitFault_53 : decode cX5_admitFault 53 = .ok (.iload_n 2, 1) := by decide +kernel
theorem dX5_admitFault_54 : decode cX5_admitFault 54 = .ok (.bipush 45, 2) := by decide +kernel
theorem dX5_admitFault_56 : decode cX5_admitFault 56 = .ok (.if_icmp .gt 7, 3) := by decide +kernel
theorem dX5_admitFault_59 : decode cX5_admitFault 59 = .ok (.iconst 1, 1) := by decide +kernel
theorem dX5_admitFault_60 : decode cX5_admitFault 60 = .ok (.goto 4, 3) := by decide +kernel
theorem dX5_admitFault_63 : decode cX5_admitFault 63 = .ok (.iconst 0, 1) := by decide +kernel
theorem dX5_admitFault_64 : decode cX5_admitFault 64 = .ok (.istore_n 3, 1) := by decide +kernel
theorem dX5_admitFault_65 : decode cX5_admitFault 65 = .ok (.iload_n 3, 1) := by decide +kernel
theorem dX5_admitFault_66 : decode cX5_admitFault 66 = .ok (.ifCond .eq 7, 3) := by decide +kernel
theorem dX5_admitFault_69 : decode cX5_admitFault 69 = .ok (.iconst 0, 1) := by decide +kernel
theorem dX5_admitFault_70 : decode cX5_admitFault 70 = .ok (.goto 4, 3) := by decide +kernel
theorem dX5_admitFault_73 : decode cX5_admitFault 73 = .ok (.iconst 5, 1) := by decide +kernel
theorem dX5_admitFault_74 : decode cX5_admitFault 74 = .ok (.ireturn, 1) := by decide +kernel
set_option maxRecDepth 20000 in
theorem ggX5_admit_X2_note : GoodIn wsX5_admit wsX2_note := goodIn_ca (goodIn_r _ [8, 9, 10, 11, 12, 13, 14, 15, 16, 26, 27, 28, 29] (by decide +kernel) (by decide +kernel)) (goodIn_sub (fun _ h => List.mem_cons_of_mem _ (List.mem_append_right _ h)) (by decide +kernel))
set_option maxRecDepth 20000 in
theorem gX5_admit_X2_note : GoodIn wsX5_admit (wsV RX5 83 RX2 yX2_note wsX2_note) := goodIn_app (goodIn_of _ (by decide +kernel)) ggX5_admit_X2_note
theorem dX5_admit_0 : decode cX5_admit 0 = .ok (.aload_n 0, 1) := by decide +kernel
theorem dX5_admit_1 : decode cX5_admit 1 = .ok (.getfield 12, 3) := by decide +kernel
theorem dX5_admit_4 : decode cX5_admit 4 = .ok (.getfield 111, 3) := by decide +kernel
theorem dX5_admit_7 : decode cX5_admit 7 = .ok (.iload_n 1, 1) := by decide +kernel
theorem dX5_admit_8 : decode cX5_admit 8 = .ok (.iconst 1, 1) := by decide +kernel
theorem dX5_admit_9 : decode cX5_admit 9 = .ok (.bastore, 1) := by decide +kernel
theorem dX5_admit_10 : decode cX5_admit 10 = .ok (.aload_n 0, 1) := by decide +kernel
theorem dX5_admit_11 : decode cX5_admit 11 = .ok (.getfield 28, 3) := by decide +kernel
theorem dX5_admit_14 : decode cX5_admit 14 = .ok (.bipush 106, 2) := by decide +kernel
theorem dX5_admit_16 : decode cX5_admit 16 = .ok (.iload_n 1, 1) := by decide +kernel
theorem dX5_admit_17 : decode cX5_admit 17 = .ok (.iconst (-1), 1) := by decide +kernel
theorem dX5_admit_18 : decode cX5_admit 18 = .ok (.invokevirtual 83, 3) := by decide +kernel
theorem dX5_admit_21 : decode cX5_admit 21 = .ok (.return_, 1) := by decide +kernel
set_option maxRecDepth 20000 in
theorem ggX5_dismissFault_X0_has : GoodIn wsX5_dismissFault wsX0_has := goodIn_r _ [7, 8, 13, 14, 15, 16, 17] (by decide +kernel) (by decide +kernel)
set_option maxRecDepth 20000 in
theorem gX5_dismissFault_X0_has : GoodIn wsX5_dismissFault (wsV RX5 60 RX0 yX0_has wsX0_has) := goodIn_app (goodIn_of _ (by decide +kernel)) ggX5_dismissFault_X0_has
theorem dX5_dismissFault_0 : decode cX5_dismissFault 0 = .ok (.aload_n 0, 1) := by decide +kernel
theorem dX5_dismissFault_1 : decode cX5_dismissFault 1 = .ok (.getfield 12, 3) := by decide +kernel
theorem dX5_dismissFault_4 : decode cX5_dismissFault 4 = .ok (.iload_n 1, 1) := by decide +kernel
theorem dX5_dismissFault_5 : decode cX5_dismissFault 5 = .ok (.invokevirtual 60, 3) := by decide +kernel
theorem dX5_dismissFault_8 : decode cX5_dismissFault 8 = .ok (.ifCond .ne 5, 3) := by decide +kernel
theorem dX5_dismissFault_11 : decode cX5_dismissFault 11 = .ok (.iconst 1, 1) := by decide +kernel
theorem dX5_dismissFault_12 : decode cX5_dismissFault 12 = .ok (.ireturn, 1) := by decide +kernel
theorem dX5_dismissFault_13 : decode cX5_dismissFault 13 = .ok (.aload_n 0, 1) := by decide +kernel
theorem dX5_dismissFault_14 : decode cX5_dismissFault 14 = .ok (.getfield 12, 3) := by decide +kernel
theorem dX5_dismissFault_17 : decode cX5_dismissFault 17 = .ok (.getfield 111, 3) := by decide +kernel
theorem dX5_dismissFault_20 : decode cX5_dismissFault 20 = .ok (.iload_n 1, 1) := by decide +kernel
theorem dX5_dismissFault_21 : decode cX5_dismissFault 21 = .ok (.baload, 1) := by decide +kernel
theorem dX5_dismissFault_22 : decode cX5_dismissFault 22 = .ok (.ifCond .eq 7, 3) := by decide +kernel
theorem dX5_dismissFault_25 : decode cX5_dismissFault 25 = .ok (.iconst 0, 1) := by decide +kernel
theorem dX5_dismissFault_26 : decode cX5_dismissFault 26 = .ok (.goto 4, 3) := by decide +kernel
theorem dX5_dismissFault_29 : decode cX5_dismissFault 29 = .ok (.iconst 3, 1) := by decide +kernel
theorem dX5_dismissFault_30 : decode cX5_dismissFault 30 = .ok (.ireturn, 1) := by decide +kernel
set_option maxRecDepth 20000 in
theorem ggX5_dismiss_X2_note : GoodIn wsX5_dismiss wsX2_note := goodIn_ca (goodIn_r _ [8, 9, 10, 11, 12, 13, 14, 15, 16, 26, 27, 28, 29] (by decide +kernel) (by decide +kernel)) (goodIn_sub (fun _ h => List.mem_cons_of_mem _ (List.mem_append_right _ h)) (by decide +kernel))
set_option maxRecDepth 20000 in
theorem gX5_dismiss_X2_note : GoodIn wsX5_dismiss (wsV RX5 83 RX2 yX2_note wsX2_note) := goodIn_app (goodIn_of _ (by decide +kernel)) ggX5_dismiss_X2_note
theorem dX5_dismiss_0 : decode cX5_dismiss 0 = .ok (.aload_n 0, 1) := by decide +kernel
theorem dX5_dismiss_1 : decode cX5_dismiss 1 = .ok (.getfield 12, 3) := by decide +kernel
theorem dX5_dismiss_4 : decode cX5_dismiss 4 = .ok (.getfield 111, 3) := by decide +kernel
theorem dX5_dismiss_7 : decode cX5_dismiss 7 = .ok (.iload_n 1, 1) := by decide +kernel
theorem dX5_dismiss_8 : decode cX5_dismiss 8 = .ok (.iconst 0, 1) := by decide +kernel
theorem dX5_dismiss_9 : decode cX5_dismiss 9 = .ok (.bastore, 1) := by decide +kernel
theorem dX5_dismiss_10 : decode cX5_dismiss 10 = .ok (.aload_n 0, 1) := by decide +kernel
theorem dX5_dismiss_11 : decode cX5_dismiss 11 = .ok (.getfield 28, 3) := by decide +kernel
theorem dX5_dismiss_14 : decode cX5_dismiss 14 = .ok (.bipush 108, 2) := by decide +kernel
theorem dX5_dismiss_16 : decode cX5_dismiss 16 = .ok (.iload_n 1, 1) := by decide +kernel
theorem dX5_dismiss_17 : decode cX5_dismiss 17 = .ok (.iconst (-1), 1) := by decide +kernel
theorem dX5_dismiss_18 : decode cX5_dismiss 18 = .ok (.invokevirtual 83, 3) := by decide +kernel
theorem dX5_dismiss_21 : decode cX5_dismiss 21 = .ok (.return_, 1) := by decide +kernel
theorem dX5_passTicksFault_0 : decode cX5_passTicksFault 0 = .ok (.iload_n 1, 1) := by decide +kernel
theorem dX5_passTicksFault_1 : decode cX5_passTicksFault 1 = .ok (.iconst 1, 1) := by decide +kernel
theorem dX5_passTicksFault_2 : decode cX5_passTicksFault 2 = .ok (.if_icmp .lt 9, 3) := by decide +kernel
theorem dX5_passTicksFault_5 : decode cX5_passTicksFault 5 = .ok (.iload_n 1, 1) := by decide +kernel
theorem dX5_passTicksFault_6 : decode cX5_passTicksFault 6 = .ok (.bipush 20, 2) := by decide +kernel
theorem dX5_passTicksFault_8 : decode cX5_passTicksFault 8 = .ok (.if_icmp .le 7, 3) := by decide +kernel
theorem dX5_passTicksFault_11 : decode cX5_passTicksFault 11 = .ok (.iconst 2, 1) := by decide +kernel
theorem dX5_passTicksFault_12 : decode cX5_passTicksFault 12 = .ok (.goto 4, 3) := by decide +kernel
theorem dX5_passTicksFault_15 : decode cX5_passTicksFault 15 = .ok (.iconst 0, 1) := by decide +kernel
theorem dX5_passTicksFault_16 : decode cX5_passTicksFault 16 = .ok (.ireturn, 1) := by decide +kernel
set_option maxRecDepth 20000 in
theorem ggX5_passTicks_X5_tick : GoodIn wsX5_passTicks wsX5_tick := goodIn_ca (goodIn_ca (goodIn_r _ [5, 6, 7, 8, 9, 10, 11, 12, 4, 13, 14, 15, 16, 17, 18, 19, 20, 21, 22, 23, 24, 25, 26, 27, 28, 29, 30, 31, 32, 33, 34, 35, 36, 37, 38, 39, 40, 41, 42, 43, 44, 45, 46, 47, 48, 49, 50, 51, 52, 53, 54, 55, 56, 57, 58, 59, 60, 61, 62, 63, 64, 65, 66, 67, 68, 69, 70, 71, 72, 73, 74, 75, 76, 77, 78, 79, 80, 81, 82, 83, 84, 85, 86, 87, 88, 89, 90, 91, 92, 93, 94, 95, 96, 97, 98, 99, 100, 101, 102, 103, 104, 105, 106, 107, 108, 109, 110, 111, 112, 113, 114, 115, 116, 117, 118, 119, 120, 121, 122, 123, 124, 125, 126, 127, 128, 129, 130, 131, 132, 133, 134, 135, 136, 137] (by decide +kernel) (by decide +kernel)) (goodIn_sub (fun _ h => List.mem_cons_of_mem _ (List.mem_append_left _ (List.mem_append_right _ h))) (by decide +kernel))) (goodIn_sub (fun _ h => List.mem_cons_of_mem _ (List.mem_append_right _ h)) (by decide +kernel))
set_option maxRecDepth 20000 in
theorem gX5_passTicks_X5_tick : GoodIn wsX5_passTicks (wsV RX5 121 RX5 yX5_tick wsX5_tick) := goodIn_app (goodIn_of _ (by decide +kernel)) ggX5_passTicks_X5_tick
theorem dX5_passTicks_0 : decode cX5_passTicks 0 = .ok (.iconst 0, 1) := by decide +kernel
theorem dX5_passTicks_1 : decode cX5_passTicks 1 = .ok (.istore_n 2, 1) := by decide +kernel
theorem dX5_passTicks_2 : decode cX5_passTicks 2 = .ok (.iload_n 2, 1) := by decide +kernel
theorem dX5_passTicks_3 : decode cX5_passTicks 3 = .ok (.iload_n 1, 1) := by decide +kernel
theorem dX5_passTicks_4 : decode cX5_passTicks 4 = .ok (.if_icmp .ge 13, 3) := by decide +kernel
theorem dX5_passTicks_7 : decode cX5_passTicks 7 = .ok (.aload_n 0, 1) := by decide +kernel
theorem dX5_passTicks_8 : decode cX5_passTicks 8 = .ok (.invokevirtual 121, 3) := by decide +kernel
theorem dX5_passTicks_11 : decode cX5_passTicks 11 = .ok (.iinc 2 1, 3) := by decide +kernel
theorem dX5_passTicks_14 : decode cX5_passTicks 14 = .ok (.goto (-12), 3) := by decide +kernel
theorem dX5_passTicks_17 : decode cX5_passTicks 17 = .ok (.return_, 1) := by decide +kernel
set_option maxRecDepth 20000 in
theorem ggX5_tick_X5_loseHeatToRoom : GoodIn wsX5_tick wsX5_loseHeatToRoom := goodIn_ca (goodIn_r _ [9, 1, 10, 11, 12, 2, 13, 14, 15, 16, 17, 18, 19, 109, 110, 111, 112, 119, 120, 121, 122, 123, 113, 114, 115, 116, 117, 118] (by decide +kernel) (by decide +kernel)) (goodIn_sub (fun _ h => List.mem_cons_of_mem _ (List.mem_append_left _ (List.mem_append_right _ h))) (by decide +kernel))
set_option maxRecDepth 20000 in
theorem gX5_tick_X5_loseHeatToRoom : GoodIn wsX5_tick (wsV RX5 124 RX5 yX5_loseHeatToRoom wsX5_loseHeatToRoom) := goodIn_app (goodIn_of _ (by decide +kernel)) ggX5_tick_X5_loseHeatToRoom
set_option maxRecDepth 20000 in
theorem ggX5_tick_X5_drain : GoodIn wsX5_tick wsX5_drain := goodIn_ca (goodIn_ca (goodIn_r _ [23, 1, 10, 24, 12, 25, 26, 27, 28, 11, 2, 29, 13, 14, 15, 16, 17, 18, 19, 30, 31, 32, 33, 34, 35, 109, 110, 111, 112, 119, 120, 121, 122, 123, 113, 114, 115, 116, 117, 118] (by decide +kernel) (by decide +kernel)) (goodIn_sub (fun _ h => List.mem_cons_of_mem _ (List.mem_append_left _ (List.mem_append_right _ h))) (by decide +kernel))) (goodIn_sub (fun _ h => List.mem_cons_of_mem _ (List.mem_append_right _ h)) (by decide +kernel))
set_option maxRecDepth 20000 in
theorem gX5_tick_X5_drain : GoodIn wsX5_tick (wsV RX5 127 RX5 yX5_drain wsX5_drain) := goodIn_app (goodIn_of _ (by decide +kernel)) ggX5_tick_X5_drain
set_option maxRecDepth 20000 in
theorem ggX5_tick_X0_shareHeat : GoodIn wsX5_tick wsX0_shareHeat := goodIn_ca (goodIn_ca (goodIn_r _ [39, 34, 40, 41, 42, 17, 43, 44, 45, 35, 15, 16, 18, 19, 46, 47, 48, 49, 50, 51, 52, 53, 54, 55, 56, 57, 58, 59, 60, 61, 62, 26, 27, 28, 63, 64, 65, 66, 119, 120, 121, 122, 123] (by decide +kernel) (by decide +kernel)) (goodIn_sub (fun _ h => List.mem_cons_of_mem _ (List.mem_append_left _ (List.mem_append_right _ h))) (by decide +kernel))) (goodIn_sub (fun _ h => List.mem_cons_of_mem _ (List.mem_append_right _ h)) (by decide +kernel))
set_option maxRecDepth 20000 in
theorem gX5_tick_X0_shareHeat : GoodIn wsX5_tick (wsV RX5 130 RX0 yX0_shareHeat wsX0_shareHeat) := goodIn_app (goodIn_of _ (by decide +kernel)) ggX5_tick_X0_shareHeat
set_option maxRecDepth 20000 in
theorem ggX5_tick_X5_defect : GoodIn wsX5_tick wsX5_defect := goodIn_ca (goodIn_ca (goodIn_r _ [70, 1, 10, 71, 2, 72, 73, 14, 15, 16, 17, 18, 19, 74, 75, 76, 77, 34, 78, 79, 80, 81, 82, 83, 84, 85, 86, 87, 88, 89, 90, 26, 27, 28, 109, 110, 111, 112, 119, 120, 121, 122, 123, 113, 114, 115, 116, 117, 118, 124, 125, 126, 127] (by decide +kernel) (by decide +kernel)) (goodIn_sub (fun _ h => List.mem_cons_of_mem _ (List.mem_append_left _ (List.mem_append_right _ h))) (by decide +kernel))) (goodIn_sub (fun _ h => List.mem_cons_of_mem _ (List.mem_append_right _ h)) (by decide +kernel))
set_option maxRecDepth 20000 in
theorem gX5_tick_X5_defect : GoodIn wsX5_tick (wsV RX5 133 RX5 yX5_defect wsX5_defect) := goodIn_app (goodIn_of _ (by decide +kernel)) ggX5_tick_X5_defect
set_option maxRecDepth 20000 in
theorem ggX5_tick_X1_observe : GoodIn wsX5_tick wsX1_observe := goodIn_ca (goodIn_ca (goodIn_r _ [95, 96, 97, 98, 99, 100, 101, 94, 102, 103, 104, 105, 106, 107, 78, 79, 80, 108, 15, 16, 17, 18, 19, 128, 129, 130, 131, 132, 133, 119, 120, 121, 122, 123] (by decide +kernel) (by decide +kernel)) (goodIn_sub (fun _ h => List.mem_cons_of_mem _ (List.mem_append_left _ (List.mem_append_right _ h))) (by decide +kernel))) (goodIn_sub (fun _ h => List.mem_cons_of_mem _ (List.mem_append_right _ h)) (by decide +kernel))
set_option maxRecDepth 20000 in
theorem gX5_tick_X1_observe : GoodIn wsX5_tick (wsV RX5 87 RX1 yX1_observe wsX1_observe) := goodIn_app (goodIn_of _ (by decide +kernel)) ggX5_tick_X1_observe
theorem dX5_tick_0 : decode cX5_tick 0 = .ok (.aload_n 0, 1) := by decide +kernel
theorem dX5_tick_1 : decode cX5_tick 1 = .ok (.invokevirtual 124, 3) := by decide +kernel
theorem dX5_tick_4 : decode cX5_tick 4 = .ok (.aload_n 0, 1) := by decide +kernel
theorem dX5_tick_5 : decode cX5_tick 5 = .ok (.invokevirtual 127, 3) := by decide +kernel
theorem dX5_tick_8 : decode cX5_tick 8 = .ok (.aload_n 0, 1) := by decide +kernel
theorem dX5_tick_9 : decode cX5_tick 9 = .ok (.getfield 12, 3) := by decide +kernel
theorem dX5_tick_12 : decode cX5_tick 12 = .ok (.invokevirtual 130, 3) := by decide +kernel
theorem dX5_tick_15 : decode cX5_tick 15 = .ok (.aload_n 0, 1) := by decide +kernel
theorem dX5_tick_16 : decode cX5_tick 16 = .ok (.invokevirtual 133, 3) := by decide +kernel
theorem dX5_tick_19 : decode cX5_tick 19 = .ok (.aload_n 0, 1) := by decide +kernel
theorem dX5_tick_20 : decode cX5_tick 20 = .ok (.getfield 35, 3) := by decide +kernel
theorem dX5_tick_23 : decode cX5_tick 23 = .ok (.dup, 1) := by decide +kernel
theorem dX5_tick_24 : decode cX5_tick 24 = .ok (.getfield 136, 3) := by decide +kernel
theorem dX5_tick_27 : decode cX5_tick 27 = .ok (.iconst 1, 1) := by decide +kernel
theorem dX5_tick_28 : decode cX5_tick 28 = .ok (.iadd, 1) := by decide +kernel
theorem dX5_tick_29 : decode cX5_tick 29 = .ok (.putfield 136, 3) := by decide +kernel
theorem dX5_tick_32 : decode cX5_tick 32 = .ok (.aload_n 0, 1) := by decide +kernel
theorem dX5_tick_33 : decode cX5_tick 33 = .ok (.getfield 21, 3) := by decide +kernel
theorem dX5_tick_36 : decode cX5_tick 36 = .ok (.aload_n 0, 1) := by decide +kernel
theorem dX5_tick_37 : decode cX5_tick 37 = .ok (.getfield 12, 3) := by decide +kernel
theorem dX5_tick_40 : decode cX5_tick 40 = .ok (.invokevirtual 87, 3) := by decide +kernel
theorem dX5_tick_43 : decode cX5_tick 43 = .ok (.return_, 1) := by decide +kernel
set_option maxRecDepth 20000 in
theorem ggX5_loseHeatToRoom_X0_hasWater : GoodIn wsX5_loseHeatToRoom wsX0_hasWater := goodIn_ca (goodIn_r _ [11, 12, 17, 18, 19, 20, 21] (by decide +kernel) (by decide +kernel)) (goodIn_sub (fun _ h => List.mem_cons_of_mem _ (List.mem_append_right _ h)) (by decide +kernel))
set_option maxRecDepth 20000 in
theorem gX5_loseHeatToRoom_X0_hasWater : GoodIn wsX5_loseHeatToRoom (wsV RX5 118 RX0 yX0_hasWater wsX0_hasWater) := goodIn_app (goodIn_of _ (by decide +kernel)) ggX5_loseHeatToRoom_X0_hasWater
theorem dX5_loseHeatToRoom_0 : decode cX5_loseHeatToRoom 0 = .ok (.iconst 0, 1) := by decide +kernel
theorem dX5_loseHeatToRoom_1 : decode cX5_loseHeatToRoom 1 = .ok (.istore_n 1, 1) := by decide +kernel
theorem dX5_loseHeatToRoom_2 : decode cX5_loseHeatToRoom 2 = .ok (.iload_n 1, 1) := by decide +kernel
theorem dX5_loseHeatToRoom_3 : decode cX5_loseHeatToRoom 3 = .ok (.aload_n 0, 1) := by decide +kernel
theorem dX5_loseHeatToRoom_4 : decode cX5_loseHeatToRoom 4 = .ok (.getfield 12, 3) := by decide +kernel
theorem dX5_loseHeatToRoom_7 : decode cX5_loseHeatToRoom 7 = .ok (.getfield 52, 3) := by decide +kernel
theorem dX5_loseHeatToRoom_10 : decode cX5_loseHeatToRoom 10 = .ok (.if_icmp .ge 72, 3) := by decide +kernel
theorem dX5_loseHeatToRoom_13 : decode cX5_loseHeatToRoom 13 = .ok (.aload_n 0, 1) := by decide +kernel
theorem dX5_loseHeatToRoom_14 : decode cX5_loseHeatToRoom 14 = .ok (.getfield 12, 3) := by decide +kernel
theorem dX5_loseHeatToRoom_17 : decode cX5_loseHeatToRoom 17 = .ok (.iload_n 1, 1) := by decide +kernel
theorem dX5_loseHeatToRoom_18 : decode cX5_loseHeatToRoom 18 = .ok (.invokevirtual 118, 3) := by decide +kernel
theorem dX5_loseHeatToRoom_21 : decode cX5_loseHeatToRoom 21 = .ok (.ifCond .eq 55, 3) := by decide +kernel
theorem dX5_loseHeatToRoom_24 : decode cX5_loseHeatToRoom 24 = .ok (.aload_n 0, 1) := by decide +kernel
theorem dX5_loseHeatToRoom_25 : decode cX5_loseHeatToRoom 25 = .ok (.getfield 12, 3) := by decide +kernel
theorem dX5_loseHeatToRoom_28 : decode cX5_loseHeatToRoom 28 = .ok (.getfield 74, 3) := by decide +kernel
theorem dX5_loseHeatToRoom_31 : decode cX5_loseHeatToRoom 31 = .ok (.iload_n 1, 1) := by decide +kernel
theorem dX5_loseHeatToRoom_32 : decode cX5_loseHeatToRoom 32 = .ok (.iaload, 1) := by decide +kernel
theorem dX5_loseHeatToRoom_33 : decode cX5_loseHeatToRoom 33 = .ok (.bipush 20, 2) := by decide +kernel
theorem dX5_loseHeatToRoom_35 : decode cX5_loseHeatToRoom 35 = .ok (.aload_n 0, 1) := by decide +kernel
theorem dX5_loseHeatToRoom_36 : decode cX5_loseHeatToRoom 36 = .ok (.getfield 12, 3) := by decide +kernel
theorem dX5_loseHeatToRoom_39 : decode cX5_loseHeatToRoom 39 = .ok (.getfield 67, 3) := by decide +kernel
theorem dX5_loseHeatToRoom_42 : decode cX5_loseHeatToRoom 42 = .ok (.iload_n 1, 1) := by decide +kernel
theorem dX5_loseHeatToRoom_43 : decode cX5_loseHeatToRoom 43 = .ok (.iaload, 1) := by decide +kernel
theorem dX5_loseHeatToRoom_44 : decode cX5_loseHeatToRoom 44 = .ok (.imul, 1) := by decide +kernel
theorem dX5_loseHeatToRoom_45 : decode cX5_loseHeatToRoom 45 = .ok (.isub, 1) := by decide +kernel
theorem dX5_loseHeatToRoom_46 : decode cX5_loseHeatToRoom 46 = .ok (.bipush 10, 2) := by decide +kernel
theorem dX5_loseHeatToRoom_48 : decode cX5_loseHeatToRoom 48 = .ok (.idiv, 1) := by decide +kernel
theorem dX5_loseHeatToRoom_49 : decode cX5_loseHeatToRoom 49 = .ok (.istore_n 2, 1) := by decide +kernel
theorem dX5_loseHeatToRoom_50 : decode cX5_loseHeatToRoom 50 = .ok (.aload_n 0, 1) := by decide +kernel
theorem dX5_loseHeatToRoom_51 : decode cX5_loseHeatToRoom 51 = .ok (.getfield 12, 3) := by decide +kernel
theorem dX5_loseHeatToRoom_54 : decode cX5_loseHeatToRoom 54 = .ok (.getfield 74, 3) := by decide +kernel
theorem dX5_loseHeatToRoom_57 : decode cX5_loseHeatToRoom 57 = .ok (.iload_n 1, 1) := by decide +kernel
theorem dX5_loseHeatToRoom_58 : decode cX5_loseHeatToRoom 58 = .ok (.dup2, 1) := by decide +kernel
theorem dX5_loseHeatToRoom_59 : decode cX5_loseHeatToRoom 59 = .ok (.iaload, 1) := by decide +kernel
theorem dX5_loseHeatToRoom_60 : decode cX5_loseHeatToRoom 60 = .ok (.iload_n 2, 1) := by decide +kernel
theorem dX5_loseHeatToRoom_61 : decode cX5_loseHeatToRoom 61 = .ok (.isub, 1) := by decide +kernel
theorem dX5_loseHeatToRoom_62 : decode cX5_loseHeatToRoom 62 = .ok (.iastore, 1) := by decide +kernel
theorem dX5_loseHeatToRoom_63 : decode cX5_loseHeatToRoom 63 = .ok (.aload_n 0, 1) := by decide +kernel
theorem dX5_loseHeatToRoom_64 : decode cX5_loseHeatToRoom 64 = .ok (.getfield 35, 3) := by decide +kernel
theorem dX5_loseHeatToRoom_67 : decode cX5_loseHeatToRoom 67 = .ok (.dup, 1) := by decide +kernel
theorem dX5_loseHeatToRoom_68 : decode cX5_loseHeatToRoom 68 = .ok (.getfield 139, 3) := by decide +kernel
theorem dX5_loseHeatToRoom_71 : decode cX5_loseHeatToRoom 71 = .ok (.iload_n 2, 1) := by decide +kernel
theorem dX5_loseHeatToRoom_72 : decode cX5_loseHeatToRoom 72 = .ok (.iadd, 1) := by decide +kernel
theorem dX5_loseHeatToRoom_73 : decode cX5_loseHeatToRoom 73 = .ok (.putfield 139, 3) := by decide +kernel
theorem dX5_loseHeatToRoom_76 : decode cX5_loseHeatToRoom 76 = .ok (.iinc 1 1, 3) := by decide +kernel
theorem dX5_loseHeatToRoom_79 : decode cX5_loseHeatToRoom 79 = .ok (.goto (-77), 3) := by decide +kernel
theorem dX5_loseHeatToRoom_82 : decode cX5_loseHeatToRoom 82 = .ok (.return_, 1) := by decide +kernel
set_option maxRecDepth 20000 in
theorem ggX5_drain_X0_hasWater : GoodIn wsX5_drain wsX0_hasWater := goodIn_ca (goodIn_r _ [17, 18, 29, 30, 31, 32, 33] (by decide +kernel) (by decide +kernel)) (goodIn_sub (fun _ h => List.mem_cons_of_mem _ (List.mem_append_left _ (List.mem_append_right _ h))) (by decide +kernel))
set_option maxRecDepth 20000 in
theorem gX5_drain_X0_hasWater : GoodIn wsX5_drain (wsV RX5 118 RX0 yX0_hasWater wsX0_hasWater) := goodIn_app (goodIn_of _ (by decide +kernel)) ggX5_drain_X0_hasWater
set_option maxRecDepth 20000 in
theorem ggX5_drain_X0_heatOf : GoodIn wsX5_drain wsX0_heatOf := goodIn_ca (goodIn_ca (goodIn_r _ [22, 23, 18, 24, 14, 15, 16, 17, 29, 30, 31, 32, 33] (by decide +kernel) (by decide +kernel)) (goodIn_sub (fun _ h => List.mem_cons_of_mem _ (List.mem_append_left _ (List.mem_append_right _ h))) (by decide +kernel))) (goodIn_sub (fun _ h => List.mem_cons_of_mem _ (List.mem_append_right _ h)) (by decide +kernel))
set_option maxRecDepth 20000 in
theorem gX5_drain_X0_heatOf : GoodIn wsX5_drain (wsV RX5 90 RX0 yX0_heatOf wsX0_heatOf) := goodIn_app (goodIn_of _ (by decide +kernel)) ggX5_drain_X0_heatOf
theorem dX5_drain_0 : decode cX5_drain 0 = .ok (.iconst 0, 1) := by decide +kernel
theorem dX5_drain_1 : decode cX5_drain 1 = .ok (.istore_n 1, 1) := by decide +kernel
theorem dX5_drain_2 : decode cX5_drain 2 = .ok (.iload_n 1, 1) := by decide +kernel
theorem dX5_drain_3 : decode cX5_drain 3 = .ok (.aload_n 0, 1) := by decide +kernel
theorem dX5_drain_4 : decode cX5_drain 4 = .ok (.getfield 12, 3) := by decide +kernel
theorem dX5_drain_7 : decode cX5_drain 7 = .ok (.getfield 52, 3) := by decide +kernel
theorem dX5_drain_10 : decode cX5_drain 10 = .ok (.if_icmp .ge 108, 3) := by decide +kernel
theorem dX5_drain_13 : decode cX5_drain 13 = .ok (.aload_n 0, 1) := by decide +kernel
theorem dX5_drain_14 : decode cX5_drain 14 = .ok (.getfield 12, 3) := by decide +kernel
theorem dX5_drain_17 : decode cX5_drain 17 = .ok (.iload_n 1, 1) := by decide +kernel
theorem dX5_drain_18 : decode cX5_drain 18 = .ok (.invokevirtual 118, 3) := by decide +kernel
theorem dX5_drain_21 : decode cX5_drain 21 = .ok (.ifCond .eq 91, 3) := by decide +kernel
theorem dX5_drain_24 : decode cX5_drain 24 = .ok (.aload_n 0, 1) := by decide +kernel
theorem dX5_drain_25 : decode cX5_drain 25 = .ok (.getfield 12, 3) := by decide +kernel
theorem dX5_drain_28 : decode cX5_drain 28 = .ok (.getfield 56, 3) := by decide +kernel
theorem dX5_drain_31 : decode cX5_drain 31 = .ok (.iload_n 1, 1) := by decide +kernel
theorem dX5_drain_32 : decode cX5_drain 32 = .ok (.baload, 1) := by decide +kernel
theorem dX5_drain_33 : decode cX5_drain 33 = .ok (.ifCond .ne 79, 3) := by decide +kernel
theorem dX5_drain_36 : decode cX5_drain 36 = .ok (.iconst 3, 1) := by decide +kernel
theorem dX5_drain_37 : decode cX5_drain 37 = .ok (.aload_n 0, 1) := by decide +kernel
theorem dX5_drain_38 : decode cX5_drain 38 = .ok (.getfield 12, 3) := by decide +kernel
theorem dX5_drain_41 : decode cX5_drain 41 = .ok (.getfield 67, 3) := by decide +kernel
theorem dX5_drain_44 : decode cX5_drain 44 = .ok (.iload_n 1, 1) := by decide +kernel
theorem dX5_drain_45 : decode cX5_drain 45 = .ok (.iaload, 1) := by decide +kernel
theorem dX5_drain_46 : decode cX5_drain 46 = .ok (.invokestatic 142, 3) := by decide +kernel
theorem dX5_drain_49 : decode cX5_drain 49 = .ok (.istore_n 2, 1) := by decide +kernel
theorem dX5_drain_50 : decode cX5_drain 50 = .ok (.aload_n 0, 1) := by decide +kernel
theorem dX5_drain_51 : decode cX5_drain 51 = .ok (.getfield 12, 3) := by decide +kernel
theorem dX5_drain_54 : decode cX5_drain 54 = .ok (.iload_n 1, 1) := by decide +kernel
theorem dX5_drain_55 : decode cX5_drain 55 = .ok (.iload_n 2, 1) := by decide +kernel
theorem dX5_drain_56 : decode cX5_drain 56 = .ok (.invokevirtual 90, 3) := by decide +kernel
theorem dX5_drain_59 : decode cX5_drain 59 = .ok (.istore_n 3, 1) := by decide +kernel
theorem dX5_drain_60 : decode cX5_drain 60 = .ok (.aload_n 0, 1) := by decide +kernel
theorem dX5_drain_61 : decode cX5_drain 61 = .ok (.getfield 12, 3) := by decide +kernel
theorem dX5_drain_64 : decode cX5_drain 64 = .ok (.getfield 67, 3) := by decide +kernel
theorem dX5_drain_67 : decode cX5_drain 67 = .ok (.iload_n 1, 1) := by decide +kernel
theorem dX5_drain_68 : decode cX5_drain 68 = .ok (.dup2, 1) := by decide +kernel
theorem dX5_drain_69 : decode cX5_drain 69 = .ok (.iaload, 1) := by decide +kernel
theorem dX5_drain_70 : decode cX5_drain 70 = .ok (.iload_n 2, 1) := by decide +kernel
theorem dX5_drain_71 : decode cX5_drain 71 = .ok (.isub, 1) := by decide +kernel
theorem dX5_drain_72 : decode cX5_drain 72 = .ok (.iastore, 1) := by decide +kernel
theorem dX5_drain_73 : decode cX5_drain 73 = .ok (.aload_n 0, 1) := by decide +kernel
theorem dX5_drain_74 : decode cX5_drain 74 = .ok (.getfield 12, 3) := by decide +kernel
theorem dX5_drain_77 : decode cX5_drain 77 = .ok (.getfield 74, 3) := by decide +kernel
theorem dX5_drain_80 : decode cX5_drain 80 = .ok (.iload_n 1, 1) := by decide +kernel
theorem dX5_drain_81 : decode cX5_drain 81 = .ok (.dup2, 1) := by decide +kernel
theorem dX5_drain_82 : decode cX5_drain 82 = .ok (.iaload, 1) := by decide +kernel
theorem dX5_drain_83 : decode cX5_drain 83 = .ok (.iload_n 3, 1) := by decide +kernel
theorem dX5_drain_84 : decode cX5_drain 84 = .ok (.isub, 1) := by decide +kernel
theorem dX5_drain_85 : decode cX5_drain 85 = .ok (.iastore, 1) := by decide +kernel
theorem dX5_drain_86 : decode cX5_drain 86 = .ok (.aload_n 0, 1) := by decide +kernel
theorem dX5_drain_87 : decode cX5_drain 87 = .ok (.getfield 35, 3) := by decide +kernel
theorem dX5_drain_90 : decode cX5_drain 90 = .ok (.dup, 1) := by decide +kernel
theorem dX5_drain_91 : decode cX5_drain 91 = .ok (.getfield 147, 3) := by decide +kernel
theorem dX5_drain_94 : decode cX5_drain 94 = .ok (.iload_n 2, 1) := by decide +kernel
theorem dX5_drain_95 : decode cX5_drain 95 = .ok (.iadd, 1) := by decide +kernel
theorem dX5_drain_96 : decode cX5_drain 96 = .ok (.putfield 147, 3) := by decide +kernel
theorem dX5_drain_99 : decode cX5_drain 99 = .ok (.aload_n 0, 1) := by decide +kernel
theorem dX5_drain_100 : decode cX5_drain 100 = .ok (.getfield 35, 3) := by decide +kernel
theorem dX5_drain_103 : decode cX5_drain 103 = .ok (.dup, 1) := by decide +kernel
theorem dX5_drain_104 : decode cX5_drain 104 = .ok (.getfield 139, 3) := by decide +kernel
theorem dX5_drain_107 : decode cX5_drain 107 = .ok (.iload_n 3, 1) := by decide +kernel
theorem dX5_drain_108 : decode cX5_drain 108 = .ok (.iadd, 1) := by decide +kernel
theorem dX5_drain_109 : decode cX5_drain 109 = .ok (.putfield 139, 3) := by decide +kernel
theorem dX5_drain_112 : decode cX5_drain 112 = .ok (.iinc 1 1, 3) := by decide +kernel
theorem dX5_drain_115 : decode cX5_drain 115 = .ok (.goto (-113), 3) := by decide +kernel
theorem dX5_drain_118 : decode cX5_drain 118 = .ok (.return_, 1) := by decide +kernel
set_option maxRecDepth 20000 in
theorem ggX5_defect_X0_hasWater : GoodIn wsX5_defect wsX0_hasWater := goodIn_ca (goodIn_r _ [11, 12, 38, 39, 40, 41, 42] (by decide +kernel) (by decide +kernel)) (goodIn_sub (fun _ h => List.mem_cons_of_mem _ (List.mem_append_left _ (List.mem_append_right _ h))) (by decide +kernel))
set_option maxRecDepth 20000 in
theorem gX5_defect_X0_hasWater : GoodIn wsX5_defect (wsV RX5 118 RX0 yX0_hasWater wsX0_hasWater) := goodIn_app (goodIn_of _ (by decide +kernel)) ggX5_defect_X0_hasWater
set_option maxRecDepth 20000 in
theorem ggX5_defect_X0_degrees : GoodIn wsX5_defect wsX0_degrees := goodIn_ca (goodIn_ca (goodIn_r _ [16, 17, 12, 18, 19, 20, 38, 39, 40, 41, 42] (by decide +kernel) (by decide +kernel)) (goodIn_sub (fun _ h => List.mem_cons_of_mem _ (List.mem_append_left _ (List.mem_append_right _ h))) (by decide +kernel))) (goodIn_sub (fun _ h => List.mem_cons_of_mem _ (List.mem_append_right _ h)) (by decide +kernel))
set_option maxRecDepth 20000 in
theorem gX5_defect_X0_degrees : GoodIn wsX5_defect (wsV RX5 114 RX0 yX0_degrees wsX0_degrees) := goodIn_app (goodIn_of _ (by decide +kernel)) ggX5_defect_X0_degrees
set_option maxRecDepth 20000 in
theorem ggX5_defect_X2_note : GoodIn wsX5_defect wsX2_note := goodIn_ca (goodIn_r _ [25, 26, 27, 28, 29, 30, 31, 32, 33, 49, 50, 51, 52] (by decide +kernel) (by decide +kernel)) (goodIn_sub (fun _ h => List.mem_cons_of_mem _ (List.mem_append_left _ (List.mem_append_right _ h))) (by decide +kernel))
set_option maxRecDepth 20000 in
theorem gX5_defect_X2_note : GoodIn wsX5_defect (wsV RX5 83 RX2 yX2_note wsX2_note) := goodIn_app (goodIn_of _ (by decide +kernel)) ggX5_defect_X2_note
theorem dX5_defect_0 : decode cX5_defect 0 = .ok (.iconst 0, 1) := by decide +kernel
theorem dX5_defect_1 : decode cX5_defect 1 = .ok (.istore_n 1, 1) := by decide +kernel
theorem dX5_defect_2 : decode cX5_defect 2 = .ok (.iload_n 1, 1) := by decide +kernel
theorem dX5_defect_3 : decode cX5_defect 3 = .ok (.aload_n 0, 1) := by decide +kernel
theorem dX5_defect_4 : decode cX5_defect 4 = .ok (.getfield 12, 3) := by decide +kernel
theorem dX5_defect_7 : decode cX5_defect 7 = .ok (.getfield 52, 3) := by decide +kernel
theorem dX5_defect_10 : decode cX5_defect 10 = .ok (.if_icmp .ge 79, 3) := by decide +kernel
theorem dX5_defect_13 : decode cX5_defect 13 = .ok (.aload_n 0, 1) := by decide +kernel
theorem dX5_defect_14 : decode cX5_defect 14 = .ok (.getfield 12, 3) := by decide +kernel
theorem dX5_defect_17 : decode cX5_defect 17 = .ok (.getfield 111, 3) := by decide +kernel
theorem dX5_defect_20 : decode cX5_defect 20 = .ok (.iload_n 1, 1) := by decide +kernel
theorem dX5_defect_21 : decode cX5_defect 21 = .ok (.baload, 1) := by decide +kernel
theorem dX5_defect_22 : decode cX5_defect 22 = .ok (.ifCond .eq 61, 3) := by decide +kernel
theorem dX5_defect_25 : decode cX5_defect 25 = .ok (.aload_n 0, 1) := by decide +kernel
theorem dX5_defect_26 : decode cX5_defect 26 = .ok (.getfield 12, 3) := by decide +kernel
theorem dX5_defect_29 : decode cX5_defect 29 = .ok (.iload_n 1, 1) := by decide +kernel
theorem dX5_defect_30 : decode cX5_defect 30 = .ok (.invokevirtual 118, 3) := by decide +kernel
theorem dX5_defect_33 : decode cX5_defect 33 = .ok (.ifCond .eq 16, 3) := by decide +kernel
theorem dX5_defect_36 : decode cX5_defect 36 = .ok (.aload_n 0, 1) := by decide +kernel
theorem dX5_defect_37 : decode cX5_defect 37 = .ok (.getfield 12, 3) := by decide +kernel
theorem dX5_defect_40 : decode cX5_defect 40 = .ok (.iload_n 1, 1) := by decide +kernel
theorem dX5_defect_41 : decode cX5_defect 41 = .ok (.invokevirtual 114, 3) := by decide +kernel
theorem dX5_defect_44 : decode cX5_defect 44 = .ok (.bipush 25, 2) := by decide +kernel
theorem dX5_defect_46 : decode cX5_defect 46 = .ok (.if_icmp .ge 37, 3) := by decide +kernel
theorem dX5_defect_49 : decode cX5_defect 49 = .ok (.aload_n 0, 1) := by decide +kernel
theorem dX5_defect_50 : decode cX5_defect 50 = .ok (.getfield 12, 3) := by decide +kernel
theorem dX5_defect_53 : decode cX5_defect 53 = .ok (.getfield 111, 3) := by decide +kernel
theorem dX5_defect_56 : decode cX5_defect 56 = .ok (.iload_n 1, 1) := by decide +kernel
theorem dX5_defect_57 : decode cX5_defect 57 = .ok (.iconst 0, 1) := by decide +kernel
theorem dX5_defect_58 : decode cX5_defect 58 = .ok (.bastore, 1) := by decide +kernel
theorem dX5_defect_59 : decode cX5_defect 59 = .ok (.aload_n 0, 1) := by decide +kernel
theorem dX5_defect_60 : decode cX5_defect 60 = .ok (.getfield 35, 3) := by decide +kernel
theorem dX5_defect_63 : decode cX5_defect 63 = .ok (.dup, 1) := by decide +kernel
theorem dX5_defect_64 : decode cX5_defect 64 = .ok (.getfield 150, 3) := by decide +kernel
theorem dX5_defect_67 : decode cX5_defect 67 = .ok (.iconst 1, 1) := by decide +kernel
theorem dX5_defect_68 : decode cX5_defect 68 = .ok (.iadd, 1) := by decide +kernel
theorem dX5_defect_69 : decode cX5_defect 69 = .ok (.putfield 150, 3) := by decide +kernel
theorem dX5_defect_72 : decode cX5_defect 72 = .ok (.aload_n 0, 1) := by decide +kernel
theorem dX5_defect_73 : decode cX5_defect 73 = .ok (.getfield 28, 3) := by decide +kernel
theorem dX5_defect_76 : decode cX5_defect 76 = .ok (.bipush 100, 2) := by decide +kernel
theorem dX5_defect_78 : decode cX5_defect 78 = .ok (.iload_n 1, 1) := by decide +kernel
theorem dX5_defect_79 : decode cX5_defect 79 = .ok (.iconst (-1), 1) := by decide +kernel
theorem dX5_defect_80 : decode cX5_defect 80 = .ok (.invokevirtual 83, 3) := by decide +kernel
theorem dX5_defect_83 : decode cX5_defect 83 = .ok (.iinc 1 1, 3) := by decide +kernel
theorem dX5_defect_86 : decode cX5_defect 86 = .ok (.goto (-84), 3) := by decide +kernel
theorem dX5_defect_89 : decode cX5_defect 89 = .ok (.return_, 1) := by decide +kernel
theorem dX6_init_0 : decode cX6_init 0 = .ok (.aload_n 0, 1) := by decide +kernel
theorem dX6_init_1 : decode cX6_init 1 = .ok (.invokespecial 1, 3) := by decide +kernel
theorem dX6_init_4 : decode cX6_init 4 = .ok (.aload_n 0, 1) := by decide +kernel
theorem dX6_init_5 : decode cX6_init 5 = .ok (.iconst 0, 1) := by decide +kernel
theorem dX6_init_6 : decode cX6_init 6 = .ok (.putfield 7, 3) := by decide +kernel
theorem dX6_init_9 : decode cX6_init 9 = .ok (.aload_n 0, 1) := by decide +kernel
theorem dX6_init_10 : decode cX6_init 10 = .ok (.iconst 0, 1) := by decide +kernel
theorem dX6_init_11 : decode cX6_init 11 = .ok (.putfield 13, 3) := by decide +kernel
theorem dX6_init_14 : decode cX6_init 14 = .ok (.aload_n 0, 1) := by decide +kernel
theorem dX6_init_15 : decode cX6_init 15 = .ok (.iconst 0, 1) := by decide +kernel
theorem dX6_init_16 : decode cX6_init 16 = .ok (.putfield 16, 3) := by decide +kernel
theorem dX6_init_19 : decode cX6_init 19 = .ok (.aload_n 0, 1) := by decide +kernel
theorem dX6_init_20 : decode cX6_init 20 = .ok (.iconst 0, 1) := by decide +kernel
theorem dX6_init_21 : decode cX6_init 21 = .ok (.putfield 19, 3) := by decide +kernel
theorem dX6_init_24 : decode cX6_init 24 = .ok (.aload_n 0, 1) := by decide +kernel
theorem dX6_init_25 : decode cX6_init 25 = .ok (.iconst 0, 1) := by decide +kernel
theorem dX6_init_26 : decode cX6_init 26 = .ok (.putfield 22, 3) := by decide +kernel
theorem dX6_init_29 : decode cX6_init 29 = .ok (.aload_n 0, 1) := by decide +kernel
theorem dX6_init_30 : decode cX6_init 30 = .ok (.iconst 0, 1) := by decide +kernel
theorem dX6_init_31 : decode cX6_init 31 = .ok (.putfield 25, 3) := by decide +kernel
theorem dX6_init_34 : decode cX6_init 34 = .ok (.return_, 1) := by decide +kernel
theorem dX6_copyFrom_0 : decode cX6_copyFrom 0 = .ok (.aload_n 0, 1) := by decide +kernel
theorem dX6_copyFrom_1 : decode cX6_copyFrom 1 = .ok (.aload_n 1, 1) := by decide +kernel
theorem dX6_copyFrom_2 : decode cX6_copyFrom 2 = .ok (.getfield 7, 3) := by decide +kernel
theorem dX6_copyFrom_5 : decode cX6_copyFrom 5 = .ok (.putfield 7, 3) := by decide +kernel
theorem dX6_copyFrom_8 : decode cX6_copyFrom 8 = .ok (.aload_n 0, 1) := by decide +kernel
theorem dX6_copyFrom_9 : decode cX6_copyFrom 9 = .ok (.aload_n 1, 1) := by decide +kernel
theorem dX6_copyFrom_10 : decode cX6_copyFrom 10 = .ok (.getfield 13, 3) := by decide +kernel
theorem dX6_copyFrom_13 : decode cX6_copyFrom 13 = .ok (.putfield 13, 3) := by decide +kernel
theorem dX6_copyFrom_16 : decode cX6_copyFrom 16 = .ok (.aload_n 0, 1) := by decide +kernel
theorem dX6_copyFrom_17 : decode cX6_copyFrom 17 = .ok (.aload_n 1, 1) := by decide +kernel
theorem dX6_copyFrom_18 : decode cX6_copyFrom 18 = .ok (.getfield 16, 3) := by decide +kernel
theorem dX6_copyFrom_21 : decode cX6_copyFrom 21 = .ok (.putfield 16, 3) := by decide +kernel
theorem dX6_copyFrom_24 : decode cX6_copyFrom 24 = .ok (.aload_n 0, 1) := by decide +kernel
theorem dX6_copyFrom_25 : decode cX6_copyFrom 25 = .ok (.aload_n 1, 1) := by decide +kernel
theorem dX6_copyFrom_26 : decode cX6_copyFrom 26 = .ok (.getfield 19, 3) := by decide +kernel
theorem dX6_copyFrom_29 : decode cX6_copyFrom 29 = .ok (.putfield 19, 3) := by decide +kernel
theorem dX6_copyFrom_32 : decode cX6_copyFrom 32 = .ok (.aload_n 0, 1) := by decide +kernel
theorem dX6_copyFrom_33 : decode cX6_copyFrom 33 = .ok (.aload_n 1, 1) := by decide +kernel
theorem dX6_copyFrom_34 : decode cX6_copyFrom 34 = .ok (.getfield 22, 3) := by decide +kernel
theorem dX6_copyFrom_37 : decode cX6_copyFrom 37 = .ok (.putfield 22, 3) := by decide +kernel
theorem dX6_copyFrom_40 : decode cX6_copyFrom 40 = .ok (.aload_n 0, 1) := by decide +kernel
theorem dX6_copyFrom_41 : decode cX6_copyFrom 41 = .ok (.aload_n 1, 1) := by decide +kernel
theorem dX6_copyFrom_42 : decode cX6_copyFrom 42 = .ok (.getfield 25, 3) := by decide +kernel
theorem dX6_copyFrom_45 : decode cX6_copyFrom 45 = .ok (.putfield 25, 3) := by decide +kernel
theorem dX6_copyFrom_48 : decode cX6_copyFrom 48 = .ok (.return_, 1) := by decide +kernel
