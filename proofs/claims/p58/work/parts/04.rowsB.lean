set_option maxRecDepth 20000 in
theorem ggX7_init_X5_init : GoodIn wsX7_init wsX5_init := goodIn_r _ [26, 27, 2, 3, 28, 29, 30, 31, 32, 33, 34, 35, 36, 37, 38, 39, 40, 41, 42, 43, 44, 45, 46, 47, 48, 49, 50, 51, 52, 53, 54, 55, 56, 57, 58, 59, 60, 61, 62, 63, 64, 65, 66, 67, 68, 69, 70, 71, 72, 73, 74, 75, 76, 77, 78, 79, 149, 150, 151, 152, 153, 120, 121, 122, 123, 154, 155, 156, 157, 158, 159, 160, 161, 162, 163, 164, 165, 166, 167, 168, 169] (by decide +kernel) (by decide +kernel)
set_option maxRecDepth 20000 in
theorem gX7_init_X5_init_n11 : GoodIn wsX7_init (wsX5_init) := ggX7_init_X5_init
set_option maxRecDepth 20000 in
theorem ggX7_init_X3_init : GoodIn wsX7_init wsX3_init := goodIn_r _ [82, 83, 2, 3, 84, 85, 86, 87, 5, 6, 25, 26, 27, 28, 29, 30, 31, 32, 33, 34, 35, 36, 37, 38, 39, 40, 41, 42, 43, 44, 45, 46, 47, 48, 49, 50, 51, 52, 53, 54, 55, 56, 57, 58, 59, 60, 61, 62, 63, 64, 65, 66, 67, 68, 69, 70, 71, 72, 73, 74, 75, 76, 77, 78, 79, 133, 134, 135, 120, 121, 122, 123, 149, 150, 151, 152, 153, 154, 155, 156, 157, 158, 159, 160, 161, 162, 163, 164, 165, 166, 167, 168, 169] (by decide +kernel) (by decide +kernel)
set_option maxRecDepth 20000 in
theorem gX7_init_X3_init : GoodIn wsX7_init (wsX3_init) := ggX7_init_X3_init
set_option maxRecDepth 20000 in
theorem ggX7_init_X4_init : GoodIn wsX7_init wsX4_init := goodIn_r _ [89, 90, 2, 3, 67, 91, 92, 93, 94, 95, 48, 96, 97, 98, 99, 136, 137, 138, 139, 140, 141, 142, 143, 144] (by decide +kernel) (by decide +kernel)
set_option maxRecDepth 20000 in
theorem gX7_init_X4_init_n35 : GoodIn wsX7_init (wsX4_init) := ggX7_init_X4_init
set_option maxRecDepth 20000 in
theorem ggX7_init_J4_init_da8c8 : GoodIn wsX7_init wsJ4_init_da8c8 := goodIn_r _ [102, 103, 104, 105, 106, 107, 2, 3, 108, 109, 110, 111, 112, 113, 114, 115, 116, 117, 118, 119, 145, 146, 147, 148] (by decide +kernel) (by decide +kernel)
set_option maxRecDepth 20000 in
theorem gX7_init_J4_init_da8c8 : GoodIn wsX7_init (wsJ4_init_da8c8) := ggX7_init_J4_init_da8c8
theorem dX7_init_0 : decode cX7_init 0 = .ok (.aload_n 0, 1) := by decide +kernel
theorem dX7_init_1 : decode cX7_init 1 = .ok (.invokespecial 3, 3) := by decide +kernel
theorem dX7_init_4 : decode cX7_init 4 = .ok (.aload_n 0, 1) := by decide +kernel
theorem dX7_init_5 : decode cX7_init 5 = .ok (.new 9, 3) := by decide +kernel
theorem dX7_init_8 : decode cX7_init 8 = .ok (.dup, 1) := by decide +kernel
theorem dX7_init_9 : decode cX7_init 9 = .ok (.invokespecial 11, 3) := by decide +kernel
theorem dX7_init_12 : decode cX7_init 12 = .ok (.putfield 12, 3) := by decide +kernel
theorem dX7_init_15 : decode cX7_init 15 = .ok (.aload_n 0, 1) := by decide +kernel
theorem dX7_init_16 : decode cX7_init 16 = .ok (.new 9, 3) := by decide +kernel
theorem dX7_init_19 : decode cX7_init 19 = .ok (.dup, 1) := by decide +kernel
theorem dX7_init_20 : decode cX7_init 20 = .ok (.invokespecial 11, 3) := by decide +kernel
theorem dX7_init_23 : decode cX7_init 23 = .ok (.putfield 16, 3) := by decide +kernel
theorem dX7_init_26 : decode cX7_init 26 = .ok (.aload_n 0, 1) := by decide +kernel
theorem dX7_init_27 : decode cX7_init 27 = .ok (.new 9, 3) := by decide +kernel
theorem dX7_init_30 : decode cX7_init 30 = .ok (.dup, 1) := by decide +kernel
theorem dX7_init_31 : decode cX7_init 31 = .ok (.invokespecial 11, 3) := by decide +kernel
theorem dX7_init_34 : decode cX7_init 34 = .ok (.putfield 19, 3) := by decide +kernel
theorem dX7_init_37 : decode cX7_init 37 = .ok (.aload_n 0, 1) := by decide +kernel
theorem dX7_init_38 : decode cX7_init 38 = .ok (.iconst 0, 1) := by decide +kernel
theorem dX7_init_39 : decode cX7_init 39 = .ok (.putfield 22, 3) := by decide +kernel
theorem dX7_init_42 : decode cX7_init 42 = .ok (.aload_n 0, 1) := by decide +kernel
theorem dX7_init_43 : decode cX7_init 43 = .ok (.new 26, 3) := by decide +kernel
theorem dX7_init_46 : decode cX7_init 46 = .ok (.dup, 1) := by decide +kernel
theorem dX7_init_47 : decode cX7_init 47 = .ok (.invokespecial 28, 3) := by decide +kernel
theorem dX7_init_50 : decode cX7_init 50 = .ok (.putfield 29, 3) := by decide +kernel
theorem dX7_init_53 : decode cX7_init 53 = .ok (.aload_n 0, 1) := by decide +kernel
theorem dX7_init_54 : decode cX7_init 54 = .ok (.new 33, 3) := by decide +kernel
theorem dX7_init_57 : decode cX7_init 57 = .ok (.dup, 1) := by decide +kernel
theorem dX7_init_58 : decode cX7_init 58 = .ok (.invokespecial 35, 3) := by decide +kernel
theorem dX7_init_61 : decode cX7_init 61 = .ok (.putfield 36, 3) := by decide +kernel
theorem dX7_init_64 : decode cX7_init 64 = .ok (.aload_n 0, 1) := by decide +kernel
theorem dX7_init_65 : decode cX7_init 65 = .ok (.iconst (-1), 1) := by decide +kernel
theorem dX7_init_66 : decode cX7_init 66 = .ok (.putfield 40, 3) := by decide +kernel
theorem dX7_init_69 : decode cX7_init 69 = .ok (.aload_n 0, 1) := by decide +kernel
theorem dX7_init_70 : decode cX7_init 70 = .ok (.iconst (-1), 1) := by decide +kernel
theorem dX7_init_71 : decode cX7_init 71 = .ok (.putfield 44, 3) := by decide +kernel
theorem dX7_init_74 : decode cX7_init 74 = .ok (.aload_n 0, 1) := by decide +kernel
theorem dX7_init_75 : decode cX7_init 75 = .ok (.new 47, 3) := by decide +kernel
theorem dX7_init_78 : decode cX7_init 78 = .ok (.dup, 1) := by decide +kernel
theorem dX7_init_79 : decode cX7_init 79 = .ok (.invokespecial 49, 3) := by decide +kernel
theorem dX7_init_82 : decode cX7_init 82 = .ok (.putfield 50, 3) := by decide +kernel
theorem dX7_init_85 : decode cX7_init 85 = .ok (.return_, 1) := by decide +kernel
set_option maxRecDepth 20000 in
theorem ggX7_addBath_X5_placeBathFault : GoodIn wsX7_addBath wsX5_placeBathFault := goodIn_r _ [7, 8, 9, 98, 99, 100, 101, 102, 103, 104, 105, 106] (by decide +kernel) (by decide +kernel)
set_option maxRecDepth 20000 in
theorem gX7_addBath_X5_placeBathFault : GoodIn wsX7_addBath (wsV RX7 54 RX5 yX5_placeBathFault wsX5_placeBathFault) := goodIn_app (goodIn_of _ (by decide +kernel)) ggX7_addBath_X5_placeBathFault
set_option maxRecDepth 20000 in
theorem ggX7_addBath_X7_refuse : GoodIn wsX7_addBath wsX7_refuse := goodIn_ca (goodIn_ca (goodIn_ca (goodIn_ca (goodIn_ca (goodIn_r _ [13, 14, 15, 16, 17, 18, 19, 20, 21, 22, 23] (by decide +kernel) (by decide +kernel)) (goodIn_sub (fun _ h => List.mem_cons_of_mem _ (List.mem_append_left _ (List.mem_append_left _ (List.mem_append_left _ (List.mem_append_left _ (List.mem_append_left _ (List.mem_append_right _ h))))))) (by decide +kernel))) (goodIn_sub (fun _ h => List.mem_cons_of_mem _ (List.mem_append_left _ (List.mem_append_left _ (List.mem_append_left _ (List.mem_append_left _ (List.mem_append_right _ h)))))) (by decide +kernel))) (goodIn_sub (fun _ h => List.mem_cons_of_mem _ (List.mem_append_left _ (List.mem_append_left _ (List.mem_append_left _ (List.mem_append_right _ h))))) (by decide +kernel))) (goodIn_sub (fun _ h => List.mem_cons_of_mem _ (List.mem_append_left _ (List.mem_append_left _ (List.mem_append_right _ h)))) (by decide +kernel))) (goodIn_sub (fun _ h => List.mem_cons_of_mem _ (List.mem_append_left _ (List.mem_append_right _ h))) (by decide +kernel))
set_option maxRecDepth 20000 in
theorem gX7_addBath_X7_refuse : GoodIn wsX7_addBath (va_wsS RX7 58 yX7_refuse wsX7_refuse) := goodIn_app (goodIn_of _ (by decide +kernel)) ggX7_addBath_X7_refuse
set_option maxRecDepth 20000 in
theorem ggX7_addBath_X3_remember : GoodIn wsX7_addBath wsX3_remember := goodIn_ca (goodIn_r _ [28, 29, 30, 31, 32, 33, 34, 35, 36, 37, 38, 6, 39, 8, 40, 41, 42, 43, 44, 45, 46, 47, 48, 49, 50, 51, 52, 53, 54, 55, 56, 57, 58, 59, 60, 61, 62, 63, 64, 65, 66, 67, 68, 69, 70, 71, 72, 73, 74, 75, 76, 77, 78, 79, 80, 81, 82, 83, 107, 108, 109, 98, 99, 100, 101, 102, 103, 104, 105, 106, 110, 111, 112, 113, 114, 115, 116, 117, 118, 119, 120, 121, 122, 123, 124, 125] (by decide +kernel) (by decide +kernel)) (goodIn_sub (fun _ h => List.mem_cons_of_mem _ (List.mem_append_right _ h)) (by decide +kernel))
set_option maxRecDepth 20000 in
theorem gX7_addBath_X3_remember : GoodIn wsX7_addBath (wsV RX7 62 RX3 yX3_remember wsX3_remember) := goodIn_app (goodIn_of _ (by decide +kernel)) ggX7_addBath_X3_remember
set_option maxRecDepth 20000 in
theorem ggX7_addBath_X5_placeBath : GoodIn wsX7_addBath wsX5_placeBath := goodIn_ca (goodIn_r _ [87, 8, 9, 88, 98, 99, 100, 101, 102, 103, 104, 105, 106] (by decide +kernel) (by decide +kernel)) (goodIn_sub (fun _ h => List.mem_cons_of_mem _ (List.mem_append_right _ h)) (by decide +kernel))
set_option maxRecDepth 20000 in
theorem gX7_addBath_X5_placeBath : GoodIn wsX7_addBath (wsV RX7 66 RX5 yX5_placeBath wsX5_placeBath) := goodIn_app (goodIn_of _ (by decide +kernel)) ggX7_addBath_X5_placeBath
theorem dX7_addBath_0 : decode cX7_addBath 0 = .ok (.aload_n 0, 1) := by decide +kernel
theorem dX7_addBath_1 : decode cX7_addBath 1 = .ok (.getfield 12, 3) := by decide +kernel
theorem dX7_addBath_4 : decode cX7_addBath 4 = .ok (.invokevirtual 54, 3) := by decide +kernel
theorem dX7_addBath_7 : decode cX7_addBath 7 = .ok (.invokestatic 58, 3) := by decide +kernel
theorem dX7_addBath_10 : decode cX7_addBath 10 = .ok (.aload_n 0, 1) := by decide +kernel
theorem dX7_addBath_11 : decode cX7_addBath 11 = .ok (.getfield 29, 3) := by decide +kernel
theorem dX7_addBath_14 : decode cX7_addBath 14 = .ok (.aload_n 0, 1) := by decide +kernel
theorem dX7_addBath_15 : decode cX7_addBath 15 = .ok (.getfield 12, 3) := by decide +kernel
theorem dX7_addBath_18 : decode cX7_addBath 18 = .ok (.invokevirtual 62, 3) := by decide +kernel
theorem dX7_addBath_21 : decode cX7_addBath 21 = .ok (.aload_n 0, 1) := by decide +kernel
theorem dX7_addBath_22 : decode cX7_addBath 22 = .ok (.getfield 12, 3) := by decide +kernel
theorem dX7_addBath_25 : decode cX7_addBath 25 = .ok (.invokevirtual 66, 3) := by decide +kernel
theorem dX7_addBath_28 : decode cX7_addBath 28 = .ok (.ireturn, 1) := by decide +kernel
set_option maxRecDepth 20000 in
theorem ggX7_runTap_X5_fillFault : GoodIn wsX7_runTap wsX5_fillFault := goodIn_ca (goodIn_r _ [9, 10, 11, 12, 13, 14, 15, 16, 17, 18, 19, 20, 129, 130, 131, 132, 133, 134, 135, 136, 137] (by decide +kernel) (by decide +kernel)) (goodIn_sub (fun _ h => List.mem_cons_of_mem _ (List.mem_append_left _ (List.mem_append_left _ (List.mem_append_left _ (List.mem_append_left _ (List.mem_append_left _ (List.mem_append_left _ (List.mem_append_right _ h)))))))) (by decide +kernel))
set_option maxRecDepth 20000 in
theorem gX7_runTap_X5_fillFault : GoodIn wsX7_runTap (wsV RX7 69 RX5 yX5_fillFault wsX5_fillFault) := goodIn_app (goodIn_of _ (by decide +kernel)) ggX7_runTap_X5_fillFault
set_option maxRecDepth 20000 in
theorem ggX7_runTap_X7_refuse : GoodIn wsX7_runTap wsX7_refuse := goodIn_ca (goodIn_ca (goodIn_ca (goodIn_ca (goodIn_ca (goodIn_r _ [23, 24, 25, 26, 27, 28, 29, 30, 31, 32, 33] (by decide +kernel) (by decide +kernel)) (goodIn_sub (fun _ h => List.mem_cons_of_mem _ (List.mem_append_left _ (List.mem_append_left _ (List.mem_append_left _ (List.mem_append_left _ (List.mem_append_left _ (List.mem_append_right _ h))))))) (by decide +kernel))) (goodIn_sub (fun _ h => List.mem_cons_of_mem _ (List.mem_append_left _ (List.mem_append_left _ (List.mem_append_left _ (List.mem_append_left _ (List.mem_append_right _ h)))))) (by decide +kernel))) (goodIn_sub (fun _ h => List.mem_cons_of_mem _ (List.mem_append_left _ (List.mem_append_left _ (List.mem_append_left _ (List.mem_append_right _ h))))) (by decide +kernel))) (goodIn_sub (fun _ h => List.mem_cons_of_mem _ (List.mem_append_left _ (List.mem_append_left _ (List.mem_append_right _ h)))) (by decide +kernel))) (goodIn_sub (fun _ h => List.mem_cons_of_mem _ (List.mem_append_left _ (List.mem_append_right _ h))) (by decide +kernel))
set_option maxRecDepth 20000 in
theorem gX7_runTap_X7_refuse : GoodIn wsX7_runTap (va_wsS RX7 58 yX7_refuse wsX7_refuse) := goodIn_app (goodIn_of _ (by decide +kernel)) ggX7_runTap_X7_refuse
set_option maxRecDepth 20000 in
theorem ggX7_runTap_X3_remember : GoodIn wsX7_runTap wsX3_remember := goodIn_ca (goodIn_r _ [38, 39, 40, 41, 42, 43, 44, 45, 46, 47, 48, 8, 49, 10, 50, 51, 52, 53, 54, 55, 15, 56, 17, 57, 58, 59, 60, 61, 62, 63, 64, 65, 66, 67, 68, 69, 70, 71, 72, 73, 74, 75, 76, 77, 78, 79, 80, 81, 82, 83, 84, 85, 86, 87, 88, 89, 90, 91, 138, 139, 140, 129, 130, 131, 132, 133, 134, 135, 136, 137, 141, 142, 143, 144, 145, 146, 147, 148, 149, 150, 151, 152, 153, 154, 155, 156] (by decide +kernel) (by decide +kernel)) (goodIn_sub (fun _ h => List.mem_cons_of_mem _ (List.mem_append_left _ (List.mem_append_left _ (List.mem_append_left _ (List.mem_append_left _ (List.mem_append_left _ (List.mem_append_left _ (List.mem_append_right _ h)))))))) (by decide +kernel))
set_option maxRecDepth 20000 in
theorem gX7_runTap_X3_remember : GoodIn wsX7_runTap (wsV RX7 62 RX3 yX3_remember wsX3_remember) := goodIn_app (goodIn_of _ (by decide +kernel)) ggX7_runTap_X3_remember
set_option maxRecDepth 20000 in
theorem ggX7_runTap_X5_fill : GoodIn wsX7_runTap wsX5_fill := goodIn_ca (goodIn_ca (goodIn_r _ [95, 10, 11, 96, 52, 97, 98, 51, 50, 99, 100, 101, 75, 102, 78, 79, 80, 77, 103, 43, 44, 45, 104, 105, 106, 64, 107, 66, 71, 70, 108, 109, 110, 111, 67, 112, 113, 68, 69, 114, 19, 115, 116, 117, 118, 15, 119, 57, 129, 130, 131, 132, 133, 134, 135, 136, 137, 151, 152, 153, 154, 155, 156, 147, 148, 149, 150, 141, 142, 143, 144, 145, 146] (by decide +kernel) (by decide +kernel)) (goodIn_sub (fun _ h => List.mem_cons_of_mem _ (List.mem_append_left _ (List.mem_append_left _ (List.mem_append_left _ (List.mem_append_left _ (List.mem_append_left _ (List.mem_append_left _ (List.mem_append_right _ h)))))))) (by decide +kernel))) (goodIn_sub (fun _ h => List.mem_cons_of_mem _ (List.mem_append_right _ h)) (by decide +kernel))
set_option maxRecDepth 20000 in
theorem gX7_runTap_X5_fill : GoodIn wsX7_runTap (wsV RX7 73 RX5 yX5_fill wsX5_fill) := goodIn_app (goodIn_of _ (by decide +kernel)) ggX7_runTap_X5_fill
theorem dX7_runTap_0 : decode cX7_runTap 0 = .ok (.aload_n 0, 1) := by decide +kernel
theorem dX7_runTap_1 : decode cX7_runTap 1 = .ok (.getfield 12, 3) := by decide +kernel
theorem dX7_runTap_4 : decode cX7_runTap 4 = .ok (.iload_n 1, 1) := by decide +kernel
theorem dX7_runTap_5 : decode cX7_runTap 5 = .ok (.iload_n 2, 1) := by decide +kernel
theorem dX7_runTap_6 : decode cX7_runTap 6 = .ok (.iload_n 3, 1) := by decide +kernel
theorem dX7_runTap_7 : decode cX7_runTap 7 = .ok (.invokevirtual 69, 3) := by decide +kernel
theorem dX7_runTap_10 : decode cX7_runTap 10 = .ok (.invokestatic 58, 3) := by decide +kernel
theorem dX7_runTap_13 : decode cX7_runTap 13 = .ok (.aload_n 0, 1) := by decide +kernel
theorem dX7_runTap_14 : decode cX7_runTap 14 = .ok (.getfield 29, 3) := by decide +kernel
theorem dX7_runTap_17 : decode cX7_runTap 17 = .ok (.aload_n 0, 1) := by decide +kernel
theorem dX7_runTap_18 : decode cX7_runTap 18 = .ok (.getfield 12, 3) := by decide +kernel
theorem dX7_runTap_21 : decode cX7_runTap 21 = .ok (.invokevirtual 62, 3) := by decide +kernel
theorem dX7_runTap_24 : decode cX7_runTap 24 = .ok (.aload_n 0, 1) := by decide +kernel
theorem dX7_runTap_25 : decode cX7_runTap 25 = .ok (.getfield 12, 3) := by decide +kernel
theorem dX7_runTap_28 : decode cX7_runTap 28 = .ok (.iload_n 1, 1) := by decide +kernel
theorem dX7_runTap_29 : decode cX7_runTap 29 = .ok (.iload_n 2, 1) := by decide +kernel
theorem dX7_runTap_30 : decode cX7_runTap 30 = .ok (.iload_n 3, 1) := by decide +kernel
theorem dX7_runTap_31 : decode cX7_runTap 31 = .ok (.invokevirtual 73, 3) := by decide +kernel
theorem dX7_runTap_34 : decode cX7_runTap 34 = .ok (.aload_n 0, 1) := by decide +kernel
theorem dX7_runTap_35 : decode cX7_runTap 35 = .ok (.getfield 12, 3) := by decide +kernel
theorem dX7_runTap_38 : decode cX7_runTap 38 = .ok (.getfield 77, 3) := by decide +kernel
theorem dX7_runTap_41 : decode cX7_runTap 41 = .ok (.getfield 81, 3) := by decide +kernel
theorem dX7_runTap_44 : decode cX7_runTap 44 = .ok (.iload_n 1, 1) := by decide +kernel
theorem dX7_runTap_45 : decode cX7_runTap 45 = .ok (.iaload, 1) := by decide +kernel
theorem dX7_runTap_46 : decode cX7_runTap 46 = .ok (.ireturn, 1) := by decide +kernel
set_option maxRecDepth 20000 in
theorem ggX7_setPlug_X5_plugFault : GoodIn wsX7_setPlug wsX5_plugFault := goodIn_r _ [9, 10, 11, 12, 13, 14, 15, 16, 103, 104, 105, 106, 107, 108, 109, 110, 111] (by decide +kernel) (by decide +kernel)
set_option maxRecDepth 20000 in
theorem gX7_setPlug_X5_plugFault : GoodIn wsX7_setPlug (wsV RX7 87 RX5 yX5_plugFault wsX5_plugFault) := goodIn_app (goodIn_of _ (by decide +kernel)) ggX7_setPlug_X5_plugFault
set_option maxRecDepth 20000 in
theorem ggX7_setPlug_X7_refuse : GoodIn wsX7_setPlug wsX7_refuse := goodIn_ca (goodIn_ca (goodIn_ca (goodIn_ca (goodIn_ca (goodIn_r _ [20, 21, 22, 23, 24, 25, 26, 27, 28, 29, 30] (by decide +kernel) (by decide +kernel)) (goodIn_sub (fun _ h => List.mem_cons_of_mem _ (List.mem_append_left _ (List.mem_append_left _ (List.mem_append_left _ (List.mem_append_left _ (List.mem_append_right _ h)))))) (by decide +kernel))) (goodIn_sub (fun _ h => List.mem_cons_of_mem _ (List.mem_append_left _ (List.mem_append_left _ (List.mem_append_left _ (List.mem_append_right _ h))))) (by decide +kernel))) (goodIn_sub (fun _ h => List.mem_cons_of_mem _ (List.mem_append_left _ (List.mem_append_left _ (List.mem_append_right _ h)))) (by decide +kernel))) (goodIn_sub (fun _ h => List.mem_cons_of_mem _ (List.mem_append_left _ (List.mem_append_right _ h))) (by decide +kernel))) (goodIn_sub (fun _ h => List.mem_cons_of_mem _ (List.mem_append_right _ h)) (by decide +kernel))
set_option maxRecDepth 20000 in
theorem gX7_setPlug_X7_refuse : GoodIn wsX7_setPlug (va_wsS RX7 58 yX7_refuse wsX7_refuse) := goodIn_app (goodIn_of _ (by decide +kernel)) ggX7_setPlug_X7_refuse
set_option maxRecDepth 20000 in
theorem ggX7_setPlug_X3_remember : GoodIn wsX7_setPlug wsX3_remember := goodIn_ca (goodIn_r _ [35, 36, 37, 38, 39, 40, 41, 42, 43, 44, 45, 8, 46, 10, 47, 48, 49, 50, 51, 52, 14, 53, 16, 54, 55, 56, 57, 58, 59, 60, 61, 62, 63, 64, 65, 66, 67, 68, 69, 70, 71, 72, 73, 74, 75, 76, 77, 78, 79, 80, 81, 82, 83, 84, 85, 86, 87, 88, 112, 113, 114, 103, 104, 105, 106, 107, 108, 109, 110, 111, 115, 116, 117, 118, 119, 120, 121, 122, 123, 124, 125, 126, 127, 128, 129, 130] (by decide +kernel) (by decide +kernel)) (goodIn_sub (fun _ h => List.mem_cons_of_mem _ (List.mem_append_left _ (List.mem_append_left _ (List.mem_append_left _ (List.mem_append_left _ (List.mem_append_left _ (List.mem_append_right _ h))))))) (by decide +kernel))
set_option maxRecDepth 20000 in
theorem gX7_setPlug_X3_remember : GoodIn wsX7_setPlug (wsV RX7 62 RX3 yX3_remember wsX3_remember) := goodIn_app (goodIn_of _ (by decide +kernel)) ggX7_setPlug_X3_remember
set_option maxRecDepth 20000 in
theorem ggX7_setPlug_X5_plug : GoodIn wsX7_setPlug wsX5_plug := goodIn_ca (goodIn_r _ [92, 10, 93, 103, 104, 105, 106, 107, 108, 109, 110, 111] (by decide +kernel) (by decide +kernel)) (goodIn_sub (fun _ h => List.mem_cons_of_mem _ (List.mem_append_left _ (List.mem_append_left _ (List.mem_append_left _ (List.mem_append_left _ (List.mem_append_left _ (List.mem_append_right _ h))))))) (by decide +kernel))
set_option maxRecDepth 20000 in
theorem gX7_setPlug_X5_plug : GoodIn wsX7_setPlug (wsV RX7 95 RX5 yX5_plug wsX5_plug) := goodIn_app (goodIn_of _ (by decide +kernel)) ggX7_setPlug_X5_plug
theorem dX7_setPlug_0 : decode cX7_setPlug 0 = .ok (.aload_n 0, 1) := by decide +kernel
theorem dX7_setPlug_1 : decode cX7_setPlug 1 = .ok (.getfield 12, 3) := by decide +kernel
theorem dX7_setPlug_4 : decode cX7_setPlug 4 = .ok (.iload_n 1, 1) := by decide +kernel
theorem dX7_setPlug_5 : decode cX7_setPlug 5 = .ok (.invokevirtual 87, 3) := by decide +kernel
theorem dX7_setPlug_8 : decode cX7_setPlug 8 = .ok (.invokestatic 58, 3) := by decide +kernel
theorem dX7_setPlug_11 : decode cX7_setPlug 11 = .ok (.aload_n 0, 1) := by decide +kernel
theorem dX7_setPlug_12 : decode cX7_setPlug 12 = .ok (.getfield 29, 3) := by decide +kernel
theorem dX7_setPlug_15 : decode cX7_setPlug 15 = .ok (.aload_n 0, 1) := by decide +kernel
theorem dX7_setPlug_16 : decode cX7_setPlug 16 = .ok (.getfield 12, 3) := by decide +kernel
theorem dX7_setPlug_19 : decode cX7_setPlug 19 = .ok (.invokevirtual 62, 3) := by decide +kernel
theorem dX7_setPlug_22 : decode cX7_setPlug 22 = .ok (.aload_n 0, 1) := by decide +kernel
theorem dX7_setPlug_23 : decode cX7_setPlug 23 = .ok (.getfield 12, 3) := by decide +kernel
theorem dX7_setPlug_26 : decode cX7_setPlug 26 = .ok (.getfield 77, 3) := by decide +kernel
theorem dX7_setPlug_29 : decode cX7_setPlug 29 = .ok (.getfield 91, 3) := by decide +kernel
theorem dX7_setPlug_32 : decode cX7_setPlug 32 = .ok (.iload_n 1, 1) := by decide +kernel
theorem dX7_setPlug_33 : decode cX7_setPlug 33 = .ok (.baload, 1) := by decide +kernel
theorem dX7_setPlug_34 : decode cX7_setPlug 34 = .ok (.istore_n 3, 1) := by decide +kernel
theorem dX7_setPlug_35 : decode cX7_setPlug 35 = .ok (.aload_n 0, 1) := by decide +kernel
theorem dX7_setPlug_36 : decode cX7_setPlug 36 = .ok (.getfield 12, 3) := by decide +kernel
theorem dX7_setPlug_39 : decode cX7_setPlug 39 = .ok (.iload_n 1, 1) := by decide +kernel
theorem dX7_setPlug_40 : decode cX7_setPlug 40 = .ok (.iload_n 2, 1) := by decide +kernel
theorem dX7_setPlug_41 : decode cX7_setPlug 41 = .ok (.invokevirtual 95, 3) := by decide +kernel
theorem dX7_setPlug_44 : decode cX7_setPlug 44 = .ok (.iload_n 3, 1) := by decide +kernel
theorem dX7_setPlug_45 : decode cX7_setPlug 45 = .ok (.ireturn, 1) := by decide +kernel
set_option maxRecDepth 20000 in
theorem ggX7_pour_X5_transferFault : GoodIn wsX7_pour wsX5_transferFault := goodIn_ca (goodIn_r _ [7, 8, 9, 10, 11, 12, 13, 14, 15, 128, 129, 130, 131, 132, 133, 134, 135, 136] (by decide +kernel) (by decide +kernel)) (goodIn_sub (fun _ h => List.mem_cons_of_mem _ (List.mem_append_left _ (List.mem_append_left _ (List.mem_append_left _ (List.mem_append_left _ (List.mem_append_left _ (List.mem_append_left _ (List.mem_append_right _ h)))))))) (by decide +kernel))
set_option maxRecDepth 20000 in
theorem gX7_pour_X5_transferFault : GoodIn wsX7_pour (wsV RX7 99 RX5 yX5_transferFault wsX5_transferFault) := goodIn_app (goodIn_of _ (by decide +kernel)) ggX7_pour_X5_transferFault
set_option maxRecDepth 20000 in
theorem ggX7_pour_X7_refuse : GoodIn wsX7_pour wsX7_refuse := goodIn_ca (goodIn_ca (goodIn_ca (goodIn_ca (goodIn_ca (goodIn_r _ [19, 20, 21, 22, 23, 24, 25, 26, 27, 28, 29] (by decide +kernel) (by decide +kernel)) (goodIn_sub (fun _ h => List.mem_cons_of_mem _ (List.mem_append_left _ (List.mem_append_left _ (List.mem_append_left _ (List.mem_append_left _ (List.mem_append_left _ (List.mem_append_right _ h))))))) (by decide +kernel))) (goodIn_sub (fun _ h => List.mem_cons_of_mem _ (List.mem_append_left _ (List.mem_append_left _ (List.mem_append_left _ (List.mem_append_left _ (List.mem_append_right _ h)))))) (by decide +kernel))) (goodIn_sub (fun _ h => List.mem_cons_of_mem _ (List.mem_append_left _ (List.mem_append_left _ (List.mem_append_left _ (List.mem_append_right _ h))))) (by decide +kernel))) (goodIn_sub (fun _ h => List.mem_cons_of_mem _ (List.mem_append_left _ (List.mem_append_left _ (List.mem_append_right _ h)))) (by decide +kernel))) (goodIn_sub (fun _ h => List.mem_cons_of_mem _ (List.mem_append_left _ (List.mem_append_right _ h))) (by decide +kernel))
set_option maxRecDepth 20000 in
theorem gX7_pour_X7_refuse : GoodIn wsX7_pour (va_wsS RX7 58 yX7_refuse wsX7_refuse) := goodIn_app (goodIn_of _ (by decide +kernel)) ggX7_pour_X7_refuse
set_option maxRecDepth 20000 in
theorem ggX7_pour_X3_remember : GoodIn wsX7_pour wsX3_remember := goodIn_ca (goodIn_r _ [34, 35, 36, 37, 38, 39, 40, 41, 42, 43, 44, 6, 45, 8, 46, 47, 48, 49, 50, 51, 13, 52, 15, 53, 54, 55, 56, 57, 58, 59, 60, 61, 62, 63, 64, 65, 66, 67, 68, 69, 70, 71, 72, 73, 74, 75, 76, 77, 78, 79, 80, 81, 82, 83, 84, 85, 86, 87, 137, 138, 139, 128, 129, 130, 131, 132, 133, 134, 135, 136, 140, 141, 142, 143, 144, 145, 146, 147, 148, 149, 150, 151, 152, 153, 154, 155] (by decide +kernel) (by decide +kernel)) (goodIn_sub (fun _ h => List.mem_cons_of_mem _ (List.mem_append_left _ (List.mem_append_left _ (List.mem_append_left _ (List.mem_append_left _ (List.mem_append_left _ (List.mem_append_left _ (List.mem_append_right _ h)))))))) (by decide +kernel))
set_option maxRecDepth 20000 in
theorem gX7_pour_X3_remember : GoodIn wsX7_pour (wsV RX7 62 RX3 yX3_remember wsX3_remember) := goodIn_app (goodIn_of _ (by decide +kernel)) ggX7_pour_X3_remember
set_option maxRecDepth 20000 in
theorem ggX7_pour_X5_transfer : GoodIn wsX7_pour wsX5_transfer := goodIn_ca (goodIn_ca (goodIn_r _ [91, 8, 9, 92, 47, 46, 93, 94, 95, 13, 96, 54, 53, 97, 98, 99, 100, 101, 102, 103, 71, 104, 74, 75, 76, 73, 105, 39, 40, 41, 106, 107, 108, 60, 109, 62, 67, 66, 110, 111, 112, 113, 63, 114, 115, 64, 65, 116, 18, 117, 118, 128, 129, 130, 131, 132, 133, 134, 135, 136, 146, 147, 148, 149, 140, 141, 142, 143, 144, 145] (by decide +kernel) (by decide +kernel)) (goodIn_sub (fun _ h => List.mem_cons_of_mem _ (List.mem_append_left _ (List.mem_append_left _ (List.mem_append_left _ (List.mem_append_left _ (List.mem_append_left _ (List.mem_append_left _ (List.mem_append_right _ h)))))))) (by decide +kernel))) (goodIn_sub (fun _ h => List.mem_cons_of_mem _ (List.mem_append_right _ h)) (by decide +kernel))
set_option maxRecDepth 20000 in
theorem gX7_pour_X5_transfer : GoodIn wsX7_pour (wsV RX7 102 RX5 yX5_transfer wsX5_transfer) := goodIn_app (goodIn_of _ (by decide +kernel)) ggX7_pour_X5_transfer
theorem dX7_pour_0 : decode cX7_pour 0 = .ok (.aload_n 0, 1) := by decide +kernel
theorem dX7_pour_1 : decode cX7_pour 1 = .ok (.getfield 12, 3) := by decide +kernel
theorem dX7_pour_4 : decode cX7_pour 4 = .ok (.iload_n 1, 1) := by decide +kernel
theorem dX7_pour_5 : decode cX7_pour 5 = .ok (.iload_n 2, 1) := by decide +kernel
theorem dX7_pour_6 : decode cX7_pour 6 = .ok (.iload_n 3, 1) := by decide +kernel
theorem dX7_pour_7 : decode cX7_pour 7 = .ok (.invokevirtual 99, 3) := by decide +kernel
theorem dX7_pour_10 : decode cX7_pour 10 = .ok (.invokestatic 58, 3) := by decide +kernel
theorem dX7_pour_13 : decode cX7_pour 13 = .ok (.aload_n 0, 1) := by decide +kernel
theorem dX7_pour_14 : decode cX7_pour 14 = .ok (.getfield 29, 3) := by decide +kernel
theorem dX7_pour_17 : decode cX7_pour 17 = .ok (.aload_n 0, 1) := by decide +kernel
theorem dX7_pour_18 : decode cX7_pour 18 = .ok (.getfield 12, 3) := by decide +kernel
theorem dX7_pour_21 : decode cX7_pour 21 = .ok (.invokevirtual 62, 3) := by decide +kernel
theorem dX7_pour_24 : decode cX7_pour 24 = .ok (.aload_n 0, 1) := by decide +kernel
theorem dX7_pour_25 : decode cX7_pour 25 = .ok (.getfield 12, 3) := by decide +kernel
theorem dX7_pour_28 : decode cX7_pour 28 = .ok (.iload_n 1, 1) := by decide +kernel
theorem dX7_pour_29 : decode cX7_pour 29 = .ok (.iload_n 2, 1) := by decide +kernel
theorem dX7_pour_30 : decode cX7_pour 30 = .ok (.iload_n 3, 1) := by decide +kernel
theorem dX7_pour_31 : decode cX7_pour 31 = .ok (.invokevirtual 102, 3) := by decide +kernel
theorem dX7_pour_34 : decode cX7_pour 34 = .ok (.ireturn, 1) := by decide +kernel
set_option maxRecDepth 20000 in
theorem ggX7_addDuck_X5_placeDuckFault : GoodIn wsX7_addDuck wsX5_placeDuckFault := goodIn_r _ [7, 8, 9, 10, 11, 12, 13, 14, 15, 16, 117, 118, 119, 120, 121, 122, 123, 124, 125, 126, 127, 128, 129, 130, 131] (by decide +kernel) (by decide +kernel)
set_option maxRecDepth 20000 in
theorem gX7_addDuck_X5_placeDuckFault : GoodIn wsX7_addDuck (wsV RX7 105 RX5 yX5_placeDuckFault wsX5_placeDuckFault) := goodIn_app (goodIn_of _ (by decide +kernel)) ggX7_addDuck_X5_placeDuckFault
set_option maxRecDepth 20000 in
theorem ggX7_addDuck_X7_refuse : GoodIn wsX7_addDuck wsX7_refuse := goodIn_ca (goodIn_ca (goodIn_ca (goodIn_ca (goodIn_ca (goodIn_r _ [20, 21, 22, 23, 24, 25, 26, 27, 28, 29, 30] (by decide +kernel) (by decide +kernel)) (goodIn_sub (fun _ h => List.mem_cons_of_mem _ (List.mem_append_left _ (List.mem_append_left _ (List.mem_append_left _ (List.mem_append_left _ (List.mem_append_left _ (List.mem_append_left _ (List.mem_append_right _ h)))))))) (by decide +kernel))) (goodIn_sub (fun _ h => List.mem_cons_of_mem _ (List.mem_append_left _ (List.mem_append_left _ (List.mem_append_left _ (List.mem_append_left _ (List.mem_append_left _ (List.mem_append_right _ h))))))) (by decide +kernel))) (goodIn_sub (fun _ h => List.mem_cons_of_mem _ (List.mem_append_left _ (List.mem_append_left _ (List.mem_append_left _ (List.mem_append_left _ (List.mem_append_right _ h)))))) (by decide +kernel))) (goodIn_sub (fun _ h => List.mem_cons_of_mem _ (List.mem_append_left _ (List.mem_append_left _ (List.mem_append_left _ (List.mem_append_right _ h))))) (by decide +kernel))) (goodIn_sub (fun _ h => List.mem_cons_of_mem _ (List.mem_append_left _ (List.mem_append_left _ (List.mem_append_right _ h)))) (by decide +kernel))
set_option maxRecDepth 20000 in
theorem gX7_addDuck_X7_refuse : GoodIn wsX7_addDuck (va_wsS RX7 58 yX7_refuse wsX7_refuse) := goodIn_app (goodIn_of _ (by decide +kernel)) ggX7_addDuck_X7_refuse
set_option maxRecDepth 20000 in
theorem ggX7_addDuck_X3_remember : GoodIn wsX7_addDuck wsX3_remember := goodIn_ca (goodIn_r _ [35, 36, 37, 38, 39, 40, 41, 42, 43, 44, 45, 6, 46, 8, 9, 47, 48, 49, 50, 51, 14, 52, 16, 53, 54, 55, 56, 57, 58, 59, 60, 61, 62, 63, 64, 65, 66, 67, 68, 69, 70, 71, 72, 73, 74, 75, 76, 77, 78, 79, 80, 81, 82, 83, 84, 85, 86, 87, 132, 133, 134, 117, 118, 119, 120, 127, 128, 129, 130, 131, 121, 122, 123, 124, 125, 126, 135, 136, 137, 138, 139, 140, 141, 142, 143, 144] (by decide +kernel) (by decide +kernel)) (goodIn_sub (fun _ h => List.mem_cons_of_mem _ (List.mem_append_left _ (List.mem_append_right _ h))) (by decide +kernel))
set_option maxRecDepth 20000 in
theorem gX7_addDuck_X3_remember : GoodIn wsX7_addDuck (wsV RX7 62 RX3 yX3_remember wsX3_remember) := goodIn_app (goodIn_of _ (by decide +kernel)) ggX7_addDuck_X3_remember
set_option maxRecDepth 20000 in
theorem ggX7_addDuck_X5_placeDuck : GoodIn wsX7_addDuck wsX5_placeDuck := goodIn_ca (goodIn_ca (goodIn_r _ [91, 9, 10, 92, 93, 94, 95, 8, 96, 97, 98, 60, 99, 63, 100, 101, 64, 65, 102, 19, 103, 104, 105, 106, 14, 107, 53, 117, 118, 119, 120, 121, 122, 123, 124, 125, 126, 127, 128, 129, 130, 131] (by decide +kernel) (by decide +kernel)) (goodIn_sub (fun _ h => List.mem_cons_of_mem _ (List.mem_append_left _ (List.mem_append_right _ h))) (by decide +kernel))) (goodIn_sub (fun _ h => List.mem_cons_of_mem _ (List.mem_append_right _ h)) (by decide +kernel))
set_option maxRecDepth 20000 in
theorem gX7_addDuck_X5_placeDuck : GoodIn wsX7_addDuck (wsV RX7 108 RX5 yX5_placeDuck wsX5_placeDuck) := goodIn_app (goodIn_of _ (by decide +kernel)) ggX7_addDuck_X5_placeDuck
theorem dX7_addDuck_0 : decode cX7_addDuck 0 = .ok (.aload_n 0, 1) := by decide +kernel
theorem dX7_addDuck_1 : decode cX7_addDuck 1 = .ok (.getfield 12, 3) := by decide +kernel
theorem dX7_addDuck_4 : decode cX7_addDuck 4 = .ok (.iload_n 1, 1) := by decide +kernel
theorem dX7_addDuck_5 : decode cX7_addDuck 5 = .ok (.iload_n 2, 1) := by decide +kernel
theorem dX7_addDuck_6 : decode cX7_addDuck 6 = .ok (.iload_n 3, 1) := by decide +kernel
theorem dX7_addDuck_7 : decode cX7_addDuck 7 = .ok (.invokevirtual 105, 3) := by decide +kernel
theorem dX7_addDuck_10 : decode cX7_addDuck 10 = .ok (.invokestatic 58, 3) := by decide +kernel
theorem dX7_addDuck_13 : decode cX7_addDuck 13 = .ok (.aload_n 0, 1) := by decide +kernel
theorem dX7_addDuck_14 : decode cX7_addDuck 14 = .ok (.getfield 29, 3) := by decide +kernel
theorem dX7_addDuck_17 : decode cX7_addDuck 17 = .ok (.aload_n 0, 1) := by decide +kernel
theorem dX7_addDuck_18 : decode cX7_addDuck 18 = .ok (.getfield 12, 3) := by decide +kernel
theorem dX7_addDuck_21 : decode cX7_addDuck 21 = .ok (.invokevirtual 62, 3) := by decide +kernel
theorem dX7_addDuck_24 : decode cX7_addDuck 24 = .ok (.aload_n 0, 1) := by decide +kernel
theorem dX7_addDuck_25 : decode cX7_addDuck 25 = .ok (.getfield 12, 3) := by decide +kernel
theorem dX7_addDuck_28 : decode cX7_addDuck 28 = .ok (.iload_n 1, 1) := by decide +kernel
theorem dX7_addDuck_29 : decode cX7_addDuck 29 = .ok (.iload_n 2, 1) := by decide +kernel
theorem dX7_addDuck_30 : decode cX7_addDuck 30 = .ok (.iload_n 3, 1) := by decide +kernel
theorem dX7_addDuck_31 : decode cX7_addDuck 31 = .ok (.invokevirtual 108, 3) := by decide +kernel
theorem dX7_addDuck_34 : decode cX7_addDuck 34 = .ok (.ireturn, 1) := by decide +kernel
set_option maxRecDepth 20000 in
theorem ggX7_join_X5_admitFault : GoodIn wsX7_join wsX5_admitFault := goodIn_ca (goodIn_ca (goodIn_r _ [8, 9, 10, 11, 12, 13, 14, 15, 16, 17, 18, 19, 20, 21, 22, 23, 24, 25, 26, 27, 28, 29, 121, 122, 123, 124, 125, 126, 127, 128, 129] (by decide +kernel) (by decide +kernel)) (goodIn_sub (fun _ h => List.mem_cons_of_mem _ (List.mem_append_left _ (List.mem_append_left _ (List.mem_append_left _ (List.mem_append_left _ (List.mem_append_left _ (List.mem_append_left _ (List.mem_append_right _ h)))))))) (by decide +kernel))) (goodIn_sub (fun _ h => List.mem_cons_of_mem _ (List.mem_append_left _ (List.mem_append_left _ (List.mem_append_left _ (List.mem_append_left _ (List.mem_append_left _ (List.mem_append_right _ h))))))) (by decide +kernel))
set_option maxRecDepth 20000 in
theorem gX7_join_X5_admitFault : GoodIn wsX7_join (wsV RX7 111 RX5 yX5_admitFault wsX5_admitFault) := goodIn_app (goodIn_of _ (by decide +kernel)) ggX7_join_X5_admitFault
set_option maxRecDepth 20000 in
theorem ggX7_join_X7_refuse : GoodIn wsX7_join wsX7_refuse := goodIn_ca (goodIn_ca (goodIn_ca (goodIn_ca (goodIn_ca (goodIn_r _ [32, 33, 34, 35, 36, 37, 38, 39, 40, 41, 42] (by decide +kernel) (by decide +kernel)) (goodIn_sub (fun _ h => List.mem_cons_of_mem _ (List.mem_append_left _ (List.mem_append_left _ (List.mem_append_left _ (List.mem_append_left _ (List.mem_append_right _ h)))))) (by decide +kernel))) (goodIn_sub (fun _ h => List.mem_cons_of_mem _ (List.mem_append_left _ (List.mem_append_left _ (List.mem_append_left _ (List.mem_append_right _ h))))) (by decide +kernel))) (goodIn_sub (fun _ h => List.mem_cons_of_mem _ (List.mem_append_left _ (List.mem_append_left _ (List.mem_append_right _ h)))) (by decide +kernel))) (goodIn_sub (fun _ h => List.mem_cons_of_mem _ (List.mem_append_left _ (List.mem_append_right _ h))) (by decide +kernel))) (goodIn_sub (fun _ h => List.mem_cons_of_mem _ (List.mem_append_right _ h)) (by decide +kernel))
set_option maxRecDepth 20000 in
theorem gX7_join_X7_refuse : GoodIn wsX7_join (va_wsS RX7 58 yX7_refuse wsX7_refuse) := goodIn_app (goodIn_of _ (by decide +kernel)) ggX7_join_X7_refuse
set_option maxRecDepth 20000 in
theorem ggX7_join_X3_remember : GoodIn wsX7_join wsX3_remember := goodIn_ca (goodIn_r _ [47, 48, 49, 50, 51, 52, 53, 54, 55, 56, 57, 7, 58, 9, 59, 60, 61, 62, 63, 64, 14, 65, 16, 22, 21, 66, 67, 68, 69, 70, 71, 72, 73, 74, 75, 76, 77, 78, 79, 80, 81, 82, 83, 84, 85, 86, 87, 88, 89, 90, 91, 92, 93, 94, 95, 96, 97, 98, 130, 131, 132, 121, 122, 123, 124, 125, 126, 127, 128, 129, 133, 134, 135, 136, 137, 138, 139, 140, 141, 142, 143, 144, 145, 146, 147, 148] (by decide +kernel) (by decide +kernel)) (goodIn_sub (fun _ h => List.mem_cons_of_mem _ (List.mem_append_left _ (List.mem_append_left _ (List.mem_append_left _ (List.mem_append_left _ (List.mem_append_left _ (List.mem_append_left _ (List.mem_append_right _ h)))))))) (by decide +kernel))
set_option maxRecDepth 20000 in
theorem gX7_join_X3_remember : GoodIn wsX7_join (wsV RX7 62 RX3 yX3_remember wsX3_remember) := goodIn_app (goodIn_of _ (by decide +kernel)) ggX7_join_X3_remember
set_option maxRecDepth 20000 in
theorem ggX7_join_X5_admit : GoodIn wsX7_join wsX5_admit := goodIn_ca (goodIn_r _ [102, 9, 10, 60, 103, 104, 105, 82, 106, 85, 86, 87, 84, 107, 52, 53, 54, 121, 122, 123, 124, 125, 126, 127, 128, 129, 139, 140, 141, 142] (by decide +kernel) (by decide +kernel)) (goodIn_sub (fun _ h => List.mem_cons_of_mem _ (List.mem_append_left _ (List.mem_append_left _ (List.mem_append_left _ (List.mem_append_left _ (List.mem_append_left _ (List.mem_append_left _ (List.mem_append_right _ h)))))))) (by decide +kernel))
set_option maxRecDepth 20000 in
theorem gX7_join_X5_admit : GoodIn wsX7_join (wsV RX7 114 RX5 yX5_admit wsX5_admit) := goodIn_app (goodIn_of _ (by decide +kernel)) ggX7_join_X5_admit
set_option maxRecDepth 20000 in
theorem ggX7_join_X0_members : GoodIn wsX7_join wsX0_members := goodIn_ca (goodIn_r _ [111, 16, 67, 125, 126, 127, 128, 129] (by decide +kernel) (by decide +kernel)) (goodIn_sub (fun _ h => List.mem_cons_of_mem _ (List.mem_append_left _ (List.mem_append_left _ (List.mem_append_left _ (List.mem_append_left _ (List.mem_append_left _ (List.mem_append_left _ (List.mem_append_right _ h)))))))) (by decide +kernel))
set_option maxRecDepth 20000 in
theorem gX7_join_X0_members : GoodIn wsX7_join (wsV RX7 117 RX0 yX0_members wsX0_members) := goodIn_app (goodIn_of _ (by decide +kernel)) ggX7_join_X0_members
theorem dX7_join_0 : decode cX7_join 0 = .ok (.aload_n 0, 1) := by decide +kernel
theorem dX7_join_1 : decode cX7_join 1 = .ok (.getfield 12, 3) := by decide +kernel
theorem dX7_join_4 : decode cX7_join 4 = .ok (.iload_n 1, 1) := by decide +kernel
theorem dX7_join_5 : decode cX7_join 5 = .ok (.invokevirtual 111, 3) := by decide +kernel
theorem dX7_join_8 : decode cX7_join 8 = .ok (.invokestatic 58, 3) := by decide +kernel
theorem dX7_join_11 : decode cX7_join 11 = .ok (.aload_n 0, 1) := by decide +kernel
theorem dX7_join_12 : decode cX7_join 12 = .ok (.getfield 29, 3) := by decide +kernel
theorem dX7_join_15 : decode cX7_join 15 = .ok (.aload_n 0, 1) := by decide +kernel
theorem dX7_join_16 : decode cX7_join 16 = .ok (.getfield 12, 3) := by decide +kernel
theorem dX7_join_19 : decode cX7_join 19 = .ok (.invokevirtual 62, 3) := by decide +kernel
theorem dX7_join_22 : decode cX7_join 22 = .ok (.aload_n 0, 1) := by decide +kernel
theorem dX7_join_23 : decode cX7_join 23 = .ok (.getfield 12, 3) := by decide +kernel
theorem dX7_join_26 : decode cX7_join 26 = .ok (.iload_n 1, 1) := by decide +kernel
theorem dX7_join_27 : decode cX7_join 27 = .ok (.invokevirtual 114, 3) := by decide +kernel
theorem dX7_join_30 : decode cX7_join 30 = .ok (.aload_n 0, 1) := by decide +kernel
theorem dX7_join_31 : decode cX7_join 31 = .ok (.getfield 12, 3) := by decide +kernel
theorem dX7_join_34 : decode cX7_join 34 = .ok (.getfield 77, 3) := by decide +kernel
theorem dX7_join_37 : decode cX7_join 37 = .ok (.invokevirtual 117, 3) := by decide +kernel
theorem dX7_join_40 : decode cX7_join 40 = .ok (.ireturn, 1) := by decide +kernel
set_option maxRecDepth 20000 in
theorem ggX7_leave_X5_dismissFault : GoodIn wsX7_leave wsX5_dismissFault := goodIn_ca (goodIn_r _ [8, 9, 10, 11, 12, 13, 14, 15, 16, 111, 112, 113, 114, 115, 116, 117, 118, 119] (by decide +kernel) (by decide +kernel)) (goodIn_sub (fun _ h => List.mem_cons_of_mem _ (List.mem_append_left _ (List.mem_append_left _ (List.mem_append_left _ (List.mem_append_left _ (List.mem_append_left _ (List.mem_append_right _ h))))))) (by decide +kernel))
set_option maxRecDepth 20000 in
theorem gX7_leave_X5_dismissFault : GoodIn wsX7_leave (wsV RX7 120 RX5 yX5_dismissFault wsX5_dismissFault) := goodIn_app (goodIn_of _ (by decide +kernel)) ggX7_leave_X5_dismissFault
set_option maxRecDepth 20000 in
theorem ggX7_leave_X7_refuse : GoodIn wsX7_leave wsX7_refuse := goodIn_ca (goodIn_ca (goodIn_ca (goodIn_ca (goodIn_ca (goodIn_r _ [20, 21, 22, 23, 24, 25, 26, 27, 28, 29, 30] (by decide +kernel) (by decide +kernel)) (goodIn_sub (fun _ h => List.mem_cons_of_mem _ (List.mem_append_left _ (List.mem_append_left _ (List.mem_append_left _ (List.mem_append_left _ (List.mem_append_right _ h)))))) (by decide +kernel))) (goodIn_sub (fun _ h => List.mem_cons_of_mem _ (List.mem_append_left _ (List.mem_append_left _ (List.mem_append_left _ (List.mem_append_right _ h))))) (by decide +kernel))) (goodIn_sub (fun _ h => List.mem_cons_of_mem _ (List.mem_append_left _ (List.mem_append_left _ (List.mem_append_right _ h)))) (by decide +kernel))) (goodIn_sub (fun _ h => List.mem_cons_of_mem _ (List.mem_append_left _ (List.mem_append_right _ h))) (by decide +kernel))) (goodIn_sub (fun _ h => List.mem_cons_of_mem _ (List.mem_append_right _ h)) (by decide +kernel))
set_option maxRecDepth 20000 in
theorem gX7_leave_X7_refuse : GoodIn wsX7_leave (va_wsS RX7 58 yX7_refuse wsX7_refuse) := goodIn_app (goodIn_of _ (by decide +kernel)) ggX7_leave_X7_refuse
set_option maxRecDepth 20000 in
theorem ggX7_leave_X3_remember : GoodIn wsX7_leave wsX3_remember := goodIn_ca (goodIn_r _ [35, 36, 37, 38, 39, 40, 41, 42, 43, 44, 45, 7, 46, 9, 47, 48, 49, 50, 51, 52, 14, 53, 16, 54, 55, 56, 57, 58, 59, 60, 61, 62, 63, 64, 65, 66, 67, 68, 69, 70, 71, 72, 73, 74, 75, 76, 77, 78, 79, 80, 81, 82, 83, 84, 85, 86, 87, 88, 120, 121, 122, 111, 112, 113, 114, 115, 116, 117, 118, 119, 123, 124, 125, 126, 127, 128, 129, 130, 131, 132, 133, 134, 135, 136, 137, 138] (by decide +kernel) (by decide +kernel)) (goodIn_sub (fun _ h => List.mem_cons_of_mem _ (List.mem_append_left _ (List.mem_append_left _ (List.mem_append_left _ (List.mem_append_left _ (List.mem_append_left _ (List.mem_append_right _ h))))))) (by decide +kernel))
set_option maxRecDepth 20000 in
theorem gX7_leave_X3_remember : GoodIn wsX7_leave (wsV RX7 62 RX3 yX3_remember wsX3_remember) := goodIn_app (goodIn_of _ (by decide +kernel)) ggX7_leave_X3_remember
set_option maxRecDepth 20000 in
theorem ggX7_leave_X5_dismiss : GoodIn wsX7_leave wsX5_dismiss := goodIn_ca (goodIn_r _ [92, 9, 10, 48, 93, 94, 95, 72, 96, 75, 76, 77, 74, 97, 40, 41, 42, 111, 112, 113, 114, 115, 116, 117, 118, 119, 129, 130, 131, 132] (by decide +kernel) (by decide +kernel)) (goodIn_sub (fun _ h => List.mem_cons_of_mem _ (List.mem_append_left _ (List.mem_append_left _ (List.mem_append_left _ (List.mem_append_left _ (List.mem_append_left _ (List.mem_append_right _ h))))))) (by decide +kernel))
set_option maxRecDepth 20000 in
theorem gX7_leave_X5_dismiss : GoodIn wsX7_leave (wsV RX7 123 RX5 yX5_dismiss wsX5_dismiss) := goodIn_app (goodIn_of _ (by decide +kernel)) ggX7_leave_X5_dismiss
set_option maxRecDepth 20000 in
theorem ggX7_leave_X0_members : GoodIn wsX7_leave wsX0_members := goodIn_ca (goodIn_r _ [101, 16, 57, 115, 116, 117, 118, 119] (by decide +kernel) (by decide +kernel)) (goodIn_sub (fun _ h => List.mem_cons_of_mem _ (List.mem_append_left _ (List.mem_append_left _ (List.mem_append_left _ (List.mem_append_left _ (List.mem_append_left _ (List.mem_append_right _ h))))))) (by decide +kernel))
set_option maxRecDepth 20000 in
theorem gX7_leave_X0_members : GoodIn wsX7_leave (wsV RX7 117 RX0 yX0_members wsX0_members) := goodIn_app (goodIn_of _ (by decide +kernel)) ggX7_leave_X0_members
theorem dX7_leave_0 : decode cX7_leave 0 = .ok (.aload_n 0, 1) := by decide +kernel
theorem dX7_leave_1 : decode cX7_leave 1 = .ok (.getfield 12, 3) := by decide +kernel
theorem dX7_leave_4 : decode cX7_leave 4 = .ok (.iload_n 1, 1) := by decide +kernel
theorem dX7_leave_5 : decode cX7_leave 5 = .ok (.invokevirtual 120, 3) := by decide +kernel
theorem dX7_leave_8 : decode cX7_leave 8 = .ok (.invokestatic 58, 3) := by decide +kernel
theorem dX7_leave_11 : decode cX7_leave 11 = .ok (.aload_n 0, 1) := by decide +kernel
theorem dX7_leave_12 : decode cX7_leave 12 = .ok (.getfield 29, 3) := by decide +kernel
theorem dX7_leave_15 : decode cX7_leave 15 = .ok (.aload_n 0, 1) := by decide +kernel
theorem dX7_leave_16 : decode cX7_leave 16 = .ok (.getfield 12, 3) := by decide +kernel
theorem dX7_leave_19 : decode cX7_leave 19 = .ok (.invokevirtual 62, 3) := by decide +kernel
theorem dX7_leave_22 : decode cX7_leave 22 = .ok (.aload_n 0, 1) := by decide +kernel
theorem dX7_leave_23 : decode cX7_leave 23 = .ok (.getfield 12, 3) := by decide +kernel
theorem dX7_leave_26 : decode cX7_leave 26 = .ok (.iload_n 1, 1) := by decide +kernel
theorem dX7_leave_27 : decode cX7_leave 27 = .ok (.invokevirtual 123, 3) := by decide +kernel
theorem dX7_leave_30 : decode cX7_leave 30 = .ok (.aload_n 0, 1) := by decide +kernel
theorem dX7_leave_31 : decode cX7_leave 31 = .ok (.getfield 12, 3) := by decide +kernel
theorem dX7_leave_34 : decode cX7_leave 34 = .ok (.getfield 77, 3) := by decide +kernel
theorem dX7_leave_37 : decode cX7_leave 37 = .ok (.invokevirtual 117, 3) := by decide +kernel
theorem dX7_leave_40 : decode cX7_leave 40 = .ok (.ireturn, 1) := by decide +kernel
set_option maxRecDepth 20000 in
theorem ggX7_advance_X5_passTicksFault : GoodIn wsX7_advance wsX5_passTicksFault := goodIn_r _ [9] (by decide +kernel) (by decide +kernel)
set_option maxRecDepth 20000 in
theorem gX7_advance_X5_passTicksFault : GoodIn wsX7_advance (wsV RX7 126 RX5 yX5_passTicksFault wsX5_passTicksFault) := goodIn_app (goodIn_of _ (by decide +kernel)) ggX7_advance_X5_passTicksFault
set_option maxRecDepth 20000 in
theorem ggX7_advance_X7_refuse : GoodIn wsX7_advance wsX7_refuse := goodIn_ca (goodIn_ca (goodIn_ca (goodIn_ca (goodIn_ca (goodIn_r _ [13, 14, 15, 16, 17, 18, 19, 20, 21, 22, 23] (by decide +kernel) (by decide +kernel)) (goodIn_sub (fun _ h => List.mem_cons_of_mem _ (List.mem_append_left _ (List.mem_append_left _ (List.mem_append_left _ (List.mem_append_left _ (List.mem_append_left _ (List.mem_append_left _ (List.mem_append_right _ h)))))))) (by decide +kernel))) (goodIn_sub (fun _ h => List.mem_cons_of_mem _ (List.mem_append_left _ (List.mem_append_left _ (List.mem_append_left _ (List.mem_append_left _ (List.mem_append_left _ (List.mem_append_right _ h))))))) (by decide +kernel))) (goodIn_sub (fun _ h => List.mem_cons_of_mem _ (List.mem_append_left _ (List.mem_append_left _ (List.mem_append_left _ (List.mem_append_left _ (List.mem_append_right _ h)))))) (by decide +kernel))) (goodIn_sub (fun _ h => List.mem_cons_of_mem _ (List.mem_append_left _ (List.mem_append_left _ (List.mem_append_left _ (List.mem_append_right _ h))))) (by decide +kernel))) (goodIn_sub (fun _ h => List.mem_cons_of_mem _ (List.mem_append_left _ (List.mem_append_left _ (List.mem_append_right _ h)))) (by decide +kernel))
set_option maxRecDepth 20000 in
theorem gX7_advance_X7_refuse : GoodIn wsX7_advance (va_wsS RX7 58 yX7_refuse wsX7_refuse) := goodIn_app (goodIn_of _ (by decide +kernel)) ggX7_advance_X7_refuse
set_option maxRecDepth 20000 in
theorem ggX7_advance_X3_remember : GoodIn wsX7_advance wsX3_remember := goodIn_ca (goodIn_r _ [28, 29, 30, 31, 32, 33, 34, 35, 36, 37, 38, 8, 39, 40, 41, 42, 43, 44, 45, 46, 47, 48, 49, 50, 51, 52, 53, 54, 55, 56, 57, 58, 59, 60, 61, 62, 63, 64, 65, 66, 67, 68, 69, 70, 71, 72, 73, 74, 75, 76, 77, 78, 79, 80, 81, 82, 83, 84, 194, 195, 196, 184, 185, 186, 187, 197, 198, 199, 200, 201, 202, 203, 204, 205, 206, 207, 208, 209, 210, 211, 188, 189, 190, 191, 192, 193] (by decide +kernel) (by decide +kernel)) (goodIn_sub (fun _ h => List.mem_cons_of_mem _ (List.mem_append_left _ (List.mem_append_right _ h))) (by decide +kernel))
set_option maxRecDepth 20000 in
theorem gX7_advance_X3_remember : GoodIn wsX7_advance (wsV RX7 62 RX3 yX3_remember wsX3_remember) := goodIn_app (goodIn_of _ (by decide +kernel)) ggX7_advance_X3_remember
set_option maxRecDepth 20000 in
theorem ggX7_advance_X5_passTicks : GoodIn wsX7_advance wsX5_passTicks := goodIn_ca (goodIn_ca (goodIn_r _ [88, 89, 90, 91, 8, 92, 40, 43, 93, 41, 94, 95, 96, 97, 98, 99, 100, 101, 102, 103, 104, 47, 105, 50, 106, 107, 108, 109, 110, 111, 33, 34, 35, 112, 113, 114, 115, 116, 51, 117, 118, 119, 120, 121, 122, 123, 124, 125, 49, 53, 126, 127, 128, 129, 130, 131, 132, 133, 134, 135, 136, 137, 138, 139, 140, 141, 142, 143, 144, 145, 146, 147, 148, 149, 150, 151, 152, 42, 153, 154, 155, 156, 157, 12, 158, 159, 160, 161, 68, 162, 71, 72, 73, 70, 163, 164, 165, 166, 57, 167, 59, 64, 63, 168, 169, 170, 171, 60, 172, 173, 61, 62, 174, 184, 185, 186, 187, 188, 189, 190, 191, 192, 193, 197, 198, 199, 200, 201, 208, 209, 210, 211, 202, 203, 204, 205, 206, 207] (by decide +kernel) (by decide +kernel)) (goodIn_sub (fun _ h => List.mem_cons_of_mem _ (List.mem_append_left _ (List.mem_append_right _ h))) (by decide +kernel))) (goodIn_sub (fun _ h => List.mem_cons_of_mem _ (List.mem_append_right _ h)) (by decide +kernel))
set_option maxRecDepth 20000 in
theorem gX7_advance_X5_passTicks : GoodIn wsX7_advance (wsV RX7 138 RX5 yX5_passTicks wsX5_passTicks) := goodIn_app (goodIn_of _ (by decide +kernel)) ggX7_advance_X5_passTicks
theorem dX7_advance_0 : decode cX7_advance 0 = .ok (.aload_n 0, 1) := by decide +kernel
theorem dX7_advance_1 : decode cX7_advance 1 = .ok (.getfield 12, 3) := by decide +kernel
theorem dX7_advance_4 : decode cX7_advance 4 = .ok (.iload_n 1, 1) := by decide +kernel
theorem dX7_advance_5 : decode cX7_advance 5 = .ok (.invokevirtual 126, 3) := by decide +kernel
theorem dX7_advance_8 : decode cX7_advance 8 = .ok (.invokestatic 58, 3) := by decide +kernel
theorem dX7_advance_11 : decode cX7_advance 11 = .ok (.aload_n 0, 1) := by decide +kernel
theorem dX7_advance_12 : decode cX7_advance 12 = .ok (.getfield 29, 3) := by decide +kernel
theorem dX7_advance_15 : decode cX7_advance 15 = .ok (.aload_n 0, 1) := by decide +kernel
theorem dX7_advance_16 : decode cX7_advance 16 = .ok (.getfield 12, 3) := by decide +kernel
theorem dX7_advance_19 : decode cX7_advance 19 = .ok (.invokevirtual 62, 3) := by decide +kernel
theorem dX7_advance_22 : decode cX7_advance 22 = .ok (.aload_n 0, 1) := by decide +kernel
theorem dX7_advance_23 : decode cX7_advance 23 = .ok (.getfield 12, 3) := by decide +kernel
theorem dX7_advance_26 : decode cX7_advance 26 = .ok (.getfield 129, 3) := by decide +kernel
theorem dX7_advance_29 : decode cX7_advance 29 = .ok (.getfield 133, 3) := by decide +kernel
theorem dX7_advance_32 : decode cX7_advance 32 = .ok (.istore_n 2, 1) := by decide +kernel
theorem dX7_advance_33 : decode cX7_advance 33 = .ok (.aload_n 0, 1) := by decide +kernel
theorem dX7_advance_34 : decode cX7_advance 34 = .ok (.getfield 12, 3) := by decide +kernel
theorem dX7_advance_37 : decode cX7_advance 37 = .ok (.iload_n 1, 1) := by decide +kernel
theorem dX7_advance_38 : decode cX7_advance 38 = .ok (.invokevirtual 138, 3) := by decide +kernel
theorem dX7_advance_41 : decode cX7_advance 41 = .ok (.aload_n 0, 1) := by decide +kernel
theorem dX7_advance_42 : decode cX7_advance 42 = .ok (.getfield 12, 3) := by decide +kernel
theorem dX7_advance_45 : decode cX7_advance 45 = .ok (.getfield 129, 3) := by decide +kernel
theorem dX7_advance_48 : decode cX7_advance 48 = .ok (.getfield 133, 3) := by decide +kernel
theorem dX7_advance_51 : decode cX7_advance 51 = .ok (.iload_n 2, 1) := by decide +kernel
theorem dX7_advance_52 : decode cX7_advance 52 = .ok (.isub, 1) := by decide +kernel
theorem dX7_advance_53 : decode cX7_advance 53 = .ok (.ireturn, 1) := by decide +kernel
theorem dX7_bathCount_0 : decode cX7_bathCount 0 = .ok (.aload_n 0, 1) := by decide +kernel
theorem dX7_bathCount_1 : decode cX7_bathCount 1 = .ok (.getfield 12, 3) := by decide +kernel
theorem dX7_bathCount_4 : decode cX7_bathCount 4 = .ok (.getfield 77, 3) := by decide +kernel
theorem dX7_bathCount_7 : decode cX7_bathCount 7 = .ok (.getfield 141, 3) := by decide +kernel
theorem dX7_bathCount_10 : decode cX7_bathCount 10 = .ok (.ireturn, 1) := by decide +kernel
set_option maxRecDepth 20000 in
theorem ggX7_volume_X7_requireBath : GoodIn wsX7_volume wsX7_requireBath := goodIn_ca (goodIn_r _ [8, 9, 10, 1, 2, 11, 12, 13, 14, 15, 16, 17, 18, 19, 20, 21, 22, 23, 24, 25, 26, 27, 28, 29, 30, 31, 32, 33, 34] (by decide +kernel) (by decide +kernel)) (goodIn_sub (fun _ h => List.mem_cons_of_mem _ (List.mem_append_right _ h)) (by decide +kernel))
set_option maxRecDepth 20000 in
theorem gX7_volume_X7_requireBath : GoodIn wsX7_volume (wsV RX7 144 RX7 yX7_requireBath wsX7_requireBath) := goodIn_app (goodIn_of _ (by decide +kernel)) ggX7_volume_X7_requireBath
theorem dX7_volume_0 : decode cX7_volume 0 = .ok (.aload_n 0, 1) := by decide +kernel
theorem dX7_volume_1 : decode cX7_volume 1 = .ok (.iload_n 1, 1) := by decide +kernel
theorem dX7_volume_2 : decode cX7_volume 2 = .ok (.invokevirtual 144, 3) := by decide +kernel
theorem dX7_volume_5 : decode cX7_volume 5 = .ok (.aload_n 0, 1) := by decide +kernel
theorem dX7_volume_6 : decode cX7_volume 6 = .ok (.getfield 12, 3) := by decide +kernel
theorem dX7_volume_9 : decode cX7_volume 9 = .ok (.getfield 77, 3) := by decide +kernel
theorem dX7_volume_12 : decode cX7_volume 12 = .ok (.getfield 81, 3) := by decide +kernel
theorem dX7_volume_15 : decode cX7_volume 15 = .ok (.iload_n 1, 1) := by decide +kernel
theorem dX7_volume_16 : decode cX7_volume 16 = .ok (.iaload, 1) := by decide +kernel
theorem dX7_volume_17 : decode cX7_volume 17 = .ok (.ireturn, 1) := by decide +kernel
set_option maxRecDepth 20000 in
theorem ggX7_heat_X7_requireBath : GoodIn wsX7_heat wsX7_requireBath := goodIn_ca (goodIn_r _ [8, 9, 10, 1, 2, 11, 12, 13, 14, 15, 16, 17, 18, 19, 20, 21, 22, 23, 24, 25, 26, 27, 28, 29, 30, 31, 32, 33, 34] (by decide +kernel) (by decide +kernel)) (goodIn_sub (fun _ h => List.mem_cons_of_mem _ (List.mem_append_right _ h)) (by decide +kernel))
set_option maxRecDepth 20000 in
theorem gX7_heat_X7_requireBath : GoodIn wsX7_heat (wsV RX7 144 RX7 yX7_requireBath wsX7_requireBath) := goodIn_app (goodIn_of _ (by decide +kernel)) ggX7_heat_X7_requireBath
theorem dX7_heat_0 : decode cX7_heat 0 = .ok (.aload_n 0, 1) := by decide +kernel
theorem dX7_heat_1 : decode cX7_heat 1 = .ok (.iload_n 1, 1) := by decide +kernel
theorem dX7_heat_2 : decode cX7_heat 2 = .ok (.invokevirtual 144, 3) := by decide +kernel
theorem dX7_heat_5 : decode cX7_heat 5 = .ok (.aload_n 0, 1) := by decide +kernel
theorem dX7_heat_6 : decode cX7_heat 6 = .ok (.getfield 12, 3) := by decide +kernel
theorem dX7_heat_9 : decode cX7_heat 9 = .ok (.getfield 77, 3) := by decide +kernel
theorem dX7_heat_12 : decode cX7_heat 12 = .ok (.getfield 147, 3) := by decide +kernel
theorem dX7_heat_15 : decode cX7_heat 15 = .ok (.iload_n 1, 1) := by decide +kernel
theorem dX7_heat_16 : decode cX7_heat 16 = .ok (.iaload, 1) := by decide +kernel
theorem dX7_heat_17 : decode cX7_heat 17 = .ok (.ireturn, 1) := by decide +kernel
set_option maxRecDepth 20000 in
theorem ggX7_temperature_X7_requireBath : GoodIn wsX7_temperature wsX7_requireBath := goodIn_ca (goodIn_r _ [7, 8, 9, 1, 2, 10, 11, 12, 13, 14, 15, 34, 35, 36, 37, 38, 39, 40, 41, 42, 43, 44, 45, 46, 47, 48, 49, 50, 51] (by decide +kernel) (by decide +kernel)) (goodIn_sub (fun _ h => List.mem_cons_of_mem _ (List.mem_append_left _ (List.mem_append_left _ (List.mem_append_left _ (List.mem_append_right _ h))))) (by decide +kernel))
set_option maxRecDepth 20000 in
theorem gX7_temperature_X7_requireBath : GoodIn wsX7_temperature (wsV RX7 144 RX7 yX7_requireBath wsX7_requireBath) := goodIn_app (goodIn_of _ (by decide +kernel)) ggX7_temperature_X7_requireBath
set_option maxRecDepth 20000 in
theorem ggX7_temperature_X7_requireWater : GoodIn wsX7_temperature wsX7_requireWater := goodIn_ca (goodIn_ca (goodIn_r _ [19, 20, 21, 1, 2, 22, 23, 24, 13, 25, 26, 34, 35, 36, 37, 38, 39, 40, 41, 42, 43, 44, 45, 46, 47, 48, 49, 50, 51] (by decide +kernel) (by decide +kernel)) (goodIn_sub (fun _ h => List.mem_cons_of_mem _ (List.mem_append_left _ (List.mem_append_left _ (List.mem_append_right _ h)))) (by decide +kernel))) (goodIn_sub (fun _ h => List.mem_cons_of_mem _ (List.mem_append_left _ (List.mem_append_right _ h))) (by decide +kernel))
set_option maxRecDepth 20000 in
theorem gX7_temperature_X7_requireWater : GoodIn wsX7_temperature (wsV RX7 150 RX7 yX7_requireWater wsX7_requireWater) := goodIn_app (goodIn_of _ (by decide +kernel)) ggX7_temperature_X7_requireWater
set_option maxRecDepth 20000 in
theorem ggX7_temperature_X0_degrees : GoodIn wsX7_temperature wsX0_degrees := goodIn_ca (goodIn_ca (goodIn_r _ [30, 31, 26, 32, 6, 33, 47, 48, 49, 50, 51] (by decide +kernel) (by decide +kernel)) (goodIn_sub (fun _ h => List.mem_cons_of_mem _ (List.mem_append_left _ (List.mem_append_right _ h))) (by decide +kernel))) (goodIn_sub (fun _ h => List.mem_cons_of_mem _ (List.mem_append_right _ h)) (by decide +kernel))
set_option maxRecDepth 20000 in
theorem gX7_temperature_X0_degrees : GoodIn wsX7_temperature (wsV RX7 153 RX0 yX0_degrees wsX0_degrees) := goodIn_app (goodIn_of _ (by decide +kernel)) ggX7_temperature_X0_degrees
theorem dX7_temperature_0 : decode cX7_temperature 0 = .ok (.aload_n 0, 1) := by decide +kernel
theorem dX7_temperature_1 : decode cX7_temperature 1 = .ok (.iload_n 1, 1) := by decide +kernel
theorem dX7_temperature_2 : decode cX7_temperature 2 = .ok (.invokevirtual 144, 3) := by decide +kernel
theorem dX7_temperature_5 : decode cX7_temperature 5 = .ok (.aload_n 0, 1) := by decide +kernel
theorem dX7_temperature_6 : decode cX7_temperature 6 = .ok (.iload_n 1, 1) := by decide +kernel
theorem dX7_temperature_7 : decode cX7_temperature 7 = .ok (.invokevirtual 150, 3) := by decide +kernel
theorem dX7_temperature_10 : decode cX7_temperature 10 = .ok (.aload_n 0, 1) := by decide +kernel
theorem dX7_temperature_11 : decode cX7_temperature 11 = .ok (.getfield 12, 3) := by decide +kernel
theorem dX7_temperature_14 : decode cX7_temperature 14 = .ok (.getfield 77, 3) := by decide +kernel
theorem dX7_temperature_17 : decode cX7_temperature 17 = .ok (.iload_n 1, 1) := by decide +kernel
theorem dX7_temperature_18 : decode cX7_temperature 18 = .ok (.invokevirtual 153, 3) := by decide +kernel
theorem dX7_temperature_21 : decode cX7_temperature 21 = .ok (.ireturn, 1) := by decide +kernel
set_option maxRecDepth 20000 in
theorem ggX7_exactTemperature_X7_requireBath : GoodIn wsX7_exactTemperature wsX7_requireBath := goodIn_ca (goodIn_r _ [9, 10, 11, 1, 2, 12, 13, 14, 15, 16, 17, 29, 30, 31, 32, 33, 34, 35, 36, 37, 38, 39, 40, 41, 42, 43, 44, 45, 46] (by decide +kernel) (by decide +kernel)) (goodIn_sub (fun _ h => List.mem_cons_of_mem _ (List.mem_append_left _ (List.mem_append_right _ h))) (by decide +kernel))
set_option maxRecDepth 20000 in
theorem gX7_exactTemperature_X7_requireBath : GoodIn wsX7_exactTemperature (wsV RX7 144 RX7 yX7_requireBath wsX7_requireBath) := goodIn_app (goodIn_of _ (by decide +kernel)) ggX7_exactTemperature_X7_requireBath
set_option maxRecDepth 20000 in
theorem ggX7_exactTemperature_X7_requireWater : GoodIn wsX7_exactTemperature wsX7_requireWater := goodIn_ca (goodIn_ca (goodIn_r _ [21, 22, 23, 1, 2, 24, 25, 26, 15, 27, 28, 29, 30, 31, 32, 33, 34, 35, 36, 37, 38, 39, 40, 41, 42, 43, 44, 45, 46] (by decide +kernel) (by decide +kernel)) (goodIn_sub (fun _ h => List.mem_cons_of_mem _ (List.mem_append_right _ h)) (by decide +kernel))) (goodIn_sub (fun _ h => List.mem_cons_of_mem _ (List.mem_append_left _ (List.mem_append_left _ (List.mem_append_right _ h)))) (by decide +kernel))
set_option maxRecDepth 20000 in
theorem gX7_exactTemperature_X7_requireWater : GoodIn wsX7_exactTemperature (wsV RX7 150 RX7 yX7_requireWater wsX7_requireWater) := goodIn_app (goodIn_of _ (by decide +kernel)) ggX7_exactTemperature_X7_requireWater
theorem dX7_exactTemperature_0 : decode cX7_exactTemperature 0 = .ok (.aload_n 0, 1) := by decide +kernel
theorem dX7_exactTemperature_1 : decode cX7_exactTemperature 1 = .ok (.iload_n 1, 1) := by decide +kernel
theorem dX7_exactTemperature_2 : decode cX7_exactTemperature 2 = .ok (.invokevirtual 144, 3) := by decide +kernel
theorem dX7_exactTemperature_5 : decode cX7_exactTemperature 5 = .ok (.aload_n 0, 1) := by decide +kernel
theorem dX7_exactTemperature_6 : decode cX7_exactTemperature 6 = .ok (.iload_n 1, 1) := by decide +kernel
theorem dX7_exactTemperature_7 : decode cX7_exactTemperature 7 = .ok (.invokevirtual 150, 3) := by decide +kernel
theorem dX7_exactTemperature_10 : decode cX7_exactTemperature 10 = .ok (.aload_n 0, 1) := by decide +kernel
theorem dX7_exactTemperature_11 : decode cX7_exactTemperature 11 = .ok (.getfield 12, 3) := by decide +kernel
theorem dX7_exactTemperature_14 : decode cX7_exactTemperature 14 = .ok (.getfield 77, 3) := by decide +kernel
theorem dX7_exactTemperature_17 : decode cX7_exactTemperature 17 = .ok (.getfield 147, 3) := by decide +kernel
theorem dX7_exactTemperature_20 : decode cX7_exactTemperature 20 = .ok (.iload_n 1, 1) := by decide +kernel
theorem dX7_exactTemperature_21 : decode cX7_exactTemperature 21 = .ok (.iaload, 1) := by decide +kernel
theorem dX7_exactTemperature_22 : decode cX7_exactTemperature 22 = .ok (.i2d, 1) := by decide +kernel
theorem dX7_exactTemperature_23 : decode cX7_exactTemperature 23 = .ok (.aload_n 0, 1) := by decide +kernel
theorem dX7_exactTemperature_24 : decode cX7_exactTemperature 24 = .ok (.getfield 12, 3) := by decide +kernel
theorem dX7_exactTemperature_27 : decode cX7_exactTemperature 27 = .ok (.getfield 77, 3) := by decide +kernel
theorem dX7_exactTemperature_30 : decode cX7_exactTemperature 30 = .ok (.getfield 81, 3) := by decide +kernel
theorem dX7_exactTemperature_33 : decode cX7_exactTemperature 33 = .ok (.iload_n 1, 1) := by decide +kernel
theorem dX7_exactTemperature_34 : decode cX7_exactTemperature 34 = .ok (.iaload, 1) := by decide +kernel
theorem dX7_exactTemperature_35 : decode cX7_exactTemperature 35 = .ok (.i2d, 1) := by decide +kernel
theorem dX7_exactTemperature_36 : decode cX7_exactTemperature 36 = .ok (.ddiv, 1) := by decide +kernel
theorem dX7_exactTemperature_37 : decode cX7_exactTemperature 37 = .ok (.dreturn, 1) := by decide +kernel
set_option maxRecDepth 20000 in
theorem ggX7_isWarmer_X7_requireBath : GoodIn wsX7_isWarmer wsX7_requireBath := goodIn_ca (goodIn_r _ [7, 8, 9, 1, 2, 10, 11, 12, 13, 14, 15, 32, 33, 34, 35, 36, 37, 38, 39, 40, 41, 42, 43, 44, 45, 46, 47, 48, 49] (by decide +kernel) (by decide +kernel)) (goodIn_sub (fun _ h => List.mem_cons_of_mem _ (List.mem_append_left _ (List.mem_append_left _ (List.mem_append_right _ h)))) (by decide +kernel))
set_option maxRecDepth 20000 in
theorem gX7_isWarmer_X7_requireBath : GoodIn wsX7_isWarmer (wsV RX7 144 RX7 yX7_requireBath wsX7_requireBath) := goodIn_app (goodIn_of _ (by decide +kernel)) ggX7_isWarmer_X7_requireBath
set_option maxRecDepth 20000 in
theorem ggX7_isWarmer_X7_requireWater : GoodIn wsX7_isWarmer wsX7_requireWater := goodIn_ca (goodIn_ca (goodIn_r _ [19, 20, 21, 1, 2, 22, 23, 24, 13, 25, 26, 32, 33, 34, 35, 36, 37, 38, 39, 40, 41, 42, 43, 44, 45, 46, 47, 48, 49] (by decide +kernel) (by decide +kernel)) (goodIn_sub (fun _ h => List.mem_cons_of_mem _ (List.mem_append_left _ (List.mem_append_right _ h))) (by decide +kernel))) (goodIn_sub (fun _ h => List.mem_cons_of_mem _ (List.mem_append_right _ h)) (by decide +kernel))
set_option maxRecDepth 20000 in
theorem gX7_isWarmer_X7_requireWater : GoodIn wsX7_isWarmer (wsV RX7 150 RX7 yX7_requireWater wsX7_requireWater) := goodIn_app (goodIn_of _ (by decide +kernel)) ggX7_isWarmer_X7_requireWater
set_option maxRecDepth 20000 in
theorem ggX7_isWarmer_X0_isHotter : GoodIn wsX7_isWarmer wsX0_isHotter := goodIn_ca (goodIn_r _ [30, 31, 26, 45, 46, 47, 48, 49] (by decide +kernel) (by decide +kernel)) (goodIn_sub (fun _ h => List.mem_cons_of_mem _ (List.mem_append_right _ h)) (by decide +kernel))
set_option maxRecDepth 20000 in
theorem gX7_isWarmer_X0_isHotter : GoodIn wsX7_isWarmer (wsV RX7 156 RX0 yX0_isHotter wsX0_isHotter) := goodIn_app (goodIn_of _ (by decide +kernel)) ggX7_isWarmer_X0_isHotter
theorem dX7_isWarmer_0 : decode cX7_isWarmer 0 = .ok (.aload_n 0, 1) := by decide +kernel
theorem dX7_isWarmer_1 : decode cX7_isWarmer 1 = .ok (.iload_n 1, 1) := by decide +kernel
theorem dX7_isWarmer_2 : decode cX7_isWarmer 2 = .ok (.invokevirtual 144, 3) := by decide +kernel
theorem dX7_isWarmer_5 : decode cX7_isWarmer 5 = .ok (.aload_n 0, 1) := by decide +kernel
theorem dX7_isWarmer_6 : decode cX7_isWarmer 6 = .ok (.iload_n 2, 1) := by decide +kernel
theorem dX7_isWarmer_7 : decode cX7_isWarmer 7 = .ok (.invokevirtual 144, 3) := by decide +kernel
theorem dX7_isWarmer_10 : decode cX7_isWarmer 10 = .ok (.aload_n 0, 1) := by decide +kernel
theorem dX7_isWarmer_11 : decode cX7_isWarmer 11 = .ok (.iload_n 1, 1) := by decide +kernel
theorem dX7_isWarmer_12 : decode cX7_isWarmer 12 = .ok (.invokevirtual 150, 3) := by decide +kernel
theorem dX7_isWarmer_15 : decode cX7_isWarmer 15 = .ok (.aload_n 0, 1) := by decide +kernel
theorem dX7_isWarmer_16 : decode cX7_isWarmer 16 = .ok (.iload_n 2, 1) := by decide +kernel
theorem dX7_isWarmer_17 : decode cX7_isWarmer 17 = .ok (.invokevirtual 150, 3) := by decide +kernel
theorem dX7_isWarmer_20 : decode cX7_isWarmer 20 = .ok (.aload_n 0, 1) := by decide +kernel
theorem dX7_isWarmer_21 : decode cX7_isWarmer 21 = .ok (.getfield 12, 3) := by decide +kernel
theorem dX7_isWarmer_24 : decode cX7_isWarmer 24 = .ok (.getfield 77, 3) := by decide +kernel
theorem dX7_isWarmer_27 : decode cX7_isWarmer 27 = .ok (.iload_n 1, 1) := by decide +kernel
theorem dX7_isWarmer_28 : decode cX7_isWarmer 28 = .ok (.iload_n 2, 1) := by decide +kernel
theorem dX7_isWarmer_29 : decode cX7_isWarmer 29 = .ok (.invokevirtual 156, 3) := by decide +kernel
theorem dX7_isWarmer_32 : decode cX7_isWarmer 32 = .ok (.ireturn, 1) := by decide +kernel
set_option maxRecDepth 20000 in
theorem ggX7_isPlugged_X7_requireBath : GoodIn wsX7_isPlugged wsX7_requireBath := goodIn_ca (goodIn_r _ [8, 9, 10, 1, 2, 11, 12, 13, 14, 15, 16, 17, 18, 19, 20, 21, 22, 23, 24, 25, 26, 27, 28, 29, 30, 31, 32, 33, 34] (by decide +kernel) (by decide +kernel)) (goodIn_sub (fun _ h => List.mem_cons_of_mem _ (List.mem_append_right _ h)) (by decide +kernel))
set_option maxRecDepth 20000 in
theorem gX7_isPlugged_X7_requireBath : GoodIn wsX7_isPlugged (wsV RX7 144 RX7 yX7_requireBath wsX7_requireBath) := goodIn_app (goodIn_of _ (by decide +kernel)) ggX7_isPlugged_X7_requireBath
theorem dX7_isPlugged_0 : decode cX7_isPlugged 0 = .ok (.aload_n 0, 1) := by decide +kernel
theorem dX7_isPlugged_1 : decode cX7_isPlugged 1 = .ok (.iload_n 1, 1) := by decide +kernel
theorem dX7_isPlugged_2 : decode cX7_isPlugged 2 = .ok (.invokevirtual 144, 3) := by decide +kernel
theorem dX7_isPlugged_5 : decode cX7_isPlugged 5 = .ok (.aload_n 0, 1) := by decide +kernel
theorem dX7_isPlugged_6 : decode cX7_isPlugged 6 = .ok (.getfield 12, 3) := by decide +kernel
theorem dX7_isPlugged_9 : decode cX7_isPlugged 9 = .ok (.getfield 77, 3) := by decide +kernel
theorem dX7_isPlugged_12 : decode cX7_isPlugged 12 = .ok (.getfield 91, 3) := by decide +kernel
theorem dX7_isPlugged_15 : decode cX7_isPlugged 15 = .ok (.iload_n 1, 1) := by decide +kernel
theorem dX7_isPlugged_16 : decode cX7_isPlugged 16 = .ok (.baload, 1) := by decide +kernel
theorem dX7_isPlugged_17 : decode cX7_isPlugged 17 = .ok (.ireturn, 1) := by decide +kernel
set_option maxRecDepth 20000 in
theorem ggX7_bathByTemperature_X7_requireElement : GoodIn wsX7_bathByTemperature wsX7_requireElement := goodIn_ca (goodIn_r _ [7, 8, 9] (by decide +kernel) (by decide +kernel)) (goodIn_sub (fun _ h => List.mem_cons_of_mem _ (List.mem_append_left _ (List.mem_append_right _ h))) (by decide +kernel))
set_option maxRecDepth 20000 in
theorem gX7_bathByTemperature_X7_requireElement : GoodIn wsX7_bathByTemperature (va_wsS RX7 160 yX7_requireElement wsX7_requireElement) := goodIn_app (goodIn_of _ (by decide +kernel)) ggX7_bathByTemperature_X7_requireElement
set_option maxRecDepth 20000 in
theorem ggX7_bathByTemperature_X0_atRank : GoodIn wsX7_bathByTemperature wsX0_atRank := goodIn_ca (goodIn_r _ [14, 15, 16, 17, 18, 13, 19, 20, 21, 22, 23, 24, 25, 26, 27, 28, 29, 30, 31, 32, 33, 47, 48, 49, 50, 51] (by decide +kernel) (by decide +kernel)) (goodIn_sub (fun _ h => List.mem_cons_of_mem _ (List.mem_append_right _ h)) (by decide +kernel))
set_option maxRecDepth 20000 in
theorem gX7_bathByTemperature_X0_atRank : GoodIn wsX7_bathByTemperature (wsV RX7 164 RX0 yX0_atRank wsX0_atRank) := goodIn_app (goodIn_of _ (by decide +kernel)) ggX7_bathByTemperature_X0_atRank
theorem dX7_bathByTemperature_0 : decode cX7_bathByTemperature 0 = .ok (.iload_n 1, 1) := by decide +kernel
theorem dX7_bathByTemperature_1 : decode cX7_bathByTemperature 1 = .ok (.aload_n 0, 1) := by decide +kernel
theorem dX7_bathByTemperature_2 : decode cX7_bathByTemperature 2 = .ok (.getfield 12, 3) := by decide +kernel
theorem dX7_bathByTemperature_5 : decode cX7_bathByTemperature 5 = .ok (.getfield 77, 3) := by decide +kernel
theorem dX7_bathByTemperature_8 : decode cX7_bathByTemperature 8 = .ok (.getfield 141, 3) := by decide +kernel
theorem dX7_bathByTemperature_11 : decode cX7_bathByTemperature 11 = .ok (.invokestatic 160, 3) := by decide +kernel
theorem dX7_bathByTemperature_14 : decode cX7_bathByTemperature 14 = .ok (.aload_n 0, 1) := by decide +kernel
theorem dX7_bathByTemperature_15 : decode cX7_bathByTemperature 15 = .ok (.getfield 12, 3) := by decide +kernel
theorem dX7_bathByTemperature_18 : decode cX7_bathByTemperature 18 = .ok (.getfield 77, 3) := by decide +kernel
theorem dX7_bathByTemperature_21 : decode cX7_bathByTemperature 21 = .ok (.iload_n 1, 1) := by decide +kernel
theorem dX7_bathByTemperature_22 : decode cX7_bathByTemperature 22 = .ok (.invokevirtual 164, 3) := by decide +kernel
theorem dX7_bathByTemperature_25 : decode cX7_bathByTemperature 25 = .ok (.ireturn, 1) := by decide +kernel
set_option maxRecDepth 20000 in
theorem ggX7_litresToReach_X7_requirePlan : GoodIn wsX7_litresToReach wsX7_requirePlan := goodIn_ca (goodIn_ca (goodIn_ca (goodIn_ca (goodIn_r _ [9, 10, 11, 12, 13, 14, 8, 15, 16, 17, 1, 2, 18, 19, 20, 21, 22, 23, 24, 25, 26, 27, 28, 29, 30, 31, 32, 33, 34, 35, 36, 37, 50, 51, 52, 53, 54, 55, 56, 57, 58, 59, 60, 61, 62, 63, 64, 65, 66, 67] (by decide +kernel) (by decide +kernel)) (goodIn_sub (fun _ h => List.mem_cons_of_mem _ (List.mem_append_left _ (List.mem_append_left _ (List.mem_append_left _ (List.mem_append_left _ (List.mem_append_right _ h)))))) (by decide +kernel))) (goodIn_sub (fun _ h => List.mem_cons_of_mem _ (List.mem_append_left _ (List.mem_append_left _ (List.mem_append_left _ (List.mem_append_right _ h))))) (by decide +kernel))) (goodIn_sub (fun _ h => List.mem_cons_of_mem _ (List.mem_append_left _ (List.mem_append_left _ (List.mem_append_right _ h)))) (by decide +kernel))) (goodIn_sub (fun _ h => List.mem_cons_of_mem _ (List.mem_append_left _ (List.mem_append_left _ (List.mem_append_left _ (List.mem_append_left _ (List.mem_append_left _ (List.mem_append_right _ h))))))) (by decide +kernel))
set_option maxRecDepth 20000 in
theorem gX7_litresToReach_X7_requirePlan : GoodIn wsX7_litresToReach (wsV RX7 167 RX7 yX7_requirePlan wsX7_requirePlan) := goodIn_app (goodIn_of _ (by decide +kernel)) ggX7_litresToReach_X7_requirePlan
set_option maxRecDepth 20000 in
theorem ggX7_litresToReach_X7_litresByTrying : GoodIn wsX7_litresToReach wsX7_litresByTrying := goodIn_ca (goodIn_ca (goodIn_r _ [40, 41, 42, 43, 8, 44] (by decide +kernel) (by decide +kernel)) (goodIn_sub (fun _ h => List.mem_cons_of_mem _ (List.mem_append_left _ (List.mem_append_left _ (List.mem_append_left _ (List.mem_append_left _ (List.mem_append_left _ (List.mem_append_right _ h))))))) (by decide +kernel))) (goodIn_sub (fun _ h => List.mem_cons_of_mem _ (List.mem_append_left _ (List.mem_append_right _ h))) (by decide +kernel))
set_option maxRecDepth 20000 in
theorem gX7_litresToReach_X7_litresByTrying : GoodIn wsX7_litresToReach (va_wsS RX7 170 yX7_litresByTrying wsX7_litresByTrying) := goodIn_app (goodIn_of _ (by decide +kernel)) ggX7_litresToReach_X7_litresByTrying
set_option maxRecDepth 20000 in
theorem ggX7_litresToReach_X7_requireLitres : GoodIn wsX7_litresToReach wsX7_requireLitres := goodIn_ca (goodIn_r _ [47, 48, 49] (by decide +kernel) (by decide +kernel)) (goodIn_sub (fun _ h => List.mem_cons_of_mem _ (List.mem_append_right _ h)) (by decide +kernel))
set_option maxRecDepth 20000 in
theorem gX7_litresToReach_X7_requireLitres : GoodIn wsX7_litresToReach (va_wsS RX7 174 yX7_requireLitres wsX7_requireLitres) := goodIn_app (goodIn_of _ (by decide +kernel)) ggX7_litresToReach_X7_requireLitres
theorem dX7_litresToReach_0 : decode cX7_litresToReach 0 = .ok (.aload_n 0, 1) := by decide +kernel
theorem dX7_litresToReach_1 : decode cX7_litresToReach 1 = .ok (.iload_n 1, 1) := by decide +kernel
theorem dX7_litresToReach_2 : decode cX7_litresToReach 2 = .ok (.iload_n 2, 1) := by decide +kernel
theorem dX7_litresToReach_3 : decode cX7_litresToReach 3 = .ok (.iload_n 3, 1) := by decide +kernel
theorem dX7_litresToReach_4 : decode cX7_litresToReach 4 = .ok (.invokevirtual 167, 3) := by decide +kernel
theorem dX7_litresToReach_7 : decode cX7_litresToReach 7 = .ok (.aload_n 0, 1) := by decide +kernel
theorem dX7_litresToReach_8 : decode cX7_litresToReach 8 = .ok (.getfield 12, 3) := by decide +kernel
theorem dX7_litresToReach_11 : decode cX7_litresToReach 11 = .ok (.getfield 77, 3) := by decide +kernel
theorem dX7_litresToReach_14 : decode cX7_litresToReach 14 = .ok (.getfield 81, 3) := by decide +kernel
theorem dX7_litresToReach_17 : decode cX7_litresToReach 17 = .ok (.iload_n 1, 1) := by decide +kernel
theorem dX7_litresToReach_18 : decode cX7_litresToReach 18 = .ok (.iaload, 1) := by decide +kernel
theorem dX7_litresToReach_19 : decode cX7_litresToReach 19 = .ok (.aload_n 0, 1) := by decide +kernel
theorem dX7_litresToReach_20 : decode cX7_litresToReach 20 = .ok (.getfield 12, 3) := by decide +kernel
theorem dX7_litresToReach_23 : decode cX7_litresToReach 23 = .ok (.getfield 77, 3) := by decide +kernel
theorem dX7_litresToReach_26 : decode cX7_litresToReach 26 = .ok (.getfield 147, 3) := by decide +kernel
theorem dX7_litresToReach_29 : decode cX7_litresToReach 29 = .ok (.iload_n 1, 1) := by decide +kernel
theorem dX7_litresToReach_30 : decode cX7_litresToReach 30 = .ok (.iaload, 1) := by decide +kernel
theorem dX7_litresToReach_31 : decode cX7_litresToReach 31 = .ok (.iload_n 2, 1) := by decide +kernel
theorem dX7_litresToReach_32 : decode cX7_litresToReach 32 = .ok (.iload_n 3, 1) := by decide +kernel
theorem dX7_litresToReach_33 : decode cX7_litresToReach 33 = .ok (.invokestatic 170, 3) := by decide +kernel
theorem dX7_litresToReach_36 : decode cX7_litresToReach 36 = .ok (.invokestatic 174, 3) := by decide +kernel
theorem dX7_litresToReach_39 : decode cX7_litresToReach 39 = .ok (.ireturn, 1) := by decide +kernel
set_option maxRecDepth 20000 in
theorem ggX7_litresToReachByFormula_X7_requirePlan : GoodIn wsX7_litresToReachByFormula wsX7_requirePlan := goodIn_ca (goodIn_ca (goodIn_ca (goodIn_ca (goodIn_r _ [9, 10, 11, 12, 13, 14, 8, 15, 16, 17, 1, 2, 18, 19, 20, 21, 22, 23, 24, 25, 26, 27, 28, 29, 30, 31, 32, 33, 34, 35, 36, 37, 53, 54, 55, 56, 57, 58, 59, 60, 61, 62, 63, 64, 65, 66, 67, 68, 69, 70] (by decide +kernel) (by decide +kernel)) (goodIn_sub (fun _ h => List.mem_cons_of_mem _ (List.mem_append_left _ (List.mem_append_left _ (List.mem_append_left _ (List.mem_append_left _ (List.mem_append_right _ h)))))) (by decide +kernel))) (goodIn_sub (fun _ h => List.mem_cons_of_mem _ (List.mem_append_left _ (List.mem_append_left _ (List.mem_append_left _ (List.mem_append_right _ h))))) (by decide +kernel))) (goodIn_sub (fun _ h => List.mem_cons_of_mem _ (List.mem_append_left _ (List.mem_append_left _ (List.mem_append_right _ h)))) (by decide +kernel))) (goodIn_sub (fun _ h => List.mem_cons_of_mem _ (List.mem_append_left _ (List.mem_append_left _ (List.mem_append_left _ (List.mem_append_left _ (List.mem_append_left _ (List.mem_append_right _ h))))))) (by decide +kernel))
set_option maxRecDepth 20000 in
theorem gX7_litresToReachByFormula_X7_requirePlan : GoodIn wsX7_litresToReachByFormula (wsV RX7 167 RX7 yX7_requirePlan wsX7_requirePlan) := goodIn_app (goodIn_of _ (by decide +kernel)) ggX7_litresToReachByFormula_X7_requirePlan
set_option maxRecDepth 20000 in
theorem ggX7_litresToReachByFormula_X7_litresByFormula : GoodIn wsX7_litresToReachByFormula wsX7_litresByFormula := goodIn_ca (goodIn_ca (goodIn_r _ [40, 41, 42, 43, 8, 44, 45, 46, 47] (by decide +kernel) (by decide +kernel)) (goodIn_sub (fun _ h => List.mem_cons_of_mem _ (List.mem_append_left _ (List.mem_append_left _ (List.mem_append_left _ (List.mem_append_left _ (List.mem_append_left _ (List.mem_append_right _ h))))))) (by decide +kernel))) (goodIn_sub (fun _ h => List.mem_cons_of_mem _ (List.mem_append_left _ (List.mem_append_right _ h))) (by decide +kernel))
set_option maxRecDepth 20000 in
theorem gX7_litresToReachByFormula_X7_litresByFormula : GoodIn wsX7_litresToReachByFormula (va_wsS RX7 177 yX7_litresByFormula wsX7_litresByFormula) := goodIn_app (goodIn_of _ (by decide +kernel)) ggX7_litresToReachByFormula_X7_litresByFormula
set_option maxRecDepth 20000 in
theorem ggX7_litresToReachByFormula_X7_requireLitres : GoodIn wsX7_litresToReachByFormula wsX7_requireLitres := goodIn_ca (goodIn_r _ [50, 51, 52] (by decide +kernel) (by decide +kernel)) (goodIn_sub (fun _ h => List.mem_cons_of_mem _ (List.mem_append_right _ h)) (by decide +kernel))
set_option maxRecDepth 20000 in
theorem gX7_litresToReachByFormula_X7_requireLitres : GoodIn wsX7_litresToReachByFormula (va_wsS RX7 174 yX7_requireLitres wsX7_requireLitres) := goodIn_app (goodIn_of _ (by decide +kernel)) ggX7_litresToReachByFormula_X7_requireLitres
theorem dX7_litresToReachByFormula_0 : decode cX7_litresToReachByFormula 0 = .ok (.aload_n 0, 1) := by decide +kernel
theorem dX7_litresToReachByFormula_1 : decode cX7_litresToReachByFormula 1 = .ok (.iload_n 1, 1) := by decide +kernel
theorem dX7_litresToReachByFormula_2 : decode cX7_litresToReachByFormula 2 = .ok (.iload_n 2, 1) := by decide +kernel
theorem dX7_litresToReachByFormula_3 : decode cX7_litresToReachByFormula 3 = .ok (.iload_n 3, 1) := by decide +kernel
theorem dX7_litresToReachByFormula_4 : decode cX7_litresToReachByFormula 4 = .ok (.invokevirtual 167, 3) := by decide +kernel
theorem dX7_litresToReachByFormula_7 : decode cX7_litresToReachByFormula 7 = .ok (.aload_n 0, 1) := by decide +kernel
theorem dX7_litresToReachByFormula_8 : decode cX7_litresToReachByFormula 8 = .ok (.getfield 12, 3) := by decide +kernel
theorem dX7_litresToReachByFormula_11 : decode cX7_litresToReachByFormula 11 = .ok (.getfield 77, 3) := by decide +kernel
theorem dX7_litresToReachByFormula_14 : decode cX7_litresToReachByFormula 14 = .ok (.getfield 81, 3) := by decide +kernel
theorem dX7_litresToReachByFormula_17 : decode cX7_litresToReachByFormula 17 = .ok (.iload_n 1, 1) := by decide +kernel
theorem dX7_litresToReachByFormula_18 : decode cX7_litresToReachByFormula 18 = .ok (.iaload, 1) := by decide +kernel
theorem dX7_litresToReachByFormula_19 : decode cX7_litresToReachByFormula 19 = .ok (.aload_n 0, 1) := by decide +kernel
theorem dX7_litresToReachByFormula_20 : decode cX7_litresToReachByFormula 20 = .ok (.getfield 12, 3) := by decide +kernel
theorem dX7_litresToReachByFormula_23 : decode cX7_litresToReachByFormula 23 = .ok (.getfield 77, 3) := by decide +kernel
theorem dX7_litresToReachByFormula_26 : decode cX7_litresToReachByFormula 26 = .ok (.getfield 147, 3) := by decide +kernel
theorem dX7_litresToReachByFormula_29 : decode cX7_litresToReachByFormula 29 = .ok (.iload_n 1, 1) := by decide +kernel
theorem dX7_litresToReachByFormula_30 : decode cX7_litresToReachByFormula 30 = .ok (.iaload, 1) := by decide +kernel
theorem dX7_litresToReachByFormula_31 : decode cX7_litresToReachByFormula 31 = .ok (.iload_n 2, 1) := by decide +kernel
theorem dX7_litresToReachByFormula_32 : decode cX7_litresToReachByFormula 32 = .ok (.iload_n 3, 1) := by decide +kernel
theorem dX7_litresToReachByFormula_33 : decode cX7_litresToReachByFormula 33 = .ok (.invokestatic 177, 3) := by decide +kernel
theorem dX7_litresToReachByFormula_36 : decode cX7_litresToReachByFormula 36 = .ok (.invokestatic 174, 3) := by decide +kernel
theorem dX7_litresToReachByFormula_39 : decode cX7_litresToReachByFormula 39 = .ok (.ireturn, 1) := by decide +kernel
set_option maxRecDepth 20000 in
theorem ggX7_isMember_X7_requireBath : GoodIn wsX7_isMember wsX7_requireBath := goodIn_ca (goodIn_r _ [8, 9, 10, 1, 2, 11, 12, 13, 14, 15, 16, 17, 18, 19, 20, 21, 22, 23, 24, 25, 26, 27, 28, 29, 30, 31, 32, 33, 34] (by decide +kernel) (by decide +kernel)) (goodIn_sub (fun _ h => List.mem_cons_of_mem _ (List.mem_append_right _ h)) (by decide +kernel))
set_option maxRecDepth 20000 in
theorem gX7_isMember_X7_requireBath : GoodIn wsX7_isMember (wsV RX7 144 RX7 yX7_requireBath wsX7_requireBath) := goodIn_app (goodIn_of _ (by decide +kernel)) ggX7_isMember_X7_requireBath
theorem dX7_isMember_0 : decode cX7_isMember 0 = .ok (.aload_n 0, 1) := by decide +kernel
theorem dX7_isMember_1 : decode cX7_isMember 1 = .ok (.iload_n 1, 1) := by decide +kernel
theorem dX7_isMember_2 : decode cX7_isMember 2 = .ok (.invokevirtual 144, 3) := by decide +kernel
theorem dX7_isMember_5 : decode cX7_isMember 5 = .ok (.aload_n 0, 1) := by decide +kernel
theorem dX7_isMember_6 : decode cX7_isMember 6 = .ok (.getfield 12, 3) := by decide +kernel
theorem dX7_isMember_9 : decode cX7_isMember 9 = .ok (.getfield 77, 3) := by decide +kernel
theorem dX7_isMember_12 : decode cX7_isMember 12 = .ok (.getfield 180, 3) := by decide +kernel
theorem dX7_isMember_15 : decode cX7_isMember 15 = .ok (.iload_n 1, 1) := by decide +kernel
theorem dX7_isMember_16 : decode cX7_isMember 16 = .ok (.baload, 1) := by decide +kernel
theorem dX7_isMember_17 : decode cX7_isMember 17 = .ok (.ireturn, 1) := by decide +kernel
set_option maxRecDepth 20000 in
theorem ggX7_memberCount_X0_members : GoodIn wsX7_memberCount wsX0_members := goodIn_ca (goodIn_r _ [7, 8, 9, 23, 24, 25, 26, 27] (by decide +kernel) (by decide +kernel)) (goodIn_sub (fun _ h => List.mem_cons_of_mem _ (List.mem_append_right _ h)) (by decide +kernel))
set_option maxRecDepth 20000 in
theorem gX7_memberCount_X0_members : GoodIn wsX7_memberCount (wsV RX7 117 RX0 yX0_members wsX0_members) := goodIn_app (goodIn_of _ (by decide +kernel)) ggX7_memberCount_X0_members
theorem dX7_memberCount_0 : decode cX7_memberCount 0 = .ok (.aload_n 0, 1) := by decide +kernel
theorem dX7_memberCount_1 : decode cX7_memberCount 1 = .ok (.getfield 12, 3) := by decide +kernel
theorem dX7_memberCount_4 : decode cX7_memberCount 4 = .ok (.getfield 77, 3) := by decide +kernel
theorem dX7_memberCount_7 : decode cX7_memberCount 7 = .ok (.invokevirtual 117, 3) := by decide +kernel
theorem dX7_memberCount_10 : decode cX7_memberCount 10 = .ok (.ireturn, 1) := by decide +kernel
set_option maxRecDepth 20000 in
theorem ggX7_leagueHeat_X0_heatOfMembers : GoodIn wsX7_leagueHeat wsX0_heatOfMembers := goodIn_ca (goodIn_r _ [7, 8, 9, 10, 24, 25, 26, 27, 28] (by decide +kernel) (by decide +kernel)) (goodIn_sub (fun _ h => List.mem_cons_of_mem _ (List.mem_append_right _ h)) (by decide +kernel))
set_option maxRecDepth 20000 in
theorem gX7_leagueHeat_X0_heatOfMembers : GoodIn wsX7_leagueHeat (wsV RX7 183 RX0 yX0_heatOfMembers wsX0_heatOfMembers) := goodIn_app (goodIn_of _ (by decide +kernel)) ggX7_leagueHeat_X0_heatOfMembers
theorem dX7_leagueHeat_0 : decode cX7_leagueHeat 0 = .ok (.aload_n 0, 1) := by decide +kernel
theorem dX7_leagueHeat_1 : decode cX7_leagueHeat 1 = .ok (.getfield 12, 3) := by decide +kernel
theorem dX7_leagueHeat_4 : decode cX7_leagueHeat 4 = .ok (.getfield 77, 3) := by decide +kernel
theorem dX7_leagueHeat_7 : decode cX7_leagueHeat 7 = .ok (.invokevirtual 183, 3) := by decide +kernel
theorem dX7_leagueHeat_10 : decode cX7_leagueHeat 10 = .ok (.ireturn, 1) := by decide +kernel
set_option maxRecDepth 20000 in
theorem ggX7_leagueHeatByOthers_X0_heatOfAll : GoodIn wsX7_leagueHeatByOthers wsX0_heatOfAll := goodIn_ca (goodIn_r _ [7, 8, 9, 28, 29, 30, 31, 32] (by decide +kernel) (by decide +kernel)) (goodIn_sub (fun _ h => List.mem_cons_of_mem _ (List.mem_append_right _ h)) (by decide +kernel))
set_option maxRecDepth 20000 in
theorem gX7_leagueHeatByOthers_X0_heatOfAll : GoodIn wsX7_leagueHeatByOthers (wsV RX7 186 RX0 yX0_heatOfAll wsX0_heatOfAll) := goodIn_app (goodIn_of _ (by decide +kernel)) ggX7_leagueHeatByOthers_X0_heatOfAll
set_option maxRecDepth 20000 in
theorem ggX7_leagueHeatByOthers_X0_heatOfOthers : GoodIn wsX7_leagueHeatByOthers wsX0_heatOfOthers := goodIn_ca (goodIn_r _ [13, 8, 14, 9, 28, 29, 30, 31, 32] (by decide +kernel) (by decide +kernel)) (goodIn_sub (fun _ h => List.mem_cons_of_mem _ (List.mem_append_right _ h)) (by decide +kernel))
set_option maxRecDepth 20000 in
theorem gX7_leagueHeatByOthers_X0_heatOfOthers : GoodIn wsX7_leagueHeatByOthers (wsV RX7 189 RX0 yX0_heatOfOthers wsX0_heatOfOthers) := goodIn_app (goodIn_of _ (by decide +kernel)) ggX7_leagueHeatByOthers_X0_heatOfOthers
theorem dX7_leagueHeatByOthers_0 : decode cX7_leagueHeatByOthers 0 = .ok (.aload_n 0, 1) := by decide +kernel
theorem dX7_leagueHeatByOthers_1 : decode cX7_leagueHeatByOthers 1 = .ok (.getfield 12, 3) := by decide +kernel
theorem dX7_leagueHeatByOthers_4 : decode cX7_leagueHeatByOthers 4 = .ok (.getfield 77, 3) := by decide +kernel
theorem dX7_leagueHeatByOthers_7 : decode cX7_leagueHeatByOthers 7 = .ok (.invokevirtual 186, 3) := by decide +kernel
theorem dX7_leagueHeatByOthers_10 : decode cX7_leagueHeatByOthers 10 = .ok (.aload_n 0, 1) := by decide +kernel
theorem dX7_leagueHeatByOthers_11 : decode cX7_leagueHeatByOthers 11 = .ok (.getfield 12, 3) := by decide +kernel
theorem dX7_leagueHeatByOthers_14 : decode cX7_leagueHeatByOthers 14 = .ok (.getfield 77, 3) := by decide +kernel
theorem dX7_leagueHeatByOthers_17 : decode cX7_leagueHeatByOthers 17 = .ok (.invokevirtual 189, 3) := by decide +kernel
theorem dX7_leagueHeatByOthers_20 : decode cX7_leagueHeatByOthers 20 = .ok (.isub, 1) := by decide +kernel
theorem dX7_leagueHeatByOthers_21 : decode cX7_leagueHeatByOthers 21 = .ok (.ireturn, 1) := by decide +kernel
set_option maxRecDepth 20000 in
theorem ggX7_warmestMember_X0_hottestMember : GoodIn wsX7_warmestMember wsX0_hottestMember := goodIn_ca (goodIn_r _ [9, 10, 11, 12, 13, 14, 8, 15, 16, 17, 18, 19, 20, 21, 35, 36, 37, 38, 39] (by decide +kernel) (by decide +kernel)) (goodIn_sub (fun _ h => List.mem_cons_of_mem _ (List.mem_append_right _ h)) (by decide +kernel))
set_option maxRecDepth 20000 in
theorem gX7_warmestMember_X0_hottestMember : GoodIn wsX7_warmestMember (wsV RX7 192 RX0 yX0_hottestMember wsX0_hottestMember) := goodIn_app (goodIn_of _ (by decide +kernel)) ggX7_warmestMember_X0_hottestMember
theorem dX7_warmestMember_0 : decode cX7_warmestMember 0 = .ok (.aload_n 0, 1) := by decide +kernel
theorem dX7_warmestMember_1 : decode cX7_warmestMember 1 = .ok (.getfield 12, 3) := by decide +kernel
theorem dX7_warmestMember_4 : decode cX7_warmestMember 4 = .ok (.getfield 77, 3) := by decide +kernel
theorem dX7_warmestMember_7 : decode cX7_warmestMember 7 = .ok (.invokevirtual 192, 3) := by decide +kernel
theorem dX7_warmestMember_10 : decode cX7_warmestMember 10 = .ok (.istore_n 1, 1) := by decide +kernel
theorem dX7_warmestMember_11 : decode cX7_warmestMember 11 = .ok (.iload_n 1, 1) := by decide +kernel
theorem dX7_warmestMember_12 : decode cX7_warmestMember 12 = .ok (.iconst (-1), 1) := by decide +kernel
theorem dX7_warmestMember_13 : decode cX7_warmestMember 13 = .ok (.if_icmp .ne 13, 3) := by decide +kernel
theorem dX7_warmestMember_16 : decode cX7_warmestMember 16 = .ok (.new 195, 3) := by decide +kernel
theorem dX7_warmestMember_19 : decode cX7_warmestMember 19 = .ok (.dup, 1) := by decide +kernel
theorem dX7_warmestMember_20 : decode cX7_warmestMember 20 = .ok (.ldc 197, 2) := by decide +kernel
theorem dX7_warmestMember_22 : decode cX7_warmestMember 22 = .ok (.invokespecial 199, 3) := by decide +kernel
theorem dX7_warmestMember_25 : decode cX7_warmestMember 25 = .ok (.athrow, 1) := by decide +kernel
theorem dX7_warmestMember_26 : decode cX7_warmestMember 26 = .ok (.iload_n 1, 1) := by decide +kernel
theorem dX7_warmestMember_27 : decode cX7_warmestMember 27 = .ok (.ireturn, 1) := by decide +kernel
set_option maxRecDepth 20000 in
theorem ggX7_coldestMember_X0_coolestMember : GoodIn wsX7_coldestMember wsX0_coolestMember := goodIn_ca (goodIn_r _ [9, 10, 11, 12, 13, 14, 8, 15, 16, 17, 18, 19, 20, 21, 35, 36, 37, 38, 39] (by decide +kernel) (by decide +kernel)) (goodIn_sub (fun _ h => List.mem_cons_of_mem _ (List.mem_append_right _ h)) (by decide +kernel))
set_option maxRecDepth 20000 in
theorem gX7_coldestMember_X0_coolestMember : GoodIn wsX7_coldestMember (wsV RX7 202 RX0 yX0_coolestMember wsX0_coolestMember) := goodIn_app (goodIn_of _ (by decide +kernel)) ggX7_coldestMember_X0_coolestMember
theorem dX7_coldestMember_0 : decode cX7_coldestMember 0 = .ok (.aload_n 0, 1) := by decide +kernel
theorem dX7_coldestMember_1 : decode cX7_coldestMember 1 = .ok (.getfield 12, 3) := by decide +kernel
theorem dX7_coldestMember_4 : decode cX7_coldestMember 4 = .ok (.getfield 77, 3) := by decide +kernel
theorem dX7_coldestMember_7 : decode cX7_coldestMember 7 = .ok (.invokevirtual 202, 3) := by decide +kernel
theorem dX7_coldestMember_10 : decode cX7_coldestMember 10 = .ok (.istore_n 1, 1) := by decide +kernel
theorem dX7_coldestMember_11 : decode cX7_coldestMember 11 = .ok (.iload_n 1, 1) := by decide +kernel
theorem dX7_coldestMember_12 : decode cX7_coldestMember 12 = .ok (.iconst (-1), 1) := by decide +kernel
theorem dX7_coldestMember_13 : decode cX7_coldestMember 13 = .ok (.if_icmp .ne 13, 3) := by decide +kernel
theorem dX7_coldestMember_16 : decode cX7_coldestMember 16 = .ok (.new 195, 3) := by decide +kernel
theorem dX7_coldestMember_19 : decode cX7_coldestMember 19 = .ok (.dup, 1) := by decide +kernel
theorem dX7_coldestMember_20 : decode cX7_coldestMember 20 = .ok (.ldc 197, 2) := by decide +kernel
theorem dX7_coldestMember_22 : decode cX7_coldestMember 22 = .ok (.invokespecial 199, 3) := by decide +kernel
theorem dX7_coldestMember_25 : decode cX7_coldestMember 25 = .ok (.athrow, 1) := by decide +kernel
theorem dX7_coldestMember_26 : decode cX7_coldestMember 26 = .ok (.iload_n 1, 1) := by decide +kernel
theorem dX7_coldestMember_27 : decode cX7_coldestMember 27 = .ok (.ireturn, 1) := by decide +kernel
set_option maxRecDepth 20000 in
theorem ggX7_sharedHeat_X0_membersWithWater : GoodIn wsX7_sharedHeat wsX0_membersWithWater := goodIn_ca (goodIn_r _ [9, 10, 11, 12, 13, 14, 8, 15, 16, 55, 56, 57, 58, 59] (by decide +kernel) (by decide +kernel)) (goodIn_sub (fun _ h => List.mem_cons_of_mem _ (List.mem_append_left _ (List.mem_append_right _ h))) (by decide +kernel))
set_option maxRecDepth 20000 in
theorem gX7_sharedHeat_X0_membersWithWater : GoodIn wsX7_sharedHeat (wsV RX7 205 RX0 yX0_membersWithWater wsX0_membersWithWater) := goodIn_app (goodIn_of _ (by decide +kernel)) ggX7_sharedHeat_X0_membersWithWater
set_option maxRecDepth 20000 in
theorem ggX7_sharedHeat_X0_hottestMember : GoodIn wsX7_sharedHeat wsX0_hottestMember := goodIn_ca (goodIn_r _ [20, 10, 11, 12, 13, 14, 8, 15, 16, 21, 22, 23, 24, 25, 55, 56, 57, 58, 59] (by decide +kernel) (by decide +kernel)) (goodIn_sub (fun _ h => List.mem_cons_of_mem _ (List.mem_append_left _ (List.mem_append_right _ h))) (by decide +kernel))
set_option maxRecDepth 20000 in
theorem gX7_sharedHeat_X0_hottestMember : GoodIn wsX7_sharedHeat (wsV RX7 192 RX0 yX0_hottestMember wsX0_hottestMember) := goodIn_app (goodIn_of _ (by decide +kernel)) ggX7_sharedHeat_X0_hottestMember
set_option maxRecDepth 20000 in
theorem ggX7_sharedHeat_X0_coolestMember : GoodIn wsX7_sharedHeat wsX0_coolestMember := goodIn_ca (goodIn_r _ [29, 10, 11, 12, 13, 14, 8, 15, 16, 21, 22, 23, 24, 25, 55, 56, 57, 58, 59] (by decide +kernel) (by decide +kernel)) (goodIn_sub (fun _ h => List.mem_cons_of_mem _ (List.mem_append_left _ (List.mem_append_right _ h))) (by decide +kernel))
set_option maxRecDepth 20000 in
theorem gX7_sharedHeat_X0_coolestMember : GoodIn wsX7_sharedHeat (wsV RX7 202 RX0 yX0_coolestMember wsX0_coolestMember) := goodIn_app (goodIn_of _ (by decide +kernel)) ggX7_sharedHeat_X0_coolestMember
set_option maxRecDepth 20000 in
theorem ggX7_sharedHeat_X0_unitsToShare : GoodIn wsX7_sharedHeat wsX0_unitsToShare := goodIn_ca (goodIn_ca (goodIn_r _ [33, 16, 25, 34, 35, 36, 37, 38, 39, 40, 8, 41, 10, 55, 56, 57, 58, 59] (by decide +kernel) (by decide +kernel)) (goodIn_sub (fun _ h => List.mem_cons_of_mem _ (List.mem_append_left _ (List.mem_append_right _ h))) (by decide +kernel))) (goodIn_sub (fun _ h => List.mem_cons_of_mem _ (List.mem_append_right _ h)) (by decide +kernel))
set_option maxRecDepth 20000 in
theorem gX7_sharedHeat_X0_unitsToShare : GoodIn wsX7_sharedHeat (wsV RX7 210 RX0 yX0_unitsToShare wsX0_unitsToShare) := goodIn_app (goodIn_of _ (by decide +kernel)) ggX7_sharedHeat_X0_unitsToShare
theorem dX7_sharedHeat_0 : decode cX7_sharedHeat 0 = .ok (.aload_n 0, 1) := by decide +kernel
theorem dX7_sharedHeat_1 : decode cX7_sharedHeat 1 = .ok (.getfield 12, 3) := by decide +kernel
theorem dX7_sharedHeat_4 : decode cX7_sharedHeat 4 = .ok (.getfield 77, 3) := by decide +kernel
theorem dX7_sharedHeat_7 : decode cX7_sharedHeat 7 = .ok (.invokevirtual 205, 3) := by decide +kernel
theorem dX7_sharedHeat_10 : decode cX7_sharedHeat 10 = .ok (.iconst 2, 1) := by decide +kernel
theorem dX7_sharedHeat_11 : decode cX7_sharedHeat 11 = .ok (.if_icmp .ge 13, 3) := by decide +kernel
theorem dX7_sharedHeat_14 : decode cX7_sharedHeat 14 = .ok (.new 195, 3) := by decide +kernel
theorem dX7_sharedHeat_17 : decode cX7_sharedHeat 17 = .ok (.dup, 1) := by decide +kernel
theorem dX7_sharedHeat_18 : decode cX7_sharedHeat 18 = .ok (.ldc 208, 2) := by decide +kernel
theorem dX7_sharedHeat_20 : decode cX7_sharedHeat 20 = .ok (.invokespecial 199, 3) := by decide +kernel
theorem dX7_sharedHeat_23 : decode cX7_sharedHeat 23 = .ok (.athrow, 1) := by decide +kernel
theorem dX7_sharedHeat_24 : decode cX7_sharedHeat 24 = .ok (.aload_n 0, 1) := by decide +kernel
theorem dX7_sharedHeat_25 : decode cX7_sharedHeat 25 = .ok (.getfield 12, 3) := by decide +kernel
theorem dX7_sharedHeat_28 : decode cX7_sharedHeat 28 = .ok (.getfield 77, 3) := by decide +kernel
theorem dX7_sharedHeat_31 : decode cX7_sharedHeat 31 = .ok (.aload_n 0, 1) := by decide +kernel
theorem dX7_sharedHeat_32 : decode cX7_sharedHeat 32 = .ok (.getfield 12, 3) := by decide +kernel
theorem dX7_sharedHeat_35 : decode cX7_sharedHeat 35 = .ok (.getfield 77, 3) := by decide +kernel
theorem dX7_sharedHeat_38 : decode cX7_sharedHeat 38 = .ok (.invokevirtual 192, 3) := by decide +kernel
theorem dX7_sharedHeat_41 : decode cX7_sharedHeat 41 = .ok (.aload_n 0, 1) := by decide +kernel
theorem dX7_sharedHeat_42 : decode cX7_sharedHeat 42 = .ok (.getfield 12, 3) := by decide +kernel
theorem dX7_sharedHeat_45 : decode cX7_sharedHeat 45 = .ok (.getfield 77, 3) := by decide +kernel
theorem dX7_sharedHeat_48 : decode cX7_sharedHeat 48 = .ok (.invokevirtual 202, 3) := by decide +kernel
theorem dX7_sharedHeat_51 : decode cX7_sharedHeat 51 = .ok (.invokevirtual 210, 3) := by decide +kernel
theorem dX7_sharedHeat_54 : decode cX7_sharedHeat 54 = .ok (.ireturn, 1) := by decide +kernel
set_option maxRecDepth 20000 in
theorem ggX7_ticksUntilDefection_X7_requireBath : GoodIn wsX7_ticksUntilDefection wsX7_requireBath := goodIn_ca (goodIn_r _ [13, 14, 15, 5, 6, 16, 17, 18, 19, 20, 21, 156, 157, 158, 159, 160, 161, 162, 163, 164, 165, 166, 167, 168, 169, 170, 171, 172, 173] (by decide +kernel) (by decide +kernel)) (goodIn_sub (fun _ h => List.mem_cons_of_mem _ (List.mem_append_left _ (List.mem_append_right _ h))) (by decide +kernel))
set_option maxRecDepth 20000 in
theorem gX7_ticksUntilDefection_X7_requireBath : GoodIn wsX7_ticksUntilDefection (wsV RX7 144 RX7 yX7_requireBath wsX7_requireBath) := goodIn_app (goodIn_of _ (by decide +kernel)) ggX7_ticksUntilDefection_X7_requireBath
set_option maxRecDepth 20000 in
theorem ggX7_ticksUntilDefection_X5_copyFrom : GoodIn wsX7_ticksUntilDefection wsX5_copyFrom := goodIn_ca (goodIn_r _ [26, 27, 28, 29, 30, 31, 32, 33, 19, 34, 21, 35, 36, 37, 38, 39, 40, 41, 42, 43, 44, 45, 46, 47, 48, 49, 50, 51, 52, 53, 54, 55, 56, 57, 58, 59, 60, 61, 62, 63, 64, 65, 66, 67, 68, 69, 165, 166, 167, 168, 169, 170, 171, 172, 173, 174, 175, 176, 177, 178, 179, 180, 181, 182, 183, 184, 185, 186, 187, 188, 189] (by decide +kernel) (by decide +kernel)) (goodIn_sub (fun _ h => List.mem_cons_of_mem _ (List.mem_append_left _ (List.mem_append_left _ (List.mem_append_left _ (List.mem_append_left _ (List.mem_append_right _ h)))))) (by decide +kernel))
set_option maxRecDepth 20000 in
theorem gX7_ticksUntilDefection_X5_copyFrom : GoodIn wsX7_ticksUntilDefection (wsV RX7 219 RX5 yX5_copyFrom wsX5_copyFrom) := goodIn_app (goodIn_of _ (by decide +kernel)) ggX7_ticksUntilDefection_X5_copyFrom
set_option maxRecDepth 20000 in
theorem ggX7_ticksUntilDefection_X5_tick : GoodIn wsX7_ticksUntilDefection wsX5_tick := goodIn_ca (goodIn_ca (goodIn_r _ [73, 27, 30, 74, 28, 75, 76, 77, 25, 78, 79, 80, 81, 82, 83, 84, 85, 19, 86, 35, 87, 88, 89, 90, 91, 92, 93, 94, 95, 96, 97, 98, 99, 100, 36, 101, 102, 103, 104, 105, 106, 107, 108, 109, 21, 38, 110, 111, 112, 113, 114, 115, 116, 117, 118, 119, 120, 121, 122, 123, 124, 125, 126, 127, 17, 18, 20, 128, 129, 130, 131, 132, 133, 29, 134, 135, 136, 137, 138, 12, 139, 140, 141, 142, 53, 143, 56, 57, 58, 55, 144, 145, 146, 147, 42, 148, 44, 49, 48, 149, 150, 151, 152, 45, 153, 154, 46, 47, 155, 165, 166, 167, 168, 184, 185, 186, 187, 188, 189, 169, 170, 171, 172, 173, 180, 181, 182, 183, 174, 175, 176, 177, 178, 179] (by decide +kernel) (by decide +kernel)) (goodIn_sub (fun _ h => List.mem_cons_of_mem _ (List.mem_append_left _ (List.mem_append_left _ (List.mem_append_left _ (List.mem_append_left _ (List.mem_append_right _ h)))))) (by decide +kernel))) (goodIn_sub (fun _ h => List.mem_cons_of_mem _ (List.mem_append_right _ h)) (by decide +kernel))
set_option maxRecDepth 20000 in
theorem gX7_ticksUntilDefection_X5_tick : GoodIn wsX7_ticksUntilDefection (wsV RX7 222 RX5 yX5_tick wsX5_tick) := goodIn_app (goodIn_of _ (by decide +kernel)) ggX7_ticksUntilDefection_X5_tick
theorem dX7_ticksUntilDefection_0 : decode cX7_ticksUntilDefection 0 = .ok (.aload_n 0, 1) := by decide +kernel
theorem dX7_ticksUntilDefection_1 : decode cX7_ticksUntilDefection 1 = .ok (.iload_n 1, 1) := by decide +kernel
theorem dX7_ticksUntilDefection_2 : decode cX7_ticksUntilDefection 2 = .ok (.invokevirtual 144, 3) := by decide +kernel
theorem dX7_ticksUntilDefection_5 : decode cX7_ticksUntilDefection 5 = .ok (.aload_n 0, 1) := by decide +kernel
theorem dX7_ticksUntilDefection_6 : decode cX7_ticksUntilDefection 6 = .ok (.getfield 12, 3) := by decide +kernel
theorem dX7_ticksUntilDefection_9 : decode cX7_ticksUntilDefection 9 = .ok (.getfield 77, 3) := by decide +kernel
theorem dX7_ticksUntilDefection_12 : decode cX7_ticksUntilDefection 12 = .ok (.getfield 180, 3) := by decide +kernel
theorem dX7_ticksUntilDefection_15 : decode cX7_ticksUntilDefection 15 = .ok (.iload_n 1, 1) := by decide +kernel
theorem dX7_ticksUntilDefection_16 : decode cX7_ticksUntilDefection 16 = .ok (.baload, 1) := by decide +kernel
theorem dX7_ticksUntilDefection_17 : decode cX7_ticksUntilDefection 17 = .ok (.ifCond .ne 13, 3) := by decide +kernel
theorem dX7_ticksUntilDefection_20 : decode cX7_ticksUntilDefection 20 = .ok (.new 214, 3) := by decide +kernel
theorem dX7_ticksUntilDefection_23 : decode cX7_ticksUntilDefection 23 = .ok (.dup, 1) := by decide +kernel
theorem dX7_ticksUntilDefection_24 : decode cX7_ticksUntilDefection 24 = .ok (.ldc 216, 2) := by decide +kernel
theorem dX7_ticksUntilDefection_26 : decode cX7_ticksUntilDefection 26 = .ok (.invokespecial 218, 3) := by decide +kernel
theorem dX7_ticksUntilDefection_29 : decode cX7_ticksUntilDefection 29 = .ok (.athrow, 1) := by decide +kernel
theorem dX7_ticksUntilDefection_30 : decode cX7_ticksUntilDefection 30 = .ok (.aload_n 0, 1) := by decide +kernel
theorem dX7_ticksUntilDefection_31 : decode cX7_ticksUntilDefection 31 = .ok (.getfield 16, 3) := by decide +kernel
theorem dX7_ticksUntilDefection_34 : decode cX7_ticksUntilDefection 34 = .ok (.aload_n 0, 1) := by decide +kernel
theorem dX7_ticksUntilDefection_35 : decode cX7_ticksUntilDefection 35 = .ok (.getfield 12, 3) := by decide +kernel
theorem dX7_ticksUntilDefection_38 : decode cX7_ticksUntilDefection 38 = .ok (.invokevirtual 219, 3) := by decide +kernel
theorem dX7_ticksUntilDefection_41 : decode cX7_ticksUntilDefection 41 = .ok (.iconst 1, 1) := by decide +kernel
theorem dX7_ticksUntilDefection_42 : decode cX7_ticksUntilDefection 42 = .ok (.istore_n 2, 1) := by decide +kernel
theorem dX7_ticksUntilDefection_43 : decode cX7_ticksUntilDefection 43 = .ok (.iload_n 2, 1) := by decide +kernel
theorem dX7_ticksUntilDefection_44 : decode cX7_ticksUntilDefection 44 = .ok (.bipush 60, 2) := by decide +kernel
theorem dX7_ticksUntilDefection_46 : decode cX7_ticksUntilDefection 46 = .ok (.if_icmp .gt 33, 3) := by decide +kernel
theorem dX7_ticksUntilDefection_49 : decode cX7_ticksUntilDefection 49 = .ok (.aload_n 0, 1) := by decide +kernel
theorem dX7_ticksUntilDefection_50 : decode cX7_ticksUntilDefection 50 = .ok (.getfield 16, 3) := by decide +kernel
theorem dX7_ticksUntilDefection_53 : decode cX7_ticksUntilDefection 53 = .ok (.invokevirtual 222, 3) := by decide +kernel
theorem dX7_ticksUntilDefection_56 : decode cX7_ticksUntilDefection 56 = .ok (.aload_n 0, 1) := by decide +kernel
theorem dX7_ticksUntilDefection_57 : decode cX7_ticksUntilDefection 57 = .ok (.getfield 16, 3) := by decide +kernel
theorem dX7_ticksUntilDefection_60 : decode cX7_ticksUntilDefection 60 = .ok (.getfield 77, 3) := by decide +kernel
theorem dX7_ticksUntilDefection_63 : decode cX7_ticksUntilDefection 63 = .ok (.getfield 180, 3) := by decide +kernel
theorem dX7_ticksUntilDefection_66 : decode cX7_ticksUntilDefection 66 = .ok (.iload_n 1, 1) := by decide +kernel
theorem dX7_ticksUntilDefection_67 : decode cX7_ticksUntilDefection 67 = .ok (.baload, 1) := by decide +kernel
theorem dX7_ticksUntilDefection_68 : decode cX7_ticksUntilDefection 68 = .ok (.ifCond .ne 5, 3) := by decide +kernel
theorem dX7_ticksUntilDefection_71 : decode cX7_ticksUntilDefection 71 = .ok (.iload_n 2, 1) := by decide +kernel
theorem dX7_ticksUntilDefection_72 : decode cX7_ticksUntilDefection 72 = .ok (.ireturn, 1) := by decide +kernel
theorem dX7_ticksUntilDefection_73 : decode cX7_ticksUntilDefection 73 = .ok (.iinc 2 1, 3) := by decide +kernel
theorem dX7_ticksUntilDefection_76 : decode cX7_ticksUntilDefection 76 = .ok (.goto (-33), 3) := by decide +kernel
theorem dX7_ticksUntilDefection_79 : decode cX7_ticksUntilDefection 79 = .ok (.new 195, 3) := by decide +kernel
theorem dX7_ticksUntilDefection_82 : decode cX7_ticksUntilDefection 82 = .ok (.dup, 1) := by decide +kernel
theorem dX7_ticksUntilDefection_83 : decode cX7_ticksUntilDefection 83 = .ok (.ldc 225, 2) := by decide +kernel
theorem dX7_ticksUntilDefection_85 : decode cX7_ticksUntilDefection 85 = .ok (.invokespecial 199, 3) := by decide +kernel
theorem dX7_ticksUntilDefection_88 : decode cX7_ticksUntilDefection 88 = .ok (.athrow, 1) := by decide +kernel
set_option maxRecDepth 20000 in
theorem ggX7_heatAfter_X7_requireBath : GoodIn wsX7_heatAfter wsX7_requireBath := goodIn_ca (goodIn_r _ [11, 12, 13, 4, 5, 14, 15, 16, 17, 18, 19, 158, 159, 160, 161, 162, 163, 164, 165, 166, 167, 168, 169, 170, 171, 172, 173, 174, 175] (by decide +kernel) (by decide +kernel)) (goodIn_sub (fun _ h => List.mem_cons_of_mem _ (List.mem_append_left _ (List.mem_append_right _ h))) (by decide +kernel))
set_option maxRecDepth 20000 in
theorem gX7_heatAfter_X7_requireBath : GoodIn wsX7_heatAfter (wsV RX7 144 RX7 yX7_requireBath wsX7_requireBath) := goodIn_app (goodIn_of _ (by decide +kernel)) ggX7_heatAfter_X7_requireBath
set_option maxRecDepth 20000 in
theorem ggX7_heatAfter_X5_copyFrom : GoodIn wsX7_heatAfter wsX5_copyFrom := goodIn_ca (goodIn_r _ [24, 25, 26, 27, 28, 29, 30, 31, 17, 32, 19, 33, 34, 35, 36, 37, 38, 39, 40, 41, 42, 43, 44, 45, 46, 47, 48, 49, 50, 51, 52, 53, 54, 55, 56, 57, 58, 59, 60, 61, 62, 63, 64, 65, 66, 67, 167, 168, 169, 170, 171, 172, 173, 174, 175, 176, 177, 178, 179, 180, 181, 182, 183, 184, 185, 186, 187, 188, 189, 190, 191] (by decide +kernel) (by decide +kernel)) (goodIn_sub (fun _ h => List.mem_cons_of_mem _ (List.mem_append_left _ (List.mem_append_left _ (List.mem_append_right _ h)))) (by decide +kernel))
set_option maxRecDepth 20000 in
theorem gX7_heatAfter_X5_copyFrom : GoodIn wsX7_heatAfter (wsV RX7 219 RX5 yX5_copyFrom wsX5_copyFrom) := goodIn_app (goodIn_of _ (by decide +kernel)) ggX7_heatAfter_X5_copyFrom
set_option maxRecDepth 20000 in
theorem ggX7_heatAfter_X5_passTicks : GoodIn wsX7_heatAfter wsX5_passTicks := goodIn_ca (goodIn_ca (goodIn_r _ [71, 72, 73, 74, 23, 75, 25, 28, 76, 26, 77, 78, 79, 80, 81, 82, 83, 84, 85, 86, 87, 17, 88, 33, 89, 90, 91, 92, 93, 94, 95, 96, 97, 98, 99, 100, 101, 102, 34, 103, 104, 105, 106, 107, 108, 109, 110, 111, 19, 36, 112, 113, 114, 115, 116, 117, 118, 119, 120, 121, 122, 123, 124, 125, 126, 127, 128, 129, 15, 16, 18, 130, 131, 132, 133, 134, 135, 27, 136, 137, 138, 139, 140, 10, 141, 142, 143, 144, 51, 145, 54, 55, 56, 53, 146, 147, 148, 149, 40, 150, 42, 47, 46, 151, 152, 153, 154, 43, 155, 156, 44, 45, 157, 167, 168, 169, 170, 186, 187, 188, 189, 190, 191, 171, 172, 173, 174, 175, 182, 183, 184, 185, 176, 177, 178, 179, 180, 181] (by decide +kernel) (by decide +kernel)) (goodIn_sub (fun _ h => List.mem_cons_of_mem _ (List.mem_append_left _ (List.mem_append_left _ (List.mem_append_right _ h)))) (by decide +kernel))) (goodIn_sub (fun _ h => List.mem_cons_of_mem _ (List.mem_append_right _ h)) (by decide +kernel))
set_option maxRecDepth 20000 in
theorem gX7_heatAfter_X5_passTicks : GoodIn wsX7_heatAfter (wsV RX7 138 RX5 yX5_passTicks wsX5_passTicks) := goodIn_app (goodIn_of _ (by decide +kernel)) ggX7_heatAfter_X5_passTicks
theorem dX7_heatAfter_0 : decode cX7_heatAfter 0 = .ok (.aload_n 0, 1) := by decide +kernel
theorem dX7_heatAfter_1 : decode cX7_heatAfter 1 = .ok (.iload_n 1, 1) := by decide +kernel
theorem dX7_heatAfter_2 : decode cX7_heatAfter 2 = .ok (.invokevirtual 144, 3) := by decide +kernel
theorem dX7_heatAfter_5 : decode cX7_heatAfter 5 = .ok (.iload_n 2, 1) := by decide +kernel
theorem dX7_heatAfter_6 : decode cX7_heatAfter 6 = .ok (.ifCond .lt 9, 3) := by decide +kernel
theorem dX7_heatAfter_9 : decode cX7_heatAfter 9 = .ok (.iload_n 2, 1) := by decide +kernel
theorem dX7_heatAfter_10 : decode cX7_heatAfter 10 = .ok (.bipush 60, 2) := by decide +kernel
theorem dX7_heatAfter_12 : decode cX7_heatAfter 12 = .ok (.if_icmp .le 13, 3) := by decide +kernel
theorem dX7_heatAfter_15 : decode cX7_heatAfter 15 = .ok (.new 227, 3) := by decide +kernel
theorem dX7_heatAfter_18 : decode cX7_heatAfter 18 = .ok (.dup, 1) := by decide +kernel
theorem dX7_heatAfter_19 : decode cX7_heatAfter 19 = .ok (.ldc 229, 2) := by decide +kernel
theorem dX7_heatAfter_21 : decode cX7_heatAfter 21 = .ok (.invokespecial 231, 3) := by decide +kernel
theorem dX7_heatAfter_24 : decode cX7_heatAfter 24 = .ok (.athrow, 1) := by decide +kernel
theorem dX7_heatAfter_25 : decode cX7_heatAfter 25 = .ok (.aload_n 0, 1) := by decide +kernel
theorem dX7_heatAfter_26 : decode cX7_heatAfter 26 = .ok (.getfield 16, 3) := by decide +kernel
theorem dX7_heatAfter_29 : decode cX7_heatAfter 29 = .ok (.aload_n 0, 1) := by decide +kernel
theorem dX7_heatAfter_30 : decode cX7_heatAfter 30 = .ok (.getfield 12, 3) := by decide +kernel
theorem dX7_heatAfter_33 : decode cX7_heatAfter 33 = .ok (.invokevirtual 219, 3) := by decide +kernel
theorem dX7_heatAfter_36 : decode cX7_heatAfter 36 = .ok (.aload_n 0, 1) := by decide +kernel
theorem dX7_heatAfter_37 : decode cX7_heatAfter 37 = .ok (.getfield 16, 3) := by decide +kernel
theorem dX7_heatAfter_40 : decode cX7_heatAfter 40 = .ok (.iload_n 2, 1) := by decide +kernel
theorem dX7_heatAfter_41 : decode cX7_heatAfter 41 = .ok (.invokevirtual 138, 3) := by decide +kernel
theorem dX7_heatAfter_44 : decode cX7_heatAfter 44 = .ok (.aload_n 0, 1) := by decide +kernel
theorem dX7_heatAfter_45 : decode cX7_heatAfter 45 = .ok (.getfield 16, 3) := by decide +kernel
theorem dX7_heatAfter_48 : decode cX7_heatAfter 48 = .ok (.getfield 77, 3) := by decide +kernel
theorem dX7_heatAfter_51 : decode cX7_heatAfter 51 = .ok (.getfield 147, 3) := by decide +kernel
theorem dX7_heatAfter_54 : decode cX7_heatAfter 54 = .ok (.iload_n 1, 1) := by decide +kernel
theorem dX7_heatAfter_55 : decode cX7_heatAfter 55 = .ok (.iaload, 1) := by decide +kernel
theorem dX7_heatAfter_56 : decode cX7_heatAfter 56 = .ok (.ireturn, 1) := by decide +kernel
theorem dX7_duckCount_0 : decode cX7_duckCount 0 = .ok (.aload_n 0, 1) := by decide +kernel
theorem dX7_duckCount_1 : decode cX7_duckCount 1 = .ok (.getfield 12, 3) := by decide +kernel
theorem dX7_duckCount_4 : decode cX7_duckCount 4 = .ok (.getfield 232, 3) := by decide +kernel
theorem dX7_duckCount_7 : decode cX7_duckCount 7 = .ok (.getfield 236, 3) := by decide +kernel
theorem dX7_duckCount_10 : decode cX7_duckCount 10 = .ok (.ireturn, 1) := by decide +kernel
set_option maxRecDepth 20000 in
theorem ggX7_observedBath_X7_requireDuck : GoodIn wsX7_observedBath wsX7_requireDuck := goodIn_ca (goodIn_r _ [8, 9, 10, 1, 2, 11, 12, 13, 14, 15, 16, 17, 18, 19, 20, 21, 22, 23, 24, 25, 26, 27, 28, 29, 30] (by decide +kernel) (by decide +kernel)) (goodIn_sub (fun _ h => List.mem_cons_of_mem _ (List.mem_append_right _ h)) (by decide +kernel))
set_option maxRecDepth 20000 in
theorem gX7_observedBath_X7_requireDuck : GoodIn wsX7_observedBath (wsV RX7 239 RX7 yX7_requireDuck wsX7_requireDuck) := goodIn_app (goodIn_of _ (by decide +kernel)) ggX7_observedBath_X7_requireDuck
theorem dX7_observedBath_0 : decode cX7_observedBath 0 = .ok (.aload_n 0, 1) := by decide +kernel
theorem dX7_observedBath_1 : decode cX7_observedBath 1 = .ok (.iload_n 1, 1) := by decide +kernel
theorem dX7_observedBath_2 : decode cX7_observedBath 2 = .ok (.invokevirtual 239, 3) := by decide +kernel
theorem dX7_observedBath_5 : decode cX7_observedBath 5 = .ok (.aload_n 0, 1) := by decide +kernel
theorem dX7_observedBath_6 : decode cX7_observedBath 6 = .ok (.getfield 12, 3) := by decide +kernel
theorem dX7_observedBath_9 : decode cX7_observedBath 9 = .ok (.getfield 232, 3) := by decide +kernel
theorem dX7_observedBath_12 : decode cX7_observedBath 12 = .ok (.getfield 242, 3) := by decide +kernel
theorem dX7_observedBath_15 : decode cX7_observedBath 15 = .ok (.iload_n 1, 1) := by decide +kernel
theorem dX7_observedBath_16 : decode cX7_observedBath 16 = .ok (.iaload, 1) := by decide +kernel
theorem dX7_observedBath_17 : decode cX7_observedBath 17 = .ok (.ireturn, 1) := by decide +kernel
set_option maxRecDepth 20000 in
theorem ggX7_lowerBound_X7_requireDuck : GoodIn wsX7_lowerBound wsX7_requireDuck := goodIn_ca (goodIn_r _ [8, 9, 10, 1, 2, 11, 12, 13, 14, 15, 16, 17, 18, 19, 20, 21, 22, 23, 24, 25, 26, 27, 28, 29, 30] (by decide +kernel) (by decide +kernel)) (goodIn_sub (fun _ h => List.mem_cons_of_mem _ (List.mem_append_right _ h)) (by decide +kernel))
set_option maxRecDepth 20000 in
theorem gX7_lowerBound_X7_requireDuck : GoodIn wsX7_lowerBound (wsV RX7 239 RX7 yX7_requireDuck wsX7_requireDuck) := goodIn_app (goodIn_of _ (by decide +kernel)) ggX7_lowerBound_X7_requireDuck
theorem dX7_lowerBound_0 : decode cX7_lowerBound 0 = .ok (.aload_n 0, 1) := by decide +kernel
theorem dX7_lowerBound_1 : decode cX7_lowerBound 1 = .ok (.iload_n 1, 1) := by decide +kernel
theorem dX7_lowerBound_2 : decode cX7_lowerBound 2 = .ok (.invokevirtual 239, 3) := by decide +kernel
theorem dX7_lowerBound_5 : decode cX7_lowerBound 5 = .ok (.aload_n 0, 1) := by decide +kernel
theorem dX7_lowerBound_6 : decode cX7_lowerBound 6 = .ok (.getfield 12, 3) := by decide +kernel
theorem dX7_lowerBound_9 : decode cX7_lowerBound 9 = .ok (.getfield 232, 3) := by decide +kernel
theorem dX7_lowerBound_12 : decode cX7_lowerBound 12 = .ok (.getfield 245, 3) := by decide +kernel
theorem dX7_lowerBound_15 : decode cX7_lowerBound 15 = .ok (.iload_n 1, 1) := by decide +kernel
theorem dX7_lowerBound_16 : decode cX7_lowerBound 16 = .ok (.iaload, 1) := by decide +kernel
theorem dX7_lowerBound_17 : decode cX7_lowerBound 17 = .ok (.ireturn, 1) := by decide +kernel
set_option maxRecDepth 20000 in
theorem ggX7_upperBound_X7_requireDuck : GoodIn wsX7_upperBound wsX7_requireDuck := goodIn_ca (goodIn_r _ [8, 9, 10, 1, 2, 11, 12, 13, 14, 15, 16, 17, 18, 19, 20, 21, 22, 23, 24, 25, 26, 27, 28, 29, 30] (by decide +kernel) (by decide +kernel)) (goodIn_sub (fun _ h => List.mem_cons_of_mem _ (List.mem_append_right _ h)) (by decide +kernel))
set_option maxRecDepth 20000 in
theorem gX7_upperBound_X7_requireDuck : GoodIn wsX7_upperBound (wsV RX7 239 RX7 yX7_requireDuck wsX7_requireDuck) := goodIn_app (goodIn_of _ (by decide +kernel)) ggX7_upperBound_X7_requireDuck
theorem dX7_upperBound_0 : decode cX7_upperBound 0 = .ok (.aload_n 0, 1) := by decide +kernel
theorem dX7_upperBound_1 : decode cX7_upperBound 1 = .ok (.iload_n 1, 1) := by decide +kernel
theorem dX7_upperBound_2 : decode cX7_upperBound 2 = .ok (.invokevirtual 239, 3) := by decide +kernel
theorem dX7_upperBound_5 : decode cX7_upperBound 5 = .ok (.aload_n 0, 1) := by decide +kernel
theorem dX7_upperBound_6 : decode cX7_upperBound 6 = .ok (.getfield 12, 3) := by decide +kernel
theorem dX7_upperBound_9 : decode cX7_upperBound 9 = .ok (.getfield 232, 3) := by decide +kernel
theorem dX7_upperBound_12 : decode cX7_upperBound 12 = .ok (.getfield 248, 3) := by decide +kernel
theorem dX7_upperBound_15 : decode cX7_upperBound 15 = .ok (.iload_n 1, 1) := by decide +kernel
theorem dX7_upperBound_16 : decode cX7_upperBound 16 = .ok (.iaload, 1) := by decide +kernel
theorem dX7_upperBound_17 : decode cX7_upperBound 17 = .ok (.ireturn, 1) := by decide +kernel
set_option maxRecDepth 20000 in
theorem ggX7_isContent_X7_requireDuck : GoodIn wsX7_isContent wsX7_requireDuck := goodIn_ca (goodIn_r _ [8, 9, 10, 1, 2, 11, 30, 31, 32, 33, 34, 35, 36, 37, 38, 39, 40, 41, 42, 43, 44, 45, 46, 47, 48] (by decide +kernel) (by decide +kernel)) (goodIn_sub (fun _ h => List.mem_cons_of_mem _ (List.mem_append_left _ (List.mem_append_left _ (List.mem_append_right _ h)))) (by decide +kernel))
set_option maxRecDepth 20000 in
theorem gX7_isContent_X7_requireDuck : GoodIn wsX7_isContent (wsV RX7 239 RX7 yX7_requireDuck wsX7_requireDuck) := goodIn_app (goodIn_of _ (by decide +kernel)) ggX7_isContent_X7_requireDuck
set_option maxRecDepth 20000 in
theorem ggX7_isContent_X1_isPleased : GoodIn wsX7_isContent wsX1_isPleased := goodIn_ca (goodIn_ca (goodIn_r _ [16, 17, 18, 19, 20, 21, 22, 7, 23, 24, 25, 26, 27, 28, 29, 43, 44, 45, 46, 47, 48, 49, 50, 51, 52, 53] (by decide +kernel) (by decide +kernel)) (goodIn_sub (fun _ h => List.mem_cons_of_mem _ (List.mem_append_left _ (List.mem_append_right _ h))) (by decide +kernel))) (goodIn_sub (fun _ h => List.mem_cons_of_mem _ (List.mem_append_right _ h)) (by decide +kernel))
set_option maxRecDepth 20000 in
theorem gX7_isContent_X1_isPleased : GoodIn wsX7_isContent (wsV RX7 251 RX1 yX1_isPleased wsX1_isPleased) := goodIn_app (goodIn_of _ (by decide +kernel)) ggX7_isContent_X1_isPleased
theorem dX7_isContent_0 : decode cX7_isContent 0 = .ok (.aload_n 0, 1) := by decide +kernel
theorem dX7_isContent_1 : decode cX7_isContent 1 = .ok (.iload_n 1, 1) := by decide +kernel
theorem dX7_isContent_2 : decode cX7_isContent 2 = .ok (.invokevirtual 239, 3) := by decide +kernel
theorem dX7_isContent_5 : decode cX7_isContent 5 = .ok (.aload_n 0, 1) := by decide +kernel
theorem dX7_isContent_6 : decode cX7_isContent 6 = .ok (.getfield 12, 3) := by decide +kernel
theorem dX7_isContent_9 : decode cX7_isContent 9 = .ok (.getfield 232, 3) := by decide +kernel
theorem dX7_isContent_12 : decode cX7_isContent 12 = .ok (.iload_n 1, 1) := by decide +kernel
theorem dX7_isContent_13 : decode cX7_isContent 13 = .ok (.aload_n 0, 1) := by decide +kernel
theorem dX7_isContent_14 : decode cX7_isContent 14 = .ok (.getfield 12, 3) := by decide +kernel
theorem dX7_isContent_17 : decode cX7_isContent 17 = .ok (.getfield 77, 3) := by decide +kernel
theorem dX7_isContent_20 : decode cX7_isContent 20 = .ok (.invokevirtual 251, 3) := by decide +kernel
theorem dX7_isContent_23 : decode cX7_isContent 23 = .ok (.ireturn, 1) := by decide +kernel
set_option maxRecDepth 20000 in
theorem ggX7_quacks_X7_requireDuck : GoodIn wsX7_quacks wsX7_requireDuck := goodIn_ca (goodIn_r _ [8, 9, 10, 1, 2, 11, 12, 13, 14, 15, 16, 17, 18, 19, 20, 21, 22, 23, 24, 25, 26, 27, 28, 29, 30] (by decide +kernel) (by decide +kernel)) (goodIn_sub (fun _ h => List.mem_cons_of_mem _ (List.mem_append_right _ h)) (by decide +kernel))
set_option maxRecDepth 20000 in
theorem gX7_quacks_X7_requireDuck : GoodIn wsX7_quacks (wsV RX7 239 RX7 yX7_requireDuck wsX7_requireDuck) := goodIn_app (goodIn_of _ (by decide +kernel)) ggX7_quacks_X7_requireDuck
theorem dX7_quacks_0 : decode cX7_quacks 0 = .ok (.aload_n 0, 1) := by decide +kernel
theorem dX7_quacks_1 : decode cX7_quacks 1 = .ok (.iload_n 1, 1) := by decide +kernel
theorem dX7_quacks_2 : decode cX7_quacks 2 = .ok (.invokevirtual 239, 3) := by decide +kernel
theorem dX7_quacks_5 : decode cX7_quacks 5 = .ok (.aload_n 0, 1) := by decide +kernel
theorem dX7_quacks_6 : decode cX7_quacks 6 = .ok (.getfield 12, 3) := by decide +kernel
theorem dX7_quacks_9 : decode cX7_quacks 9 = .ok (.getfield 232, 3) := by decide +kernel
theorem dX7_quacks_12 : decode cX7_quacks 12 = .ok (.getfield 255, 3) := by decide +kernel
theorem dX7_quacks_15 : decode cX7_quacks 15 = .ok (.iload_n 1, 1) := by decide +kernel
theorem dX7_quacks_16 : decode cX7_quacks 16 = .ok (.iaload, 1) := by decide +kernel
theorem dX7_quacks_17 : decode cX7_quacks 17 = .ok (.ireturn, 1) := by decide +kernel
set_option maxRecDepth 20000 in
theorem ggX7_duckByQuacks_X7_requireElement : GoodIn wsX7_duckByQuacks wsX7_requireElement := goodIn_ca (goodIn_r _ [8, 9, 10] (by decide +kernel) (by decide +kernel)) (goodIn_sub (fun _ h => List.mem_cons_of_mem _ (List.mem_append_left _ (List.mem_append_left _ (List.mem_append_right _ h)))) (by decide +kernel))
set_option maxRecDepth 20000 in
theorem gX7_duckByQuacks_X7_requireElement : GoodIn wsX7_duckByQuacks (va_wsS RX7 160 yX7_requireElement wsX7_requireElement) := goodIn_app (goodIn_of _ (by decide +kernel)) ggX7_duckByQuacks_X7_requireElement
set_option maxRecDepth 20000 in
theorem ggX7_duckByQuacks_X1_atRank : GoodIn wsX7_duckByQuacks wsX1_atRank := goodIn_ca (goodIn_ca (goodIn_r _ [15, 16, 17, 18, 19, 14, 20, 21, 22, 23, 24, 25, 26, 27, 28, 29, 30, 31, 32, 33, 34, 35, 7, 36, 37, 38, 39, 40, 41, 42, 56, 57, 58, 59, 60, 61, 62, 63, 64, 65, 66] (by decide +kernel) (by decide +kernel)) (goodIn_sub (fun _ h => List.mem_cons_of_mem _ (List.mem_append_left _ (List.mem_append_right _ h))) (by decide +kernel))) (goodIn_sub (fun _ h => List.mem_cons_of_mem _ (List.mem_append_right _ h)) (by decide +kernel))
set_option maxRecDepth 20000 in
theorem gX7_duckByQuacks_X1_atRank : GoodIn wsX7_duckByQuacks (wsV RX7 258 RX1 yX1_atRank wsX1_atRank) := goodIn_app (goodIn_of _ (by decide +kernel)) ggX7_duckByQuacks_X1_atRank
theorem dX7_duckByQuacks_0 : decode cX7_duckByQuacks 0 = .ok (.iload_n 1, 1) := by decide +kernel
theorem dX7_duckByQuacks_1 : decode cX7_duckByQuacks 1 = .ok (.aload_n 0, 1) := by decide +kernel
theorem dX7_duckByQuacks_2 : decode cX7_duckByQuacks 2 = .ok (.getfield 12, 3) := by decide +kernel
theorem dX7_duckByQuacks_5 : decode cX7_duckByQuacks 5 = .ok (.getfield 232, 3) := by decide +kernel
theorem dX7_duckByQuacks_8 : decode cX7_duckByQuacks 8 = .ok (.getfield 236, 3) := by decide +kernel
theorem dX7_duckByQuacks_11 : decode cX7_duckByQuacks 11 = .ok (.invokestatic 160, 3) := by decide +kernel
theorem dX7_duckByQuacks_14 : decode cX7_duckByQuacks 14 = .ok (.aload_n 0, 1) := by decide +kernel
theorem dX7_duckByQuacks_15 : decode cX7_duckByQuacks 15 = .ok (.getfield 12, 3) := by decide +kernel
theorem dX7_duckByQuacks_18 : decode cX7_duckByQuacks 18 = .ok (.getfield 232, 3) := by decide +kernel
theorem dX7_duckByQuacks_21 : decode cX7_duckByQuacks 21 = .ok (.iload_n 1, 1) := by decide +kernel
theorem dX7_duckByQuacks_22 : decode cX7_duckByQuacks 22 = .ok (.aload_n 0, 1) := by decide +kernel
theorem dX7_duckByQuacks_23 : decode cX7_duckByQuacks 23 = .ok (.getfield 12, 3) := by decide +kernel
theorem dX7_duckByQuacks_26 : decode cX7_duckByQuacks 26 = .ok (.getfield 77, 3) := by decide +kernel
theorem dX7_duckByQuacks_29 : decode cX7_duckByQuacks 29 = .ok (.invokevirtual 258, 3) := by decide +kernel
theorem dX7_duckByQuacks_32 : decode cX7_duckByQuacks 32 = .ok (.ireturn, 1) := by decide +kernel
theorem dX7_eventCount_0 : decode cX7_eventCount 0 = .ok (.aload_n 0, 1) := by decide +kernel
theorem dX7_eventCount_1 : decode cX7_eventCount 1 = .ok (.getfield 12, 3) := by decide +kernel
theorem dX7_eventCount_4 : decode cX7_eventCount 4 = .ok (.getfield 261, 3) := by decide +kernel
theorem dX7_eventCount_7 : decode cX7_eventCount 7 = .ok (.getfield 265, 3) := by decide +kernel
theorem dX7_eventCount_10 : decode cX7_eventCount 10 = .ok (.ireturn, 1) := by decide +kernel
set_option maxRecDepth 20000 in
theorem ggX7_eventKind_X7_requireElement : GoodIn wsX7_eventKind wsX7_requireElement := goodIn_ca (goodIn_r _ [8, 9, 10] (by decide +kernel) (by decide +kernel)) (goodIn_sub (fun _ h => List.mem_cons_of_mem _ (List.mem_append_right _ h)) (by decide +kernel))
set_option maxRecDepth 20000 in
theorem gX7_eventKind_X7_requireElement : GoodIn wsX7_eventKind (va_wsS RX7 160 yX7_requireElement wsX7_requireElement) := goodIn_app (goodIn_of _ (by decide +kernel)) ggX7_eventKind_X7_requireElement
theorem dX7_eventKind_0 : decode cX7_eventKind 0 = .ok (.iload_n 1, 1) := by decide +kernel
theorem dX7_eventKind_1 : decode cX7_eventKind 1 = .ok (.aload_n 0, 1) := by decide +kernel
theorem dX7_eventKind_2 : decode cX7_eventKind 2 = .ok (.getfield 12, 3) := by decide +kernel
theorem dX7_eventKind_5 : decode cX7_eventKind 5 = .ok (.getfield 261, 3) := by decide +kernel
theorem dX7_eventKind_8 : decode cX7_eventKind 8 = .ok (.getfield 265, 3) := by decide +kernel
theorem dX7_eventKind_11 : decode cX7_eventKind 11 = .ok (.invokestatic 160, 3) := by decide +kernel
theorem dX7_eventKind_14 : decode cX7_eventKind 14 = .ok (.aload_n 0, 1) := by decide +kernel
theorem dX7_eventKind_15 : decode cX7_eventKind 15 = .ok (.getfield 12, 3) := by decide +kernel
theorem dX7_eventKind_18 : decode cX7_eventKind 18 = .ok (.getfield 261, 3) := by decide +kernel
theorem dX7_eventKind_21 : decode cX7_eventKind 21 = .ok (.getfield 268, 3) := by decide +kernel
theorem dX7_eventKind_24 : decode cX7_eventKind 24 = .ok (.iload_n 1, 1) := by decide +kernel
theorem dX7_eventKind_25 : decode cX7_eventKind 25 = .ok (.caload, 1) := by decide +kernel
theorem dX7_eventKind_26 : decode cX7_eventKind 26 = .ok (.ireturn, 1) := by decide +kernel
set_option maxRecDepth 20000 in
theorem ggX7_eventBath_X7_requireElement : GoodIn wsX7_eventBath wsX7_requireElement := goodIn_ca (goodIn_r _ [8, 9, 10] (by decide +kernel) (by decide +kernel)) (goodIn_sub (fun _ h => List.mem_cons_of_mem _ (List.mem_append_right _ h)) (by decide +kernel))
set_option maxRecDepth 20000 in
theorem gX7_eventBath_X7_requireElement : GoodIn wsX7_eventBath (va_wsS RX7 160 yX7_requireElement wsX7_requireElement) := goodIn_app (goodIn_of _ (by decide +kernel)) ggX7_eventBath_X7_requireElement
theorem dX7_eventBath_0 : decode cX7_eventBath 0 = .ok (.iload_n 1, 1) := by decide +kernel
theorem dX7_eventBath_1 : decode cX7_eventBath 1 = .ok (.aload_n 0, 1) := by decide +kernel
theorem dX7_eventBath_2 : decode cX7_eventBath 2 = .ok (.getfield 12, 3) := by decide +kernel
theorem dX7_eventBath_5 : decode cX7_eventBath 5 = .ok (.getfield 261, 3) := by decide +kernel
theorem dX7_eventBath_8 : decode cX7_eventBath 8 = .ok (.getfield 265, 3) := by decide +kernel
theorem dX7_eventBath_11 : decode cX7_eventBath 11 = .ok (.invokestatic 160, 3) := by decide +kernel
theorem dX7_eventBath_14 : decode cX7_eventBath 14 = .ok (.aload_n 0, 1) := by decide +kernel
theorem dX7_eventBath_15 : decode cX7_eventBath 15 = .ok (.getfield 12, 3) := by decide +kernel
theorem dX7_eventBath_18 : decode cX7_eventBath 18 = .ok (.getfield 261, 3) := by decide +kernel
theorem dX7_eventBath_21 : decode cX7_eventBath 21 = .ok (.getfield 272, 3) := by decide +kernel
theorem dX7_eventBath_24 : decode cX7_eventBath 24 = .ok (.iload_n 1, 1) := by decide +kernel
theorem dX7_eventBath_25 : decode cX7_eventBath 25 = .ok (.iaload, 1) := by decide +kernel
theorem dX7_eventBath_26 : decode cX7_eventBath 26 = .ok (.ireturn, 1) := by decide +kernel
set_option maxRecDepth 20000 in
theorem ggX7_eventLitres_X7_requireElement : GoodIn wsX7_eventLitres wsX7_requireElement := goodIn_ca (goodIn_r _ [10, 1, 2] (by decide +kernel) (by decide +kernel)) (goodIn_sub (fun _ h => List.mem_cons_of_mem _ (List.mem_append_right _ h)) (by decide +kernel))
set_option maxRecDepth 20000 in
theorem gX7_eventLitres_X7_requireElement : GoodIn wsX7_eventLitres (va_wsS RX7 160 yX7_requireElement wsX7_requireElement) := goodIn_app (goodIn_of _ (by decide +kernel)) ggX7_eventLitres_X7_requireElement
theorem dX7_eventLitres_0 : decode cX7_eventLitres 0 = .ok (.iload_n 1, 1) := by decide +kernel
theorem dX7_eventLitres_1 : decode cX7_eventLitres 1 = .ok (.aload_n 0, 1) := by decide +kernel
theorem dX7_eventLitres_2 : decode cX7_eventLitres 2 = .ok (.getfield 12, 3) := by decide +kernel
theorem dX7_eventLitres_5 : decode cX7_eventLitres 5 = .ok (.getfield 261, 3) := by decide +kernel
theorem dX7_eventLitres_8 : decode cX7_eventLitres 8 = .ok (.getfield 265, 3) := by decide +kernel
theorem dX7_eventLitres_11 : decode cX7_eventLitres 11 = .ok (.invokestatic 160, 3) := by decide +kernel
theorem dX7_eventLitres_14 : decode cX7_eventLitres 14 = .ok (.aload_n 0, 1) := by decide +kernel
theorem dX7_eventLitres_15 : decode cX7_eventLitres 15 = .ok (.getfield 12, 3) := by decide +kernel
theorem dX7_eventLitres_18 : decode cX7_eventLitres 18 = .ok (.getfield 261, 3) := by decide +kernel
theorem dX7_eventLitres_21 : decode cX7_eventLitres 21 = .ok (.getfield 273, 3) := by decide +kernel
theorem dX7_eventLitres_24 : decode cX7_eventLitres 24 = .ok (.iload_n 1, 1) := by decide +kernel
theorem dX7_eventLitres_25 : decode cX7_eventLitres 25 = .ok (.iaload, 1) := by decide +kernel
theorem dX7_eventLitres_26 : decode cX7_eventLitres 26 = .ok (.iconst (-1), 1) := by decide +kernel
theorem dX7_eventLitres_27 : decode cX7_eventLitres 27 = .ok (.if_icmp .ne 14, 3) := by decide +kernel
theorem dX7_eventLitres_30 : decode cX7_eventLitres 30 = .ok (.new 195, 3) := by decide +kernel
theorem dX7_eventLitres_33 : decode cX7_eventLitres 33 = .ok (.dup, 1) := by decide +kernel
theorem dX7_eventLitres_34 : decode cX7_eventLitres 34 = .ok (.ldc_w 276, 3) := by decide +kernel
theorem dX7_eventLitres_37 : decode cX7_eventLitres 37 = .ok (.invokespecial 199, 3) := by decide +kernel
theorem dX7_eventLitres_40 : decode cX7_eventLitres 40 = .ok (.athrow, 1) := by decide +kernel
theorem dX7_eventLitres_41 : decode cX7_eventLitres 41 = .ok (.aload_n 0, 1) := by decide +kernel
theorem dX7_eventLitres_42 : decode cX7_eventLitres 42 = .ok (.getfield 12, 3) := by decide +kernel
theorem dX7_eventLitres_45 : decode cX7_eventLitres 45 = .ok (.getfield 261, 3) := by decide +kernel
theorem dX7_eventLitres_48 : decode cX7_eventLitres 48 = .ok (.getfield 273, 3) := by decide +kernel
theorem dX7_eventLitres_51 : decode cX7_eventLitres 51 = .ok (.iload_n 1, 1) := by decide +kernel
theorem dX7_eventLitres_52 : decode cX7_eventLitres 52 = .ok (.iaload, 1) := by decide +kernel
theorem dX7_eventLitres_53 : decode cX7_eventLitres 53 = .ok (.ireturn, 1) := by decide +kernel
theorem dX7_time_0 : decode cX7_time 0 = .ok (.aload_n 0, 1) := by decide +kernel
theorem dX7_time_1 : decode cX7_time 1 = .ok (.getfield 12, 3) := by decide +kernel
theorem dX7_time_4 : decode cX7_time 4 = .ok (.getfield 129, 3) := by decide +kernel
theorem dX7_time_7 : decode cX7_time 7 = .ok (.getfield 278, 3) := by decide +kernel
theorem dX7_time_10 : decode cX7_time 10 = .ok (.ireturn, 1) := by decide +kernel
theorem dX7_defectionTotal_0 : decode cX7_defectionTotal 0 = .ok (.aload_n 0, 1) := by decide +kernel
theorem dX7_defectionTotal_1 : decode cX7_defectionTotal 1 = .ok (.getfield 12, 3) := by decide +kernel
theorem dX7_defectionTotal_4 : decode cX7_defectionTotal 4 = .ok (.getfield 129, 3) := by decide +kernel
theorem dX7_defectionTotal_7 : decode cX7_defectionTotal 7 = .ok (.getfield 133, 3) := by decide +kernel
theorem dX7_defectionTotal_10 : decode cX7_defectionTotal 10 = .ok (.ireturn, 1) := by decide +kernel
theorem dX7_tappedLitres_0 : decode cX7_tappedLitres 0 = .ok (.aload_n 0, 1) := by decide +kernel
theorem dX7_tappedLitres_1 : decode cX7_tappedLitres 1 = .ok (.getfield 12, 3) := by decide +kernel
theorem dX7_tappedLitres_4 : decode cX7_tappedLitres 4 = .ok (.getfield 129, 3) := by decide +kernel
theorem dX7_tappedLitres_7 : decode cX7_tappedLitres 7 = .ok (.getfield 281, 3) := by decide +kernel
theorem dX7_tappedLitres_10 : decode cX7_tappedLitres 10 = .ok (.ireturn, 1) := by decide +kernel
theorem dX7_drainedLitres_0 : decode cX7_drainedLitres 0 = .ok (.aload_n 0, 1) := by decide +kernel
theorem dX7_drainedLitres_1 : decode cX7_drainedLitres 1 = .ok (.getfield 12, 3) := by decide +kernel
theorem dX7_drainedLitres_4 : decode cX7_drainedLitres 4 = .ok (.getfield 129, 3) := by decide +kernel
theorem dX7_drainedLitres_7 : decode cX7_drainedLitres 7 = .ok (.getfield 284, 3) := by decide +kernel
theorem dX7_drainedLitres_10 : decode cX7_drainedLitres 10 = .ok (.ireturn, 1) := by decide +kernel
theorem dX7_tappedHeat_0 : decode cX7_tappedHeat 0 = .ok (.aload_n 0, 1) := by decide +kernel
theorem dX7_tappedHeat_1 : decode cX7_tappedHeat 1 = .ok (.getfield 12, 3) := by decide +kernel
theorem dX7_tappedHeat_4 : decode cX7_tappedHeat 4 = .ok (.getfield 129, 3) := by decide +kernel
theorem dX7_tappedHeat_7 : decode cX7_tappedHeat 7 = .ok (.getfield 287, 3) := by decide +kernel
theorem dX7_tappedHeat_10 : decode cX7_tappedHeat 10 = .ok (.ireturn, 1) := by decide +kernel
theorem dX7_lostHeat_0 : decode cX7_lostHeat 0 = .ok (.aload_n 0, 1) := by decide +kernel
theorem dX7_lostHeat_1 : decode cX7_lostHeat 1 = .ok (.getfield 12, 3) := by decide +kernel
theorem dX7_lostHeat_4 : decode cX7_lostHeat 4 = .ok (.getfield 129, 3) := by decide +kernel
theorem dX7_lostHeat_7 : decode cX7_lostHeat 7 = .ok (.getfield 290, 3) := by decide +kernel
theorem dX7_lostHeat_10 : decode cX7_lostHeat 10 = .ok (.ireturn, 1) := by decide +kernel
set_option maxRecDepth 20000 in
theorem ggX7_contentShare_X1_pleasedCount : GoodIn wsX7_contentShare wsX1_pleasedCount := goodIn_ca (goodIn_ca (goodIn_r _ [11, 12, 13, 14, 15, 10, 16, 17, 18, 19, 20, 21, 22, 23, 24, 25, 26, 27, 28, 29, 30, 44, 45, 46, 47, 48, 49, 50, 51, 52, 53, 54] (by decide +kernel) (by decide +kernel)) (goodIn_sub (fun _ h => List.mem_cons_of_mem _ (List.mem_append_left _ (List.mem_append_right _ h))) (by decide +kernel))) (goodIn_sub (fun _ h => List.mem_cons_of_mem _ (List.mem_append_right _ h)) (by decide +kernel))
set_option maxRecDepth 20000 in
theorem gX7_contentShare_X1_pleasedCount : GoodIn wsX7_contentShare (wsV RX7 298 RX1 yX1_pleasedCount wsX1_pleasedCount) := goodIn_app (goodIn_of _ (by decide +kernel)) ggX7_contentShare_X1_pleasedCount
theorem dX7_contentShare_0 : decode cX7_contentShare 0 = .ok (.aload_n 0, 1) := by decide +kernel
theorem dX7_contentShare_1 : decode cX7_contentShare 1 = .ok (.getfield 12, 3) := by decide +kernel
theorem dX7_contentShare_4 : decode cX7_contentShare 4 = .ok (.getfield 232, 3) := by decide +kernel
theorem dX7_contentShare_7 : decode cX7_contentShare 7 = .ok (.getfield 236, 3) := by decide +kernel
theorem dX7_contentShare_10 : decode cX7_contentShare 10 = .ok (.ifCond .ne 14, 3) := by decide +kernel
theorem dX7_contentShare_13 : decode cX7_contentShare 13 = .ok (.new 293, 3) := by decide +kernel
theorem dX7_contentShare_16 : decode cX7_contentShare 16 = .ok (.dup, 1) := by decide +kernel
theorem dX7_contentShare_17 : decode cX7_contentShare 17 = .ok (.ldc_w 295, 3) := by decide +kernel
theorem dX7_contentShare_20 : decode cX7_contentShare 20 = .ok (.invokespecial 297, 3) := by decide +kernel
theorem dX7_contentShare_23 : decode cX7_contentShare 23 = .ok (.athrow, 1) := by decide +kernel
theorem dX7_contentShare_24 : decode cX7_contentShare 24 = .ok (.aload_n 0, 1) := by decide +kernel
theorem dX7_contentShare_25 : decode cX7_contentShare 25 = .ok (.getfield 12, 3) := by decide +kernel
theorem dX7_contentShare_28 : decode cX7_contentShare 28 = .ok (.getfield 232, 3) := by decide +kernel
theorem dX7_contentShare_31 : decode cX7_contentShare 31 = .ok (.aload_n 0, 1) := by decide +kernel
theorem dX7_contentShare_32 : decode cX7_contentShare 32 = .ok (.getfield 12, 3) := by decide +kernel
theorem dX7_contentShare_35 : decode cX7_contentShare 35 = .ok (.getfield 77, 3) := by decide +kernel
theorem dX7_contentShare_38 : decode cX7_contentShare 38 = .ok (.invokevirtual 298, 3) := by decide +kernel
theorem dX7_contentShare_41 : decode cX7_contentShare 41 = .ok (.i2f, 1) := by decide +kernel
theorem dX7_contentShare_42 : decode cX7_contentShare 42 = .ok (.aload_n 0, 1) := by decide +kernel
theorem dX7_contentShare_43 : decode cX7_contentShare 43 = .ok (.getfield 12, 3) := by decide +kernel
theorem dX7_contentShare_46 : decode cX7_contentShare 46 = .ok (.getfield 232, 3) := by decide +kernel
theorem dX7_contentShare_49 : decode cX7_contentShare 49 = .ok (.getfield 236, 3) := by decide +kernel
theorem dX7_contentShare_52 : decode cX7_contentShare 52 = .ok (.i2f, 1) := by decide +kernel
theorem dX7_contentShare_53 : decode cX7_contentShare 53 = .ok (.fdiv, 1) := by decide +kernel
theorem dX7_contentShare_54 : decode cX7_contentShare 54 = .ok (.freturn, 1) := by decide +kernel
set_option maxRecDepth 20000 in
theorem ggX7_isConsistent_X7_leagueHeat : GoodIn wsX7_isConsistent wsX7_leagueHeat := goodIn_ca (goodIn_r _ [12, 1, 2, 13, 14, 15, 16, 17, 18, 19, 20, 38, 39, 40, 41, 42, 43, 44, 45, 46, 47, 48, 49, 50, 57, 58, 59, 60, 61] (by decide +kernel) (by decide +kernel)) (goodIn_sub (fun _ h => List.mem_cons_of_mem _ (List.mem_append_right _ h)) (by decide +kernel))
set_option maxRecDepth 20000 in
theorem gX7_isConsistent_X7_leagueHeat : GoodIn wsX7_isConsistent (wsV RX7 302 RX7 yX7_leagueHeat wsX7_leagueHeat) := goodIn_app (goodIn_of _ (by decide +kernel)) ggX7_isConsistent_X7_leagueHeat
set_option maxRecDepth 20000 in
theorem ggX7_isConsistent_X7_leagueHeatByOthers : GoodIn wsX7_isConsistent wsX7_leagueHeatByOthers := goodIn_ca (goodIn_r _ [24, 1, 2, 25, 26, 27, 16, 28, 18, 20, 29, 30, 31, 32, 19, 38, 39, 40, 41, 42, 43, 44, 45, 46, 47, 48, 49, 50, 57, 58, 59, 60, 61] (by decide +kernel) (by decide +kernel)) (goodIn_sub (fun _ h => List.mem_cons_of_mem _ (List.mem_append_right _ h)) (by decide +kernel))
set_option maxRecDepth 20000 in
theorem gX7_isConsistent_X7_leagueHeatByOthers : GoodIn wsX7_isConsistent (wsV RX7 305 RX7 yX7_leagueHeatByOthers wsX7_leagueHeatByOthers) := goodIn_app (goodIn_of _ (by decide +kernel)) ggX7_isConsistent_X7_leagueHeatByOthers
set_option maxRecDepth 20000 in
theorem ggX7_isConsistent_X0_volumeOfAll : GoodIn wsX7_isConsistent wsX0_volumeOfAll := goodIn_ca (goodIn_r _ [36, 18, 37, 57, 58, 59, 60, 61] (by decide +kernel) (by decide +kernel)) (goodIn_sub (fun _ h => List.mem_cons_of_mem _ (List.mem_append_right _ h)) (by decide +kernel))
set_option maxRecDepth 20000 in
theorem gX7_isConsistent_X0_volumeOfAll : GoodIn wsX7_isConsistent (wsV RX7 308 RX0 yX0_volumeOfAll wsX0_volumeOfAll) := goodIn_app (goodIn_of _ (by decide +kernel)) ggX7_isConsistent_X0_volumeOfAll
set_option maxRecDepth 20000 in
theorem ggX7_isConsistent_X0_heatOfAll : GoodIn wsX7_isConsistent wsX0_heatOfAll := goodIn_ca (goodIn_r _ [28, 18, 20, 57, 58, 59, 60, 61] (by decide +kernel) (by decide +kernel)) (goodIn_sub (fun _ h => List.mem_cons_of_mem _ (List.mem_append_right _ h)) (by decide +kernel))
set_option maxRecDepth 20000 in
theorem gX7_isConsistent_X0_heatOfAll : GoodIn wsX7_isConsistent (wsV RX7 186 RX0 yX0_heatOfAll wsX0_heatOfAll) := goodIn_app (goodIn_of _ (by decide +kernel)) ggX7_isConsistent_X0_heatOfAll
theorem dX7_isConsistent_0 : decode cX7_isConsistent 0 = .ok (.aload_n 0, 1) := by decide +kernel
theorem dX7_isConsistent_1 : decode cX7_isConsistent 1 = .ok (.invokevirtual 302, 3) := by decide +kernel
theorem dX7_isConsistent_4 : decode cX7_isConsistent 4 = .ok (.aload_n 0, 1) := by decide +kernel
theorem dX7_isConsistent_5 : decode cX7_isConsistent 5 = .ok (.invokevirtual 305, 3) := by decide +kernel
theorem dX7_isConsistent_8 : decode cX7_isConsistent 8 = .ok (.if_icmp .ne 75, 3) := by decide +kernel
theorem dX7_isConsistent_11 : decode cX7_isConsistent 11 = .ok (.aload_n 0, 1) := by decide +kernel
theorem dX7_isConsistent_12 : decode cX7_isConsistent 12 = .ok (.getfield 12, 3) := by decide +kernel
theorem dX7_isConsistent_15 : decode cX7_isConsistent 15 = .ok (.getfield 77, 3) := by decide +kernel
theorem dX7_isConsistent_18 : decode cX7_isConsistent 18 = .ok (.invokevirtual 308, 3) := by decide +kernel
theorem dX7_isConsistent_21 : decode cX7_isConsistent 21 = .ok (.aload_n 0, 1) := by decide +kernel
theorem dX7_isConsistent_22 : decode cX7_isConsistent 22 = .ok (.getfield 12, 3) := by decide +kernel
theorem dX7_isConsistent_25 : decode cX7_isConsistent 25 = .ok (.getfield 129, 3) := by decide +kernel
theorem dX7_isConsistent_28 : decode cX7_isConsistent 28 = .ok (.getfield 281, 3) := by decide +kernel
theorem dX7_isConsistent_31 : decode cX7_isConsistent 31 = .ok (.aload_n 0, 1) := by decide +kernel
theorem dX7_isConsistent_32 : decode cX7_isConsistent 32 = .ok (.getfield 12, 3) := by decide +kernel
theorem dX7_isConsistent_35 : decode cX7_isConsistent 35 = .ok (.getfield 129, 3) := by decide +kernel
theorem dX7_isConsistent_38 : decode cX7_isConsistent 38 = .ok (.getfield 284, 3) := by decide +kernel
theorem dX7_isConsistent_41 : decode cX7_isConsistent 41 = .ok (.isub, 1) := by decide +kernel
theorem dX7_isConsistent_42 : decode cX7_isConsistent 42 = .ok (.if_icmp .ne 41, 3) := by decide +kernel
theorem dX7_isConsistent_45 : decode cX7_isConsistent 45 = .ok (.aload_n 0, 1) := by decide +kernel
theorem dX7_isConsistent_46 : decode cX7_isConsistent 46 = .ok (.getfield 12, 3) := by decide +kernel
theorem dX7_isConsistent_49 : decode cX7_isConsistent 49 = .ok (.getfield 77, 3) := by decide +kernel
theorem dX7_isConsistent_52 : decode cX7_isConsistent 52 = .ok (.invokevirtual 186, 3) := by decide +kernel
theorem dX7_isConsistent_55 : decode cX7_isConsistent 55 = .ok (.aload_n 0, 1) := by decide +kernel
theorem dX7_isConsistent_56 : decode cX7_isConsistent 56 = .ok (.getfield 12, 3) := by decide +kernel
theorem dX7_isConsistent_59 : decode cX7_isConsistent 59 = .ok (.getfield 129, 3) := by decide +kernel
theorem dX7_isConsistent_62 : decode cX7_isConsistent 62 = .ok (.getfield 287, 3) := by decide +kernel
theorem dX7_isConsistent_65 : decode cX7_isConsistent 65 = .ok (.aload_n 0, 1) := by decide +kernel
theorem dX7_isConsistent_66 : decode cX7_isConsistent 66 = .ok (.getfield 12, 3) := by decide +kernel
theorem dX7_isConsistent_69 : decode cX7_isConsistent 69 = .ok (.getfield 129, 3) := by decide +kernel
theorem dX7_isConsistent_72 : decode cX7_isConsistent 72 = .ok (.getfield 290, 3) := by decide +kernel
theorem dX7_isConsistent_75 : decode cX7_isConsistent 75 = .ok (.isub, 1) := by decide +kernel
theorem dX7_isConsistent_76 : decode cX7_isConsistent 76 = .ok (.if_icmp .ne 7, 3) := by decide +kernel
theorem dX7_isConsistent_79 : decode cX7_isConsistent 79 = .ok (.iconst 1, 1) := by decide +kernel
theorem dX7_isConsistent_80 : decode cX7_isConsistent 80 = .ok (.goto 4, 3) := by decide +kernel
theorem dX7_isConsistent_83 : decode cX7_isConsistent 83 = .ok (.iconst 0, 1) := by decide +kernel
theorem dX7_isConsistent_84 : decode cX7_isConsistent 84 = .ok (.ireturn, 1) := by decide +kernel
set_option maxRecDepth 20000 in
theorem ggX7_renderBath_X7_requireBath : GoodIn wsX7_renderBath wsX7_requireBath := goodIn_ca (goodIn_r _ [11, 12, 13, 2, 3, 14, 15, 16, 17, 18, 19, 221, 222, 223, 224, 225, 226, 227, 228, 229, 230, 231, 232, 233, 234, 235, 236, 237, 238] (by decide +kernel) (by decide +kernel)) (goodIn_sub (fun _ h => List.mem_cons_of_mem _ (List.mem_append_left _ (List.mem_append_right _ h))) (by decide +kernel))
set_option maxRecDepth 20000 in
theorem gX7_renderBath_X7_requireBath : GoodIn wsX7_renderBath (wsV RX7 144 RX7 yX7_requireBath wsX7_requireBath) := goodIn_app (goodIn_of _ (by decide +kernel)) ggX7_renderBath_X7_requireBath
set_option maxRecDepth 20000 in
theorem ggX7_renderBath_J4_setLength_d00df : GoodIn wsX7_renderBath wsJ4_setLength_d00df := goodIn_r _ [24, 25, 26, 27, 28, 29, 30, 31, 32, 33, 34, 35, 36, 37, 38, 39, 40, 41, 42, 43, 44, 45, 46, 47, 48, 49, 50, 51, 52, 53, 54, 55, 56, 57, 58, 59, 60, 61, 62, 63, 64, 65, 66, 67, 68, 69, 70, 71, 72, 73, 74, 75, 76, 77, 78, 79, 80, 81, 82, 83, 84, 85, 86, 87, 88, 89, 90, 91, 92, 93, 94, 95, 96, 23, 97, 98, 99, 100, 101, 102, 103, 104, 239, 240, 241, 242, 243, 244, 245, 246, 247, 248, 249, 250, 251, 252, 253, 254] (by decide +kernel) (by decide +kernel)
set_option maxRecDepth 20000 in
theorem gX7_renderBath_J4_setLength_d00df : GoodIn wsX7_renderBath (wsV RX7 311 RJ4 yJ4_setLength_d00df wsJ4_setLength_d00df) := goodIn_app (goodIn_of _ (by decide +kernel)) ggX7_renderBath_J4_setLength_d00df
set_option maxRecDepth 20000 in
theorem ggX7_renderBath_J4_append_bf812 : GoodIn wsX7_renderBath wsJ4_append_bf812 := goodIn_r _ [108, 109, 110, 27, 111, 29, 112, 34, 35, 113, 114, 115, 116, 37, 38, 39, 40, 41, 42, 43, 44, 45, 46, 47, 48, 49, 50, 51, 52, 53, 54, 55, 56, 57, 58, 59, 60, 61, 62, 63, 64, 65, 66, 67, 68, 69, 70, 71, 72, 73, 74, 75, 76, 77, 78, 79, 80, 81, 82, 83, 84, 117, 118, 119, 120, 121, 122, 123, 102, 124, 125, 126, 127, 128, 129, 130, 131, 132, 133, 134, 135, 136, 137, 138, 139, 140, 141, 142, 143, 144, 145, 146, 147, 148, 149, 150, 245, 246, 247, 248] (by decide +kernel) (by decide +kernel)
set_option maxRecDepth 20000 in
theorem gX7_renderBath_J4_append_bf812 : GoodIn wsX7_renderBath (wsV RX7 314 RJ4 yJ4_append_bf812 wsJ4_append_bf812) := goodIn_app (goodIn_of _ (by decide +kernel)) ggX7_renderBath_J4_append_bf812
set_option maxRecDepth 20000 in
theorem ggX7_renderBath_J4_append_cf468 : GoodIn wsX7_renderBath wsJ4_append_cf468 := goodIn_r _ [154, 155, 156, 27, 157, 29, 158, 34, 35, 37, 38, 39, 40, 41, 42, 43, 44, 45, 46, 47, 48, 49, 50, 51, 52, 53, 54, 55, 56, 57, 58, 59, 60, 61, 62, 63, 64, 65, 66, 67, 68, 69, 70, 71, 72, 73, 74, 75, 76, 77, 78, 79, 80, 81, 82, 83, 84, 159, 160, 87, 161, 162, 163, 164, 165, 166, 167, 168, 102, 169, 170, 171, 172, 173, 174, 175, 176, 177, 178, 179, 180, 181, 182, 129, 130, 131, 183, 184, 134, 185, 136, 186, 187, 139, 188, 146, 147, 148, 125, 149, 150, 189, 190, 191, 192, 193, 194, 195, 196, 197, 198, 199, 200, 245, 246, 247, 248] (by decide +kernel) (by decide +kernel)
set_option maxRecDepth 20000 in
theorem gX7_renderBath_J4_append_cf468 : GoodIn wsX7_renderBath (wsV RX7 318 RJ4 yJ4_append_cf468 wsJ4_append_cf468) := goodIn_app (goodIn_of _ (by decide +kernel)) ggX7_renderBath_J4_append_cf468
set_option maxRecDepth 20000 in
theorem ggX7_renderBath_X0_hasWater : GoodIn wsX7_renderBath wsX0_hasWater := goodIn_ca (goodIn_r _ [204, 205, 234, 235, 236, 237, 238] (by decide +kernel) (by decide +kernel)) (goodIn_sub (fun _ h => List.mem_cons_of_mem _ (List.mem_append_left _ (List.mem_append_left _ (List.mem_append_right _ h)))) (by decide +kernel))
set_option maxRecDepth 20000 in
theorem gX7_renderBath_X0_hasWater : GoodIn wsX7_renderBath (wsV RX7 321 RX0 yX0_hasWater wsX0_hasWater) := goodIn_app (goodIn_of _ (by decide +kernel)) ggX7_renderBath_X0_hasWater
set_option maxRecDepth 20000 in
theorem ggX7_renderBath_X0_degrees : GoodIn wsX7_renderBath wsX0_degrees := goodIn_ca (goodIn_ca (goodIn_r _ [209, 210, 205, 211, 10, 212, 234, 235, 236, 237, 238] (by decide +kernel) (by decide +kernel)) (goodIn_sub (fun _ h => List.mem_cons_of_mem _ (List.mem_append_left _ (List.mem_append_left _ (List.mem_append_right _ h)))) (by decide +kernel))) (goodIn_sub (fun _ h => List.mem_cons_of_mem _ (List.mem_append_right _ h)) (by decide +kernel))
set_option maxRecDepth 20000 in
theorem gX7_renderBath_X0_degrees : GoodIn wsX7_renderBath (wsV RX7 153 RX0 yX0_degrees wsX0_degrees) := goodIn_app (goodIn_of _ (by decide +kernel)) ggX7_renderBath_X0_degrees
set_option maxRecDepth 20000 in
theorem ggX7_renderBath_J4_length_8abf5 : GoodIn wsX7_renderBath wsJ4_length_8abf5 := goodIn_r _ [216, 217, 218, 27, 219, 29, 220, 34, 245, 246, 247, 248] (by decide +kernel) (by decide +kernel)
set_option maxRecDepth 20000 in
theorem gX7_renderBath_J4_length_8abf5 : GoodIn wsX7_renderBath (wsV RX7 325 RJ4 yJ4_length_8abf5 wsJ4_length_8abf5) := goodIn_app (goodIn_of _ (by decide +kernel)) ggX7_renderBath_J4_length_8abf5
theorem dX7_renderBath_0 : decode cX7_renderBath 0 = .ok (.aload_n 0, 1) := by decide +kernel
theorem dX7_renderBath_1 : decode cX7_renderBath 1 = .ok (.iload_n 1, 1) := by decide +kernel
theorem dX7_renderBath_2 : decode cX7_renderBath 2 = .ok (.invokevirtual 144, 3) := by decide +kernel
theorem dX7_renderBath_5 : decode cX7_renderBath 5 = .ok (.aload_n 0, 1) := by decide +kernel
theorem dX7_renderBath_6 : decode cX7_renderBath 6 = .ok (.getfield 50, 3) := by decide +kernel
theorem dX7_renderBath_9 : decode cX7_renderBath 9 = .ok (.iconst 0, 1) := by decide +kernel
theorem dX7_renderBath_10 : decode cX7_renderBath 10 = .ok (.invokevirtual 311, 3) := by decide +kernel
theorem dX7_renderBath_13 : decode cX7_renderBath 13 = .ok (.aload_n 0, 1) := by decide +kernel
theorem dX7_renderBath_14 : decode cX7_renderBath 14 = .ok (.getfield 50, 3) := by decide +kernel
theorem dX7_renderBath_17 : decode cX7_renderBath 17 = .ok (.iload_n 1, 1) := by decide +kernel
theorem dX7_renderBath_18 : decode cX7_renderBath 18 = .ok (.invokevirtual 314, 3) := by decide +kernel
theorem dX7_renderBath_21 : decode cX7_renderBath 21 = .ok (.bipush 58, 2) := by decide +kernel
theorem dX7_renderBath_23 : decode cX7_renderBath 23 = .ok (.invokevirtual 318, 3) := by decide +kernel
theorem dX7_renderBath_26 : decode cX7_renderBath 26 = .ok (.aload_n 0, 1) := by decide +kernel
theorem dX7_renderBath_27 : decode cX7_renderBath 27 = .ok (.getfield 12, 3) := by decide +kernel
theorem dX7_renderBath_30 : decode cX7_renderBath 30 = .ok (.getfield 77, 3) := by decide +kernel
theorem dX7_renderBath_33 : decode cX7_renderBath 33 = .ok (.getfield 81, 3) := by decide +kernel
theorem dX7_renderBath_36 : decode cX7_renderBath 36 = .ok (.iload_n 1, 1) := by decide +kernel
theorem dX7_renderBath_37 : decode cX7_renderBath 37 = .ok (.iaload, 1) := by decide +kernel
theorem dX7_renderBath_38 : decode cX7_renderBath 38 = .ok (.invokevirtual 314, 3) := by decide +kernel
theorem dX7_renderBath_41 : decode cX7_renderBath 41 = .ok (.bipush 108, 2) := by decide +kernel
theorem dX7_renderBath_43 : decode cX7_renderBath 43 = .ok (.invokevirtual 318, 3) := by decide +kernel
theorem dX7_renderBath_46 : decode cX7_renderBath 46 = .ok (.pop, 1) := by decide +kernel
theorem dX7_renderBath_47 : decode cX7_renderBath 47 = .ok (.aload_n 0, 1) := by decide +kernel
theorem dX7_renderBath_48 : decode cX7_renderBath 48 = .ok (.getfield 12, 3) := by decide +kernel
theorem dX7_renderBath_51 : decode cX7_renderBath 51 = .ok (.getfield 77, 3) := by decide +kernel
theorem dX7_renderBath_54 : decode cX7_renderBath 54 = .ok (.iload_n 1, 1) := by decide +kernel
theorem dX7_renderBath_55 : decode cX7_renderBath 55 = .ok (.invokevirtual 321, 3) := by decide +kernel
theorem dX7_renderBath_58 : decode cX7_renderBath 58 = .ok (.ifCond .eq 27, 3) := by decide +kernel
theorem dX7_renderBath_61 : decode cX7_renderBath 61 = .ok (.aload_n 0, 1) := by decide +kernel
theorem dX7_renderBath_62 : decode cX7_renderBath 62 = .ok (.getfield 50, 3) := by decide +kernel
theorem dX7_renderBath_65 : decode cX7_renderBath 65 = .ok (.aload_n 0, 1) := by decide +kernel
theorem dX7_renderBath_66 : decode cX7_renderBath 66 = .ok (.getfield 12, 3) := by decide +kernel
theorem dX7_renderBath_69 : decode cX7_renderBath 69 = .ok (.getfield 77, 3) := by decide +kernel
theorem dX7_renderBath_72 : decode cX7_renderBath 72 = .ok (.iload_n 1, 1) := by decide +kernel
theorem dX7_renderBath_73 : decode cX7_renderBath 73 = .ok (.invokevirtual 153, 3) := by decide +kernel
theorem dX7_renderBath_76 : decode cX7_renderBath 76 = .ok (.invokevirtual 314, 3) := by decide +kernel
theorem dX7_renderBath_79 : decode cX7_renderBath 79 = .ok (.bipush 67, 2) := by decide +kernel
theorem dX7_renderBath_81 : decode cX7_renderBath 81 = .ok (.invokevirtual 318, 3) := by decide +kernel
theorem dX7_renderBath_84 : decode cX7_renderBath 84 = .ok (.pop, 1) := by decide +kernel
theorem dX7_renderBath_85 : decode cX7_renderBath 85 = .ok (.aload_n 0, 1) := by decide +kernel
theorem dX7_renderBath_86 : decode cX7_renderBath 86 = .ok (.getfield 50, 3) := by decide +kernel
theorem dX7_renderBath_89 : decode cX7_renderBath 89 = .ok (.aload_n 0, 1) := by decide +kernel
theorem dX7_renderBath_90 : decode cX7_renderBath 90 = .ok (.getfield 12, 3) := by decide +kernel
theorem dX7_renderBath_93 : decode cX7_renderBath 93 = .ok (.getfield 77, 3) := by decide +kernel
theorem dX7_renderBath_96 : decode cX7_renderBath 96 = .ok (.getfield 91, 3) := by decide +kernel
theorem dX7_renderBath_99 : decode cX7_renderBath 99 = .ok (.iload_n 1, 1) := by decide +kernel
theorem dX7_renderBath_100 : decode cX7_renderBath 100 = .ok (.baload, 1) := by decide +kernel
theorem dX7_renderBath_101 : decode cX7_renderBath 101 = .ok (.ifCond .eq 8, 3) := by decide +kernel
theorem dX7_renderBath_104 : decode cX7_renderBath 104 = .ok (.bipush 43, 2) := by decide +kernel
theorem dX7_renderBath_106 : decode cX7_renderBath 106 = .ok (.goto 5, 3) := by decide +kernel
theorem dX7_renderBath_109 : decode cX7_renderBath 109 = .ok (.bipush 45, 2) := by decide +kernel
theorem dX7_renderBath_111 : decode cX7_renderBath 111 = .ok (.invokevirtual 318, 3) := by decide +kernel
theorem dX7_renderBath_114 : decode cX7_renderBath 114 = .ok (.pop, 1) := by decide +kernel
theorem dX7_renderBath_115 : decode cX7_renderBath 115 = .ok (.aload_n 0, 1) := by decide +kernel
theorem dX7_renderBath_116 : decode cX7_renderBath 116 = .ok (.getfield 12, 3) := by decide +kernel
theorem dX7_renderBath_119 : decode cX7_renderBath 119 = .ok (.getfield 77, 3) := by decide +kernel
theorem dX7_renderBath_122 : decode cX7_renderBath 122 = .ok (.getfield 180, 3) := by decide +kernel
theorem dX7_renderBath_125 : decode cX7_renderBath 125 = .ok (.iload_n 1, 1) := by decide +kernel
theorem dX7_renderBath_126 : decode cX7_renderBath 126 = .ok (.baload, 1) := by decide +kernel
theorem dX7_renderBath_127 : decode cX7_renderBath 127 = .ok (.ifCond .eq 13, 3) := by decide +kernel
theorem dX7_renderBath_130 : decode cX7_renderBath 130 = .ok (.aload_n 0, 1) := by decide +kernel
theorem dX7_renderBath_131 : decode cX7_renderBath 131 = .ok (.getfield 50, 3) := by decide +kernel
theorem dX7_renderBath_134 : decode cX7_renderBath 134 = .ok (.bipush 42, 2) := by decide +kernel
theorem dX7_renderBath_136 : decode cX7_renderBath 136 = .ok (.invokevirtual 318, 3) := by decide +kernel
theorem dX7_renderBath_139 : decode cX7_renderBath 139 = .ok (.pop, 1) := by decide +kernel
theorem dX7_renderBath_140 : decode cX7_renderBath 140 = .ok (.aload_n 0, 1) := by decide +kernel
theorem dX7_renderBath_141 : decode cX7_renderBath 141 = .ok (.getfield 50, 3) := by decide +kernel
theorem dX7_renderBath_144 : decode cX7_renderBath 144 = .ok (.invokevirtual 325, 3) := by decide +kernel
theorem dX7_renderBath_147 : decode cX7_renderBath 147 = .ok (.ireturn, 1) := by decide +kernel
set_option maxRecDepth 20000 in
theorem ggX7_outputAt_J4_length_8abf5 : GoodIn wsX7_outputAt wsJ4_length_8abf5 := goodIn_r _ [8, 9, 10, 11, 12, 13, 14, 15, 58, 59, 60, 61] (by decide +kernel) (by decide +kernel)
set_option maxRecDepth 20000 in
theorem gX7_outputAt_J4_length_8abf5 : GoodIn wsX7_outputAt (wsV RX7 325 RJ4 yJ4_length_8abf5 wsJ4_length_8abf5) := goodIn_app (goodIn_of _ (by decide +kernel)) ggX7_outputAt_J4_length_8abf5
set_option maxRecDepth 20000 in
theorem ggX7_outputAt_J4_charAt_5068e : GoodIn wsX7_outputAt wsJ4_charAt_5068e := goodIn_r _ [19, 20, 21, 11, 22, 13, 23, 24, 25, 15, 26, 27, 28, 29, 30, 31, 32, 33, 34, 35, 36, 37, 38, 39, 40, 41, 42, 43, 44, 45, 46, 47, 48, 58, 59, 60, 61] (by decide +kernel) (by decide +kernel)
set_option maxRecDepth 20000 in
theorem gX7_outputAt_J4_charAt_5068e : GoodIn wsX7_outputAt (wsV RX7 333 RJ4 yJ4_charAt_5068e wsJ4_charAt_5068e) := goodIn_app (goodIn_of _ (by decide +kernel)) ggX7_outputAt_J4_charAt_5068e
theorem dX7_outputAt_0 : decode cX7_outputAt 0 = .ok (.iload_n 1, 1) := by decide +kernel
theorem dX7_outputAt_1 : decode cX7_outputAt 1 = .ok (.ifCond .lt 14, 3) := by decide +kernel
theorem dX7_outputAt_4 : decode cX7_outputAt 4 = .ok (.iload_n 1, 1) := by decide +kernel
theorem dX7_outputAt_5 : decode cX7_outputAt 5 = .ok (.aload_n 0, 1) := by decide +kernel
theorem dX7_outputAt_6 : decode cX7_outputAt 6 = .ok (.getfield 50, 3) := by decide +kernel
theorem dX7_outputAt_9 : decode cX7_outputAt 9 = .ok (.invokevirtual 325, 3) := by decide +kernel
theorem dX7_outputAt_12 : decode cX7_outputAt 12 = .ok (.if_icmp .lt 14, 3) := by decide +kernel
theorem dX7_outputAt_15 : decode cX7_outputAt 15 = .ok (.new 328, 3) := by decide +kernel
theorem dX7_outputAt_18 : decode cX7_outputAt 18 = .ok (.dup, 1) := by decide +kernel
theorem dX7_outputAt_19 : decode cX7_outputAt 19 = .ok (.ldc_w 330, 3) := by decide +kernel
theorem dX7_outputAt_22 : decode cX7_outputAt 22 = .ok (.invokespecial 332, 3) := by decide +kernel
theorem dX7_outputAt_25 : decode cX7_outputAt 25 = .ok (.athrow, 1) := by decide +kernel
theorem dX7_outputAt_26 : decode cX7_outputAt 26 = .ok (.aload_n 0, 1) := by decide +kernel
theorem dX7_outputAt_27 : decode cX7_outputAt 27 = .ok (.getfield 50, 3) := by decide +kernel
theorem dX7_outputAt_30 : decode cX7_outputAt 30 = .ok (.iload_n 1, 1) := by decide +kernel
theorem dX7_outputAt_31 : decode cX7_outputAt 31 = .ok (.invokevirtual 333, 3) := by decide +kernel
theorem dX7_outputAt_34 : decode cX7_outputAt 34 = .ok (.ireturn, 1) := by decide +kernel
set_option maxRecDepth 20000 in
theorem ggX7_type_X4_append : GoodIn wsX7_type wsX4_append := goodIn_ca (goodIn_r _ [11, 12, 13, 23, 24, 25, 26, 27, 28, 29, 30, 31] (by decide +kernel) (by decide +kernel)) (goodIn_sub (fun _ h => List.mem_cons_of_mem _ (List.mem_append_right _ h)) (by decide +kernel))
set_option maxRecDepth 20000 in
theorem gX7_type_X4_append : GoodIn wsX7_type (wsV RX7 343 RX4 yX4_append wsX4_append) := goodIn_app (goodIn_of _ (by decide +kernel)) ggX7_type_X4_append
theorem dX7_type_0 : decode cX7_type 0 = .ok (.iload_n 1, 1) := by decide +kernel
theorem dX7_type_1 : decode cX7_type 1 = .ok (.bipush 32, 2) := by decide +kernel
theorem dX7_type_3 : decode cX7_type 3 = .ok (.if_icmp .lt 9, 3) := by decide +kernel
theorem dX7_type_6 : decode cX7_type 6 = .ok (.iload_n 1, 1) := by decide +kernel
theorem dX7_type_7 : decode cX7_type 7 = .ok (.bipush 126, 2) := by decide +kernel
theorem dX7_type_9 : decode cX7_type 9 = .ok (.if_icmp .le 14, 3) := by decide +kernel
theorem dX7_type_12 : decode cX7_type 12 = .ok (.new 227, 3) := by decide +kernel
theorem dX7_type_15 : decode cX7_type 15 = .ok (.dup, 1) := by decide +kernel
theorem dX7_type_16 : decode cX7_type 16 = .ok (.ldc_w 337, 3) := by decide +kernel
theorem dX7_type_19 : decode cX7_type 19 = .ok (.invokespecial 231, 3) := by decide +kernel
theorem dX7_type_22 : decode cX7_type 22 = .ok (.athrow, 1) := by decide +kernel
theorem dX7_type_23 : decode cX7_type 23 = .ok (.aload_n 0, 1) := by decide +kernel
theorem dX7_type_24 : decode cX7_type 24 = .ok (.getfield 36, 3) := by decide +kernel
theorem dX7_type_27 : decode cX7_type 27 = .ok (.getfield 339, 3) := by decide +kernel
theorem dX7_type_30 : decode cX7_type 30 = .ok (.bipush 60, 2) := by decide +kernel
theorem dX7_type_32 : decode cX7_type 32 = .ok (.if_icmp .lt 14, 3) := by decide +kernel
theorem dX7_type_35 : decode cX7_type 35 = .ok (.new 214, 3) := by decide +kernel
theorem dX7_type_38 : decode cX7_type 38 = .ok (.dup, 1) := by decide +kernel
theorem dX7_type_39 : decode cX7_type 39 = .ok (.ldc_w 341, 3) := by decide +kernel
theorem dX7_type_42 : decode cX7_type 42 = .ok (.invokespecial 218, 3) := by decide +kernel
theorem dX7_type_45 : decode cX7_type 45 = .ok (.athrow, 1) := by decide +kernel
theorem dX7_type_46 : decode cX7_type 46 = .ok (.aload_n 0, 1) := by decide +kernel
theorem dX7_type_47 : decode cX7_type 47 = .ok (.getfield 36, 3) := by decide +kernel
theorem dX7_type_50 : decode cX7_type 50 = .ok (.iload_n 1, 1) := by decide +kernel
theorem dX7_type_51 : decode cX7_type 51 = .ok (.invokevirtual 343, 3) := by decide +kernel
theorem dX7_type_54 : decode cX7_type 54 = .ok (.aload_n 0, 1) := by decide +kernel
theorem dX7_type_55 : decode cX7_type 55 = .ok (.getfield 36, 3) := by decide +kernel
theorem dX7_type_58 : decode cX7_type 58 = .ok (.getfield 339, 3) := by decide +kernel
theorem dX7_type_61 : decode cX7_type 61 = .ok (.ireturn, 1) := by decide +kernel
set_option maxRecDepth 20000 in
theorem ggX7_runScript_X4_read : GoodIn wsX7_runScript wsX4_read := goodIn_ca (goodIn_r _ [18, 19, 20, 21, 22, 23, 24, 25, 17, 26, 27, 28, 29, 30, 31, 32, 33, 34, 35, 36, 37, 38, 39, 40, 41, 42, 43, 44, 45, 46, 47, 48, 49, 50, 51, 52, 53, 54, 55, 56, 57, 58, 59, 60, 61, 62, 63, 64, 65, 66, 67, 68, 69, 70, 71, 72, 73, 74, 75, 76, 77, 78, 79, 80, 81, 82, 83, 84, 85, 86, 87, 88, 89, 90, 91, 92, 93, 94, 95, 96, 97, 98, 99, 100, 101, 102, 103, 104, 105, 106, 107, 108, 109, 110, 111, 112, 113, 114, 115, 116, 117, 118, 119, 120, 121, 122, 123, 124, 125, 126, 127, 378, 379, 380, 381, 382, 383, 384, 385, 386, 387, 388, 389, 390] (by decide +kernel) (by decide +kernel)) (goodIn_sub (fun _ h => List.mem_cons_of_mem _ (List.mem_append_left _ (List.mem_append_right _ h))) (by decide +kernel))
set_option maxRecDepth 20000 in
theorem gX7_runScript_X4_read : GoodIn wsX7_runScript (wsV RX7 346 RX4 yX4_read wsX4_read) := goodIn_app (goodIn_of _ (by decide +kernel)) ggX7_runScript_X4_read
set_option maxRecDepth 20000 in
theorem ggX7_runScript_X4_empty : GoodIn wsX7_runScript wsX4_empty := goodIn_r _ [131, 22, 378, 379, 380, 381, 382, 383, 384, 385, 386] (by decide +kernel) (by decide +kernel)
set_option maxRecDepth 20000 in
theorem gX7_runScript_X4_empty : GoodIn wsX7_runScript (wsV RX7 349 RX4 yX4_empty wsX4_empty) := goodIn_app (goodIn_of _ (by decide +kernel)) ggX7_runScript_X4_empty
set_option maxRecDepth 20000 in
theorem ggX7_runScript_X5_copyFrom : GoodIn wsX7_runScript wsX5_copyFrom := goodIn_ca (goodIn_r _ [136, 137, 138, 139, 140, 141, 142, 143, 144, 145, 146, 147, 148, 149, 150, 151, 152, 153, 154, 155, 156, 157, 158, 159, 160, 161, 162, 163, 164, 165, 166, 167, 168, 169, 170, 171, 172, 173, 174, 175, 176, 177, 178, 179, 180, 181, 391, 392, 393, 394, 395, 396, 397, 398, 399, 400, 401, 402, 403, 404, 405, 406, 407, 408, 409, 410, 411, 412, 413, 414, 415] (by decide +kernel) (by decide +kernel)) (goodIn_sub (fun _ h => List.mem_cons_of_mem _ (List.mem_append_left _ (List.mem_append_right _ h))) (by decide +kernel))
set_option maxRecDepth 20000 in
theorem gX7_runScript_X5_copyFrom : GoodIn wsX7_runScript (wsV RX7 219 RX5 yX5_copyFrom wsX5_copyFrom) := goodIn_app (goodIn_of _ (by decide +kernel)) ggX7_runScript_X5_copyFrom
set_option maxRecDepth 20000 in
theorem ggX7_runScript_X7_commandFault : GoodIn wsX7_runScript wsX7_commandFault := goodIn_ca (goodIn_ca (goodIn_r _ [186, 5, 187, 188, 189, 190, 9, 191, 192, 193, 135, 194, 137, 195, 196, 197, 198, 199, 200, 201, 202, 203, 144, 204, 146, 205, 185, 206, 207, 208, 209, 210, 211, 212, 213, 214, 215, 216, 217, 218, 138, 219, 220, 221, 222, 223, 224, 225, 226, 227, 228, 148, 147, 229, 230, 231, 232, 233, 234, 235, 236, 237, 238, 239, 240, 241, 242, 369, 370, 371, 372, 373, 374, 375, 376, 377, 378, 379, 380, 381, 382, 383, 384, 385, 386, 391, 392, 393, 394, 395, 396, 397, 398, 399, 400, 401, 402, 403, 404, 405] (by decide +kernel) (by decide +kernel)) (goodIn_sub (fun _ h => List.mem_cons_of_mem _ (List.mem_append_left _ (List.mem_append_right _ h))) (by decide +kernel))) (goodIn_sub (fun _ h => List.mem_cons_of_mem _ (List.mem_append_right _ h)) (by decide +kernel))
set_option maxRecDepth 20000 in
theorem gX7_runScript_X7_commandFault : GoodIn wsX7_runScript (wsV RX7 361 RX7 yX7_commandFault wsX7_commandFault) := goodIn_app (goodIn_of _ (by decide +kernel)) ggX7_runScript_X7_commandFault
set_option maxRecDepth 20000 in
theorem ggX7_runScript_X7_perform : GoodIn wsX7_runScript wsX7_perform := goodIn_ca (goodIn_ca (goodIn_r _ [246, 5, 187, 188, 189, 190, 9, 247, 248, 249, 135, 250, 137, 195, 251, 252, 253, 254, 255, 200, 256, 140, 257, 258, 139, 138, 259, 260, 261, 165, 262, 168, 169, 170, 167, 263, 264, 265, 266, 267, 268, 269, 154, 270, 156, 161, 160, 271, 272, 273, 274, 157, 275, 276, 158, 159, 229, 185, 230, 277, 232, 233, 144, 234, 147, 278, 279, 280, 281, 282, 283, 284, 285, 286, 287, 288, 289, 148, 290, 291, 292, 293, 294, 219, 295, 296, 297, 298, 299, 300, 301, 302, 303, 224, 304, 305, 306, 307, 308, 309, 310, 311, 312, 313, 314, 315, 316, 317, 318, 319, 320, 321, 231, 322, 323, 324, 325, 326, 327, 328, 329, 330, 331, 332, 333, 334, 335, 146, 150, 336, 337, 338, 339, 340, 341, 342, 343, 344, 345, 346, 347, 348, 349, 350, 351, 352, 353, 202, 203, 204, 354, 355, 356, 357, 358, 225, 226, 227, 228, 369, 370, 371, 372, 373, 374, 375, 376, 377, 378, 379, 380, 381, 382, 383, 384, 385, 386, 391, 392, 393, 394, 395, 396, 397, 398, 399, 410, 411, 412, 413, 414, 415, 406, 407, 408, 409, 400, 401, 402, 403, 404, 405] (by decide +kernel) (by decide +kernel)) (goodIn_sub (fun _ h => List.mem_cons_of_mem _ (List.mem_append_left _ (List.mem_append_right _ h))) (by decide +kernel))) (goodIn_sub (fun _ h => List.mem_cons_of_mem _ (List.mem_append_right _ h)) (by decide +kernel))
set_option maxRecDepth 20000 in
theorem gX7_runScript_X7_perform : GoodIn wsX7_runScript (wsV RX7 366 RX7 yX7_perform wsX7_perform) := goodIn_app (goodIn_of _ (by decide +kernel)) ggX7_runScript_X7_perform
set_option maxRecDepth 20000 in
theorem ggX7_runScript_X3_remember : GoodIn wsX7_runScript wsX3_remember := goodIn_ca (goodIn_r _ [363, 364, 365, 366, 367, 264, 265, 266, 368, 133, 134, 135, 136, 137, 138, 139, 140, 141, 142, 143, 144, 145, 146, 147, 148, 149, 150, 151, 152, 153, 154, 155, 156, 157, 158, 159, 160, 161, 162, 163, 164, 165, 166, 167, 168, 169, 170, 171, 172, 173, 174, 175, 176, 177, 178, 179, 180, 181, 416, 417, 418, 391, 392, 393, 394, 395, 396, 397, 398, 399, 400, 401, 402, 403, 404, 405, 406, 407, 408, 409, 410, 411, 412, 413, 414, 415] (by decide +kernel) (by decide +kernel)) (goodIn_sub (fun _ h => List.mem_cons_of_mem _ (List.mem_append_left _ (List.mem_append_right _ h))) (by decide +kernel))
set_option maxRecDepth 20000 in
theorem gX7_runScript_X3_remember : GoodIn wsX7_runScript (wsV RX7 62 RX3 yX3_remember wsX3_remember) := goodIn_app (goodIn_of _ (by decide +kernel)) ggX7_runScript_X3_remember
theorem dX7_runScript_0 : decode cX7_runScript 0 = .ok (.aload_n 0, 1) := by decide +kernel
theorem dX7_runScript_1 : decode cX7_runScript 1 = .ok (.getfield 36, 3) := by decide +kernel
theorem dX7_runScript_4 : decode cX7_runScript 4 = .ok (.invokevirtual 346, 3) := by decide +kernel
theorem dX7_runScript_7 : decode cX7_runScript 7 = .ok (.aload_n 0, 1) := by decide +kernel
theorem dX7_runScript_8 : decode cX7_runScript 8 = .ok (.getfield 36, 3) := by decide +kernel
theorem dX7_runScript_11 : decode cX7_runScript 11 = .ok (.invokevirtual 349, 3) := by decide +kernel
theorem dX7_runScript_14 : decode cX7_runScript 14 = .ok (.aload_n 0, 1) := by decide +kernel
theorem dX7_runScript_15 : decode cX7_runScript 15 = .ok (.getfield 36, 3) := by decide +kernel
theorem dX7_runScript_18 : decode cX7_runScript 18 = .ok (.getfield 352, 3) := by decide +kernel
theorem dX7_runScript_21 : decode cX7_runScript 21 = .ok (.ifCond .eq 25, 3) := by decide +kernel
theorem dX7_runScript_24 : decode cX7_runScript 24 = .ok (.aload_n 0, 1) := by decide +kernel
theorem dX7_runScript_25 : decode cX7_runScript 25 = .ok (.aload_n 0, 1) := by decide +kernel
theorem dX7_runScript_26 : decode cX7_runScript 26 = .ok (.getfield 36, 3) := by decide +kernel
theorem dX7_runScript_29 : decode cX7_runScript 29 = .ok (.getfield 355, 3) := by decide +kernel
theorem dX7_runScript_32 : decode cX7_runScript 32 = .ok (.putfield 40, 3) := by decide +kernel
theorem dX7_runScript_35 : decode cX7_runScript 35 = .ok (.new 227, 3) := by decide +kernel
theorem dX7_runScript_38 : decode cX7_runScript 38 = .ok (.dup, 1) := by decide +kernel
theorem dX7_runScript_39 : decode cX7_runScript 39 = .ok (.ldc_w 358, 3) := by decide +kernel
theorem dX7_runScript_42 : decode cX7_runScript 42 = .ok (.invokespecial 231, 3) := by decide +kernel
theorem dX7_runScript_45 : decode cX7_runScript 45 = .ok (.athrow, 1) := by decide +kernel
theorem dX7_runScript_46 : decode cX7_runScript 46 = .ok (.aload_n 0, 1) := by decide +kernel
theorem dX7_runScript_47 : decode cX7_runScript 47 = .ok (.getfield 16, 3) := by decide +kernel
theorem dX7_runScript_50 : decode cX7_runScript 50 = .ok (.aload_n 0, 1) := by decide +kernel
theorem dX7_runScript_51 : decode cX7_runScript 51 = .ok (.getfield 12, 3) := by decide +kernel
theorem dX7_runScript_54 : decode cX7_runScript 54 = .ok (.invokevirtual 219, 3) := by decide +kernel
theorem dX7_runScript_57 : decode cX7_runScript 57 = .ok (.iconst 0, 1) := by decide +kernel
theorem dX7_runScript_58 : decode cX7_runScript 58 = .ok (.istore_n 1, 1) := by decide +kernel
theorem dX7_runScript_59 : decode cX7_runScript 59 = .ok (.iload_n 1, 1) := by decide +kernel
theorem dX7_runScript_60 : decode cX7_runScript 60 = .ok (.aload_n 0, 1) := by decide +kernel
theorem dX7_runScript_61 : decode cX7_runScript 61 = .ok (.getfield 36, 3) := by decide +kernel
theorem dX7_runScript_64 : decode cX7_runScript 64 = .ok (.getfield 360, 3) := by decide +kernel
theorem dX7_runScript_67 : decode cX7_runScript 67 = .ok (.if_icmp .ge 38, 3) := by decide +kernel
theorem dX7_runScript_70 : decode cX7_runScript 70 = .ok (.aload_n 0, 1) := by decide +kernel
theorem dX7_runScript_71 : decode cX7_runScript 71 = .ok (.iload_n 1, 1) := by decide +kernel
theorem dX7_runScript_72 : decode cX7_runScript 72 = .ok (.invokevirtual 361, 3) := by decide +kernel
theorem dX7_runScript_75 : decode cX7_runScript 75 = .ok (.ifCond .eq 19, 3) := by decide +kernel
theorem dX7_runScript_78 : decode cX7_runScript 78 = .ok (.aload_n 0, 1) := by decide +kernel
theorem dX7_runScript_79 : decode cX7_runScript 79 = .ok (.iload_n 1, 1) := by decide +kernel
theorem dX7_runScript_80 : decode cX7_runScript 80 = .ok (.putfield 44, 3) := by decide +kernel
theorem dX7_runScript_83 : decode cX7_runScript 83 = .ok (.new 214, 3) := by decide +kernel
theorem dX7_runScript_86 : decode cX7_runScript 86 = .ok (.dup, 1) := by decide +kernel
theorem dX7_runScript_87 : decode cX7_runScript 87 = .ok (.ldc_w 364, 3) := by decide +kernel
theorem dX7_runScript_90 : decode cX7_runScript 90 = .ok (.invokespecial 218, 3) := by decide +kernel
theorem dX7_runScript_93 : decode cX7_runScript 93 = .ok (.athrow, 1) := by decide +kernel
theorem dX7_runScript_94 : decode cX7_runScript 94 = .ok (.aload_n 0, 1) := by decide +kernel
theorem dX7_runScript_95 : decode cX7_runScript 95 = .ok (.iload_n 1, 1) := by decide +kernel
theorem dX7_runScript_96 : decode cX7_runScript 96 = .ok (.invokevirtual 366, 3) := by decide +kernel
theorem dX7_runScript_99 : decode cX7_runScript 99 = .ok (.iinc 1 1, 3) := by decide +kernel
theorem dX7_runScript_102 : decode cX7_runScript 102 = .ok (.goto (-43), 3) := by decide +kernel
theorem dX7_runScript_105 : decode cX7_runScript 105 = .ok (.aload_n 0, 1) := by decide +kernel
theorem dX7_runScript_106 : decode cX7_runScript 106 = .ok (.getfield 29, 3) := by decide +kernel
theorem dX7_runScript_109 : decode cX7_runScript 109 = .ok (.aload_n 0, 1) := by decide +kernel
theorem dX7_runScript_110 : decode cX7_runScript 110 = .ok (.getfield 12, 3) := by decide +kernel
theorem dX7_runScript_113 : decode cX7_runScript 113 = .ok (.invokevirtual 62, 3) := by decide +kernel
theorem dX7_runScript_116 : decode cX7_runScript 116 = .ok (.aload_n 0, 1) := by decide +kernel
theorem dX7_runScript_117 : decode cX7_runScript 117 = .ok (.getfield 12, 3) := by decide +kernel
theorem dX7_runScript_120 : decode cX7_runScript 120 = .ok (.aload_n 0, 1) := by decide +kernel
theorem dX7_runScript_121 : decode cX7_runScript 121 = .ok (.getfield 16, 3) := by decide +kernel
theorem dX7_runScript_124 : decode cX7_runScript 124 = .ok (.invokevirtual 219, 3) := by decide +kernel
theorem dX7_runScript_127 : decode cX7_runScript 127 = .ok (.aload_n 0, 1) := by decide +kernel
theorem dX7_runScript_128 : decode cX7_runScript 128 = .ok (.getfield 36, 3) := by decide +kernel
theorem dX7_runScript_131 : decode cX7_runScript 131 = .ok (.getfield 360, 3) := by decide +kernel
theorem dX7_runScript_134 : decode cX7_runScript 134 = .ok (.ireturn, 1) := by decide +kernel
set_option maxRecDepth 20000 in
theorem ggX7_undo_X3_recall : GoodIn wsX7_undo wsX3_recall := goodIn_ca (goodIn_r _ [10, 11, 12, 13, 14, 15, 16, 17, 18, 19, 20, 21, 22, 23, 24, 25, 26, 27, 28, 29, 30, 31, 32, 33, 34, 35, 36, 37, 38, 39, 40, 41, 42, 43, 44, 45, 46, 47, 48, 49, 50, 51, 52, 53, 54, 55, 56, 57, 58, 59, 60, 61, 62, 63, 73, 74, 75, 76, 77, 78, 79, 80, 81, 82, 83, 84, 85, 86, 87, 88, 89, 90, 91, 92, 93, 94, 95, 96, 97, 98, 99, 100] (by decide +kernel) (by decide +kernel)) (goodIn_sub (fun _ h => List.mem_cons_of_mem _ (List.mem_append_right _ h)) (by decide +kernel))
set_option maxRecDepth 20000 in
theorem gX7_undo_X3_recall : GoodIn wsX7_undo (wsV RX7 376 RX3 yX3_recall wsX3_recall) := goodIn_app (goodIn_of _ (by decide +kernel)) ggX7_undo_X3_recall
theorem dX7_undo_0 : decode cX7_undo 0 = .ok (.aload_n 0, 1) := by decide +kernel
theorem dX7_undo_1 : decode cX7_undo 1 = .ok (.getfield 29, 3) := by decide +kernel
theorem dX7_undo_4 : decode cX7_undo 4 = .ok (.getfield 373, 3) := by decide +kernel
theorem dX7_undo_7 : decode cX7_undo 7 = .ok (.ifCond .ne 14, 3) := by decide +kernel
theorem dX7_undo_10 : decode cX7_undo 10 = .ok (.new 195, 3) := by decide +kernel
theorem dX7_undo_13 : decode cX7_undo 13 = .ok (.dup, 1) := by decide +kernel
theorem dX7_undo_14 : decode cX7_undo 14 = .ok (.ldc_w 374, 3) := by decide +kernel
theorem dX7_undo_17 : decode cX7_undo 17 = .ok (.invokespecial 199, 3) := by decide +kernel
theorem dX7_undo_20 : decode cX7_undo 20 = .ok (.athrow, 1) := by decide +kernel
theorem dX7_undo_21 : decode cX7_undo 21 = .ok (.aload_n 0, 1) := by decide +kernel
theorem dX7_undo_22 : decode cX7_undo 22 = .ok (.getfield 29, 3) := by decide +kernel
theorem dX7_undo_25 : decode cX7_undo 25 = .ok (.aload_n 0, 1) := by decide +kernel
theorem dX7_undo_26 : decode cX7_undo 26 = .ok (.getfield 12, 3) := by decide +kernel
theorem dX7_undo_29 : decode cX7_undo 29 = .ok (.invokevirtual 376, 3) := by decide +kernel
theorem dX7_undo_32 : decode cX7_undo 32 = .ok (.aload_n 0, 1) := by decide +kernel
theorem dX7_undo_33 : decode cX7_undo 33 = .ok (.getfield 29, 3) := by decide +kernel
theorem dX7_undo_36 : decode cX7_undo 36 = .ok (.getfield 373, 3) := by decide +kernel
theorem dX7_undo_39 : decode cX7_undo 39 = .ok (.ireturn, 1) := by decide +kernel
theorem dX7_refuse_0 : decode cX7_refuse 0 = .ok (.iload_n 0, 1) := by decide +kernel
theorem dX7_refuse_1 : decode cX7_refuse 1 = .ok (.tableswitch 90 1 5 #[35, 46, 57, 68, 79], 35) := by decide +kernel
theorem dX7_refuse_36 : decode cX7_refuse 36 = .ok (.new 328, 3) := by decide +kernel
theorem dX7_refuse_39 : decode cX7_refuse 39 = .ok (.dup, 1) := by decide +kernel
theorem dX7_refuse_40 : decode cX7_refuse 40 = .ok (.ldc_w 384, 3) := by decide +kernel
theorem dX7_refuse_43 : decode cX7_refuse 43 = .ok (.invokespecial 332, 3) := by decide +kernel
theorem dX7_refuse_46 : decode cX7_refuse 46 = .ok (.athrow, 1) := by decide +kernel
theorem dX7_refuse_47 : decode cX7_refuse 47 = .ok (.new 227, 3) := by decide +kernel
theorem dX7_refuse_50 : decode cX7_refuse 50 = .ok (.dup, 1) := by decide +kernel
theorem dX7_refuse_51 : decode cX7_refuse 51 = .ok (.ldc_w 386, 3) := by decide +kernel
theorem dX7_refuse_54 : decode cX7_refuse 54 = .ok (.invokespecial 231, 3) := by decide +kernel
theorem dX7_refuse_57 : decode cX7_refuse 57 = .ok (.athrow, 1) := by decide +kernel
theorem dX7_refuse_58 : decode cX7_refuse 58 = .ok (.new 214, 3) := by decide +kernel
theorem dX7_refuse_61 : decode cX7_refuse 61 = .ok (.dup, 1) := by decide +kernel
theorem dX7_refuse_62 : decode cX7_refuse 62 = .ok (.ldc_w 388, 3) := by decide +kernel
theorem dX7_refuse_65 : decode cX7_refuse 65 = .ok (.invokespecial 218, 3) := by decide +kernel
theorem dX7_refuse_68 : decode cX7_refuse 68 = .ok (.athrow, 1) := by decide +kernel
theorem dX7_refuse_69 : decode cX7_refuse 69 = .ok (.new 195, 3) := by decide +kernel
theorem dX7_refuse_72 : decode cX7_refuse 72 = .ok (.dup, 1) := by decide +kernel
theorem dX7_refuse_73 : decode cX7_refuse 73 = .ok (.ldc_w 390, 3) := by decide +kernel
theorem dX7_refuse_76 : decode cX7_refuse 76 = .ok (.invokespecial 199, 3) := by decide +kernel
theorem dX7_refuse_79 : decode cX7_refuse 79 = .ok (.athrow, 1) := by decide +kernel
theorem dX7_refuse_80 : decode cX7_refuse 80 = .ok (.new 392, 3) := by decide +kernel
theorem dX7_refuse_83 : decode cX7_refuse 83 = .ok (.dup, 1) := by decide +kernel
theorem dX7_refuse_84 : decode cX7_refuse 84 = .ok (.ldc_w 394, 3) := by decide +kernel
theorem dX7_refuse_87 : decode cX7_refuse 87 = .ok (.invokespecial 396, 3) := by decide +kernel
theorem dX7_refuse_90 : decode cX7_refuse 90 = .ok (.athrow, 1) := by decide +kernel
theorem dX7_refuse_91 : decode cX7_refuse 91 = .ok (.return_, 1) := by decide +kernel
set_option maxRecDepth 20000 in
theorem ggX7_requireBath_X0_has : GoodIn wsX7_requireBath wsX0_has := goodIn_r _ [9, 10, 24, 25, 26, 27, 28] (by decide +kernel) (by decide +kernel)
set_option maxRecDepth 20000 in
theorem gX7_requireBath_X0_has : GoodIn wsX7_requireBath (wsV RX7 397 RX0 yX0_has wsX0_has) := goodIn_app (goodIn_of _ (by decide +kernel)) ggX7_requireBath_X0_has
theorem dX7_requireBath_0 : decode cX7_requireBath 0 = .ok (.aload_n 0, 1) := by decide +kernel
theorem dX7_requireBath_1 : decode cX7_requireBath 1 = .ok (.getfield 12, 3) := by decide +kernel
theorem dX7_requireBath_4 : decode cX7_requireBath 4 = .ok (.getfield 77, 3) := by decide +kernel
theorem dX7_requireBath_7 : decode cX7_requireBath 7 = .ok (.iload_n 1, 1) := by decide +kernel
theorem dX7_requireBath_8 : decode cX7_requireBath 8 = .ok (.invokevirtual 397, 3) := by decide +kernel
theorem dX7_requireBath_11 : decode cX7_requireBath 11 = .ok (.ifCond .ne 14, 3) := by decide +kernel
theorem dX7_requireBath_14 : decode cX7_requireBath 14 = .ok (.new 328, 3) := by decide +kernel
theorem dX7_requireBath_17 : decode cX7_requireBath 17 = .ok (.dup, 1) := by decide +kernel
theorem dX7_requireBath_18 : decode cX7_requireBath 18 = .ok (.ldc_w 384, 3) := by decide +kernel
theorem dX7_requireBath_21 : decode cX7_requireBath 21 = .ok (.invokespecial 332, 3) := by decide +kernel
theorem dX7_requireBath_24 : decode cX7_requireBath 24 = .ok (.athrow, 1) := by decide +kernel
theorem dX7_requireBath_25 : decode cX7_requireBath 25 = .ok (.return_, 1) := by decide +kernel
set_option maxRecDepth 20000 in
theorem ggX7_requireWater_X0_hasWater : GoodIn wsX7_requireWater wsX0_hasWater := goodIn_ca (goodIn_r _ [9, 10, 24, 25, 26, 27, 28] (by decide +kernel) (by decide +kernel)) (goodIn_sub (fun _ h => List.mem_cons_of_mem _ (List.mem_append_right _ h)) (by decide +kernel))
set_option maxRecDepth 20000 in
theorem gX7_requireWater_X0_hasWater : GoodIn wsX7_requireWater (wsV RX7 321 RX0 yX0_hasWater wsX0_hasWater) := goodIn_app (goodIn_of _ (by decide +kernel)) ggX7_requireWater_X0_hasWater
theorem dX7_requireWater_0 : decode cX7_requireWater 0 = .ok (.aload_n 0, 1) := by decide +kernel
theorem dX7_requireWater_1 : decode cX7_requireWater 1 = .ok (.getfield 12, 3) := by decide +kernel
theorem dX7_requireWater_4 : decode cX7_requireWater 4 = .ok (.getfield 77, 3) := by decide +kernel
theorem dX7_requireWater_7 : decode cX7_requireWater 7 = .ok (.iload_n 1, 1) := by decide +kernel
theorem dX7_requireWater_8 : decode cX7_requireWater 8 = .ok (.invokevirtual 321, 3) := by decide +kernel
theorem dX7_requireWater_11 : decode cX7_requireWater 11 = .ok (.ifCond .ne 14, 3) := by decide +kernel
theorem dX7_requireWater_14 : decode cX7_requireWater 14 = .ok (.new 195, 3) := by decide +kernel
theorem dX7_requireWater_17 : decode cX7_requireWater 17 = .ok (.dup, 1) := by decide +kernel
theorem dX7_requireWater_18 : decode cX7_requireWater 18 = .ok (.ldc_w 400, 3) := by decide +kernel
theorem dX7_requireWater_21 : decode cX7_requireWater 21 = .ok (.invokespecial 199, 3) := by decide +kernel
theorem dX7_requireWater_24 : decode cX7_requireWater 24 = .ok (.athrow, 1) := by decide +kernel
theorem dX7_requireWater_25 : decode cX7_requireWater 25 = .ok (.return_, 1) := by decide +kernel
theorem dX7_requireDuck_0 : decode cX7_requireDuck 0 = .ok (.iload_n 1, 1) := by decide +kernel
theorem dX7_requireDuck_1 : decode cX7_requireDuck 1 = .ok (.ifCond .lt 17, 3) := by decide +kernel
theorem dX7_requireDuck_4 : decode cX7_requireDuck 4 = .ok (.iload_n 1, 1) := by decide +kernel
theorem dX7_requireDuck_5 : decode cX7_requireDuck 5 = .ok (.aload_n 0, 1) := by decide +kernel
theorem dX7_requireDuck_6 : decode cX7_requireDuck 6 = .ok (.getfield 12, 3) := by decide +kernel
theorem dX7_requireDuck_9 : decode cX7_requireDuck 9 = .ok (.getfield 232, 3) := by decide +kernel
theorem dX7_requireDuck_12 : decode cX7_requireDuck 12 = .ok (.getfield 236, 3) := by decide +kernel
theorem dX7_requireDuck_15 : decode cX7_requireDuck 15 = .ok (.if_icmp .lt 14, 3) := by decide +kernel
theorem dX7_requireDuck_18 : decode cX7_requireDuck 18 = .ok (.new 328, 3) := by decide +kernel
theorem dX7_requireDuck_21 : decode cX7_requireDuck 21 = .ok (.dup, 1) := by decide +kernel
theorem dX7_requireDuck_22 : decode cX7_requireDuck 22 = .ok (.ldc_w 402, 3) := by decide +kernel
theorem dX7_requireDuck_25 : decode cX7_requireDuck 25 = .ok (.invokespecial 332, 3) := by decide +kernel
theorem dX7_requireDuck_28 : decode cX7_requireDuck 28 = .ok (.athrow, 1) := by decide +kernel
theorem dX7_requireDuck_29 : decode cX7_requireDuck 29 = .ok (.return_, 1) := by decide +kernel
theorem dX7_requireElement_0 : decode cX7_requireElement 0 = .ok (.iload_n 0, 1) := by decide +kernel
theorem dX7_requireElement_1 : decode cX7_requireElement 1 = .ok (.ifCond .lt 8, 3) := by decide +kernel
theorem dX7_requireElement_4 : decode cX7_requireElement 4 = .ok (.iload_n 0, 1) := by decide +kernel
theorem dX7_requireElement_5 : decode cX7_requireElement 5 = .ok (.iload_n 1, 1) := by decide +kernel
theorem dX7_requireElement_6 : decode cX7_requireElement 6 = .ok (.if_icmp .lt 14, 3) := by decide +kernel
theorem dX7_requireElement_9 : decode cX7_requireElement 9 = .ok (.new 195, 3) := by decide +kernel
theorem dX7_requireElement_12 : decode cX7_requireElement 12 = .ok (.dup, 1) := by decide +kernel
theorem dX7_requireElement_13 : decode cX7_requireElement 13 = .ok (.ldc_w 404, 3) := by decide +kernel
theorem dX7_requireElement_16 : decode cX7_requireElement 16 = .ok (.invokespecial 199, 3) := by decide +kernel
theorem dX7_requireElement_19 : decode cX7_requireElement 19 = .ok (.athrow, 1) := by decide +kernel
theorem dX7_requireElement_20 : decode cX7_requireElement 20 = .ok (.return_, 1) := by decide +kernel
set_option maxRecDepth 20000 in
theorem ggX7_requirePlan_X7_requireBath : GoodIn wsX7_requirePlan wsX7_requireBath := goodIn_ca (goodIn_r _ [7, 8, 9, 10, 11, 12, 13, 14, 15, 16, 17, 32, 33, 34, 35, 36, 37, 38, 39, 40, 41, 42, 43, 44, 45, 46, 47, 48, 49] (by decide +kernel) (by decide +kernel)) (goodIn_sub (fun _ h => List.mem_cons_of_mem _ (List.mem_append_left _ (List.mem_append_left _ (List.mem_append_right _ h)))) (by decide +kernel))
set_option maxRecDepth 20000 in
theorem gX7_requirePlan_X7_requireBath : GoodIn wsX7_requirePlan (wsV RX7 144 RX7 yX7_requireBath wsX7_requireBath) := goodIn_app (goodIn_of _ (by decide +kernel)) ggX7_requirePlan_X7_requireBath
set_option maxRecDepth 20000 in
theorem ggX7_requirePlan_X7_isTap : GoodIn wsX7_requirePlan wsX7_isTap := goodIn_r _ [20] (by decide +kernel) (by decide +kernel)
set_option maxRecDepth 20000 in
theorem gX7_requirePlan_X7_isTap : GoodIn wsX7_requirePlan (va_wsS RX7 406 yX7_isTap wsX7_isTap) := goodIn_app (goodIn_of _ (by decide +kernel)) ggX7_requirePlan_X7_isTap
set_option maxRecDepth 20000 in
theorem ggX7_requirePlan_X7_requireWater : GoodIn wsX7_requirePlan wsX7_requireWater := goodIn_ca (goodIn_ca (goodIn_r _ [24, 25, 26, 10, 11, 27, 28, 29, 15, 30, 31, 32, 33, 34, 35, 36, 37, 38, 39, 40, 41, 42, 43, 44, 45, 46, 47, 48, 49] (by decide +kernel) (by decide +kernel)) (goodIn_sub (fun _ h => List.mem_cons_of_mem _ (List.mem_append_left _ (List.mem_append_right _ h))) (by decide +kernel))) (goodIn_sub (fun _ h => List.mem_cons_of_mem _ (List.mem_append_right _ h)) (by decide +kernel))
set_option maxRecDepth 20000 in
theorem gX7_requirePlan_X7_requireWater : GoodIn wsX7_requirePlan (wsV RX7 150 RX7 yX7_requireWater wsX7_requireWater) := goodIn_app (goodIn_of _ (by decide +kernel)) ggX7_requirePlan_X7_requireWater
theorem dX7_requirePlan_0 : decode cX7_requirePlan 0 = .ok (.aload_n 0, 1) := by decide +kernel
theorem dX7_requirePlan_1 : decode cX7_requirePlan 1 = .ok (.iload_n 1, 1) := by decide +kernel
theorem dX7_requirePlan_2 : decode cX7_requirePlan 2 = .ok (.invokevirtual 144, 3) := by decide +kernel
theorem dX7_requirePlan_5 : decode cX7_requirePlan 5 = .ok (.iload_n 2, 1) := by decide +kernel
theorem dX7_requirePlan_6 : decode cX7_requirePlan 6 = .ok (.invokestatic 406, 3) := by decide +kernel
theorem dX7_requirePlan_9 : decode cX7_requirePlan 9 = .ok (.ifCond .eq 13, 3) := by decide +kernel
theorem dX7_requirePlan_12 : decode cX7_requirePlan 12 = .ok (.iload_n 3, 1) := by decide +kernel
theorem dX7_requirePlan_13 : decode cX7_requirePlan 13 = .ok (.ifCond .lt 9, 3) := by decide +kernel
theorem dX7_requirePlan_16 : decode cX7_requirePlan 16 = .ok (.iload_n 3, 1) := by decide +kernel
theorem dX7_requirePlan_17 : decode cX7_requirePlan 17 = .ok (.bipush 99, 2) := by decide +kernel
theorem dX7_requirePlan_19 : decode cX7_requirePlan 19 = .ok (.if_icmp .le 14, 3) := by decide +kernel
theorem dX7_requirePlan_22 : decode cX7_requirePlan 22 = .ok (.new 227, 3) := by decide +kernel
theorem dX7_requirePlan_25 : decode cX7_requirePlan 25 = .ok (.dup, 1) := by decide +kernel
theorem dX7_requirePlan_26 : decode cX7_requirePlan 26 = .ok (.ldc_w 409, 3) := by decide +kernel
theorem dX7_requirePlan_29 : decode cX7_requirePlan 29 = .ok (.invokespecial 231, 3) := by decide +kernel
theorem dX7_requirePlan_32 : decode cX7_requirePlan 32 = .ok (.athrow, 1) := by decide +kernel
theorem dX7_requirePlan_33 : decode cX7_requirePlan 33 = .ok (.aload_n 0, 1) := by decide +kernel
theorem dX7_requirePlan_34 : decode cX7_requirePlan 34 = .ok (.iload_n 1, 1) := by decide +kernel
theorem dX7_requirePlan_35 : decode cX7_requirePlan 35 = .ok (.invokevirtual 150, 3) := by decide +kernel
theorem dX7_requirePlan_38 : decode cX7_requirePlan 38 = .ok (.return_, 1) := by decide +kernel
theorem dX7_requireLitres_0 : decode cX7_requireLitres 0 = .ok (.iload_n 0, 1) := by decide +kernel
theorem dX7_requireLitres_1 : decode cX7_requireLitres 1 = .ok (.iconst (-1), 1) := by decide +kernel
theorem dX7_requireLitres_2 : decode cX7_requireLitres 2 = .ok (.if_icmp .ne 14, 3) := by decide +kernel
theorem dX7_requireLitres_5 : decode cX7_requireLitres 5 = .ok (.new 392, 3) := by decide +kernel
theorem dX7_requireLitres_8 : decode cX7_requireLitres 8 = .ok (.dup, 1) := by decide +kernel
theorem dX7_requireLitres_9 : decode cX7_requireLitres 9 = .ok (.ldc_w 411, 3) := by decide +kernel
theorem dX7_requireLitres_12 : decode cX7_requireLitres 12 = .ok (.invokespecial 396, 3) := by decide +kernel
theorem dX7_requireLitres_15 : decode cX7_requireLitres 15 = .ok (.athrow, 1) := by decide +kernel
theorem dX7_requireLitres_16 : decode cX7_requireLitres 16 = .ok (.iload_n 0, 1) := by decide +kernel
theorem dX7_requireLitres_17 : decode cX7_requireLitres 17 = .ok (.ireturn, 1) := by decide +kernel
theorem dX7_isTap_0 : decode cX7_isTap 0 = .ok (.iload_n 0, 1) := by decide +kernel
theorem dX7_isTap_1 : decode cX7_isTap 1 = .ok (.ifCond .lt 12, 3) := by decide +kernel
theorem dX7_isTap_4 : decode cX7_isTap 4 = .ok (.iload_n 0, 1) := by decide +kernel
theorem dX7_isTap_5 : decode cX7_isTap 5 = .ok (.iconst 2, 1) := by decide +kernel
theorem dX7_isTap_6 : decode cX7_isTap 6 = .ok (.if_icmp .gt 7, 3) := by decide +kernel
theorem dX7_isTap_9 : decode cX7_isTap 9 = .ok (.iconst 1, 1) := by decide +kernel
theorem dX7_isTap_10 : decode cX7_isTap 10 = .ok (.goto 4, 3) := by decide +kernel
theorem dX7_isTap_13 : decode cX7_isTap 13 = .ok (.iconst 0, 1) := by decide +kernel
theorem dX7_isTap_14 : decode cX7_isTap 14 = .ok (.ireturn, 1) := by decide +kernel
theorem dX7_roundedDegrees_0 : decode cX7_roundedDegrees 0 = .ok (.iload_n 1, 1) := by decide +kernel
theorem dX7_roundedDegrees_1 : decode cX7_roundedDegrees 1 = .ok (.ifCond .le 9, 3) := by decide +kernel
theorem dX7_roundedDegrees_4 : decode cX7_roundedDegrees 4 = .ok (.iload_n 0, 1) := by decide +kernel
theorem dX7_roundedDegrees_5 : decode cX7_roundedDegrees 5 = .ok (.iload_n 1, 1) := by decide +kernel
theorem dX7_roundedDegrees_6 : decode cX7_roundedDegrees 6 = .ok (.idiv, 1) := by decide +kernel
theorem dX7_roundedDegrees_7 : decode cX7_roundedDegrees 7 = .ok (.goto 4, 3) := by decide +kernel
theorem dX7_roundedDegrees_10 : decode cX7_roundedDegrees 10 = .ok (.iconst 0, 1) := by decide +kernel
theorem dX7_roundedDegrees_11 : decode cX7_roundedDegrees 11 = .ok (.ireturn, 1) := by decide +kernel
set_option maxRecDepth 20000 in
theorem ggX7_litresByTrying_X7_roundedDegrees : GoodIn wsX7_litresByTrying wsX7_roundedDegrees := goodIn_ca (goodIn_r _ [5] (by decide +kernel) (by decide +kernel)) (goodIn_sub (fun _ h => List.mem_cons_of_mem _ (List.mem_append_right _ h)) (by decide +kernel))
set_option maxRecDepth 20000 in
theorem gX7_litresByTrying_X7_roundedDegrees : GoodIn wsX7_litresByTrying (va_wsS RX7 416 yX7_roundedDegrees wsX7_roundedDegrees) := goodIn_app (goodIn_of _ (by decide +kernel)) ggX7_litresByTrying_X7_roundedDegrees
theorem dX7_litresByTrying_0 : decode cX7_litresByTrying 0 = .ok (.iconst 0, 1) := by decide +kernel
theorem dX7_litresByTrying_1 : decode cX7_litresByTrying 1 = .ok (.istore 4, 2) := by decide +kernel
theorem dX7_litresByTrying_3 : decode cX7_litresByTrying 3 = .ok (.iload 4, 2) := by decide +kernel
theorem dX7_litresByTrying_5 : decode cX7_litresByTrying 5 = .ok (.bipush 100, 2) := by decide +kernel
theorem dX7_litresByTrying_7 : decode cX7_litresByTrying 7 = .ok (.iload_n 0, 1) := by decide +kernel
theorem dX7_litresByTrying_8 : decode cX7_litresByTrying 8 = .ok (.isub, 1) := by decide +kernel
theorem dX7_litresByTrying_9 : decode cX7_litresByTrying 9 = .ok (.if_icmp .gt 50, 3) := by decide +kernel
theorem dX7_litresByTrying_12 : decode cX7_litresByTrying 12 = .ok (.iload_n 1, 1) := by decide +kernel
theorem dX7_litresByTrying_13 : decode cX7_litresByTrying 13 = .ok (.iload 4, 2) := by decide +kernel
theorem dX7_litresByTrying_15 : decode cX7_litresByTrying 15 = .ok (.getstatic 413, 3) := by decide +kernel
theorem dX7_litresByTrying_18 : decode cX7_litresByTrying 18 = .ok (.iload_n 2, 1) := by decide +kernel
theorem dX7_litresByTrying_19 : decode cX7_litresByTrying 19 = .ok (.iaload, 1) := by decide +kernel
theorem dX7_litresByTrying_20 : decode cX7_litresByTrying 20 = .ok (.imul, 1) := by decide +kernel
theorem dX7_litresByTrying_21 : decode cX7_litresByTrying 21 = .ok (.iadd, 1) := by decide +kernel
theorem dX7_litresByTrying_22 : decode cX7_litresByTrying 22 = .ok (.iload_n 0, 1) := by decide +kernel
theorem dX7_litresByTrying_23 : decode cX7_litresByTrying 23 = .ok (.iload 4, 2) := by decide +kernel
theorem dX7_litresByTrying_25 : decode cX7_litresByTrying 25 = .ok (.iadd, 1) := by decide +kernel
theorem dX7_litresByTrying_26 : decode cX7_litresByTrying 26 = .ok (.invokestatic 416, 3) := by decide +kernel
theorem dX7_litresByTrying_29 : decode cX7_litresByTrying 29 = .ok (.istore 5, 2) := by decide +kernel
theorem dX7_litresByTrying_31 : decode cX7_litresByTrying 31 = .ok (.iload_n 2, 1) := by decide +kernel
theorem dX7_litresByTrying_32 : decode cX7_litresByTrying 32 = .ok (.ifCond .ne 12, 3) := by decide +kernel
theorem dX7_litresByTrying_35 : decode cX7_litresByTrying 35 = .ok (.iload 5, 2) := by decide +kernel
theorem dX7_litresByTrying_37 : decode cX7_litresByTrying 37 = .ok (.iload_n 3, 1) := by decide +kernel
theorem dX7_litresByTrying_38 : decode cX7_litresByTrying 38 = .ok (.if_icmp .gt 15, 3) := by decide +kernel
theorem dX7_litresByTrying_41 : decode cX7_litresByTrying 41 = .ok (.goto 9, 3) := by decide +kernel
theorem dX7_litresByTrying_44 : decode cX7_litresByTrying 44 = .ok (.iload 5, 2) := by decide +kernel
theorem dX7_litresByTrying_46 : decode cX7_litresByTrying 46 = .ok (.iload_n 3, 1) := by decide +kernel
theorem dX7_litresByTrying_47 : decode cX7_litresByTrying 47 = .ok (.if_icmp .lt 6, 3) := by decide +kernel
theorem dX7_litresByTrying_50 : decode cX7_litresByTrying 50 = .ok (.iload 4, 2) := by decide +kernel
theorem dX7_litresByTrying_52 : decode cX7_litresByTrying 52 = .ok (.ireturn, 1) := by decide +kernel
theorem dX7_litresByTrying_53 : decode cX7_litresByTrying 53 = .ok (.iinc 4 1, 3) := by decide +kernel
theorem dX7_litresByTrying_56 : decode cX7_litresByTrying 56 = .ok (.goto (-53), 3) := by decide +kernel
theorem dX7_litresByTrying_59 : decode cX7_litresByTrying 59 = .ok (.iconst (-1), 1) := by decide +kernel
theorem dX7_litresByTrying_60 : decode cX7_litresByTrying 60 = .ok (.ireturn, 1) := by decide +kernel
set_option maxRecDepth 20000 in
theorem ggX7_litresByFormula_X7_litresToCool : GoodIn wsX7_litresByFormula wsX7_litresToCool := goodIn_ca (goodIn_r _ [5] (by decide +kernel) (by decide +kernel)) (goodIn_sub (fun _ h => List.mem_cons_of_mem _ (List.mem_append_right _ h)) (by decide +kernel))
set_option maxRecDepth 20000 in
theorem gX7_litresByFormula_X7_litresToCool : GoodIn wsX7_litresByFormula (va_wsS RX7 419 yX7_litresToCool wsX7_litresToCool) := goodIn_app (goodIn_of _ (by decide +kernel)) ggX7_litresByFormula_X7_litresToCool
set_option maxRecDepth 20000 in
theorem ggX7_litresByFormula_X7_litresToWarm : GoodIn wsX7_litresByFormula wsX7_litresToWarm := goodIn_ca (goodIn_r _ [8] (by decide +kernel) (by decide +kernel)) (goodIn_sub (fun _ h => List.mem_cons_of_mem _ (List.mem_append_right _ h)) (by decide +kernel))
set_option maxRecDepth 20000 in
theorem gX7_litresByFormula_X7_litresToWarm : GoodIn wsX7_litresByFormula (va_wsS RX7 422 yX7_litresToWarm wsX7_litresToWarm) := goodIn_app (goodIn_of _ (by decide +kernel)) ggX7_litresByFormula_X7_litresToWarm
theorem dX7_litresByFormula_0 : decode cX7_litresByFormula 0 = .ok (.iload_n 2, 1) := by decide +kernel
theorem dX7_litresByFormula_1 : decode cX7_litresByFormula 1 = .ok (.ifCond .ne 25, 3) := by decide +kernel
theorem dX7_litresByFormula_4 : decode cX7_litresByFormula 4 = .ok (.iload_n 1, 1) := by decide +kernel
theorem dX7_litresByFormula_5 : decode cX7_litresByFormula 5 = .ok (.iload_n 3, 1) := by decide +kernel
theorem dX7_litresByFormula_6 : decode cX7_litresByFormula 6 = .ok (.iconst 1, 1) := by decide +kernel
theorem dX7_litresByFormula_7 : decode cX7_litresByFormula 7 = .ok (.iadd, 1) := by decide +kernel
theorem dX7_litresByFormula_8 : decode cX7_litresByFormula 8 = .ok (.iload_n 0, 1) := by decide +kernel
theorem dX7_litresByFormula_9 : decode cX7_litresByFormula 9 = .ok (.imul, 1) := by decide +kernel
theorem dX7_litresByFormula_10 : decode cX7_litresByFormula 10 = .ok (.isub, 1) := by decide +kernel
theorem dX7_litresByFormula_11 : decode cX7_litresByFormula 11 = .ok (.iload_n 3, 1) := by decide +kernel
theorem dX7_litresByFormula_12 : decode cX7_litresByFormula 12 = .ok (.iconst 1, 1) := by decide +kernel
theorem dX7_litresByFormula_13 : decode cX7_litresByFormula 13 = .ok (.iadd, 1) := by decide +kernel
theorem dX7_litresByFormula_14 : decode cX7_litresByFormula 14 = .ok (.getstatic 413, 3) := by decide +kernel
theorem dX7_litresByFormula_17 : decode cX7_litresByFormula 17 = .ok (.iload_n 2, 1) := by decide +kernel
theorem dX7_litresByFormula_18 : decode cX7_litresByFormula 18 = .ok (.iaload, 1) := by decide +kernel
theorem dX7_litresByFormula_19 : decode cX7_litresByFormula 19 = .ok (.isub, 1) := by decide +kernel
theorem dX7_litresByFormula_20 : decode cX7_litresByFormula 20 = .ok (.invokestatic 419, 3) := by decide +kernel
theorem dX7_litresByFormula_23 : decode cX7_litresByFormula 23 = .ok (.goto 18, 3) := by decide +kernel
theorem dX7_litresByFormula_26 : decode cX7_litresByFormula 26 = .ok (.iload_n 3, 1) := by decide +kernel
theorem dX7_litresByFormula_27 : decode cX7_litresByFormula 27 = .ok (.iload_n 0, 1) := by decide +kernel
theorem dX7_litresByFormula_28 : decode cX7_litresByFormula 28 = .ok (.imul, 1) := by decide +kernel
theorem dX7_litresByFormula_29 : decode cX7_litresByFormula 29 = .ok (.iload_n 1, 1) := by decide +kernel
theorem dX7_litresByFormula_30 : decode cX7_litresByFormula 30 = .ok (.isub, 1) := by decide +kernel
theorem dX7_litresByFormula_31 : decode cX7_litresByFormula 31 = .ok (.getstatic 413, 3) := by decide +kernel
theorem dX7_litresByFormula_34 : decode cX7_litresByFormula 34 = .ok (.iload_n 2, 1) := by decide +kernel
theorem dX7_litresByFormula_35 : decode cX7_litresByFormula 35 = .ok (.iaload, 1) := by decide +kernel
theorem dX7_litresByFormula_36 : decode cX7_litresByFormula 36 = .ok (.iload_n 3, 1) := by decide +kernel
theorem dX7_litresByFormula_37 : decode cX7_litresByFormula 37 = .ok (.isub, 1) := by decide +kernel
theorem dX7_litresByFormula_38 : decode cX7_litresByFormula 38 = .ok (.invokestatic 422, 3) := by decide +kernel
theorem dX7_litresByFormula_41 : decode cX7_litresByFormula 41 = .ok (.istore 4, 2) := by decide +kernel
theorem dX7_litresByFormula_43 : decode cX7_litresByFormula 43 = .ok (.iload 4, 2) := by decide +kernel
theorem dX7_litresByFormula_45 : decode cX7_litresByFormula 45 = .ok (.bipush 100, 2) := by decide +kernel
theorem dX7_litresByFormula_47 : decode cX7_litresByFormula 47 = .ok (.iload_n 0, 1) := by decide +kernel
theorem dX7_litresByFormula_48 : decode cX7_litresByFormula 48 = .ok (.isub, 1) := by decide +kernel
theorem dX7_litresByFormula_49 : decode cX7_litresByFormula 49 = .ok (.if_icmp .gt 8, 3) := by decide +kernel
theorem dX7_litresByFormula_52 : decode cX7_litresByFormula 52 = .ok (.iload 4, 2) := by decide +kernel
theorem dX7_litresByFormula_54 : decode cX7_litresByFormula 54 = .ok (.goto 4, 3) := by decide +kernel
theorem dX7_litresByFormula_57 : decode cX7_litresByFormula 57 = .ok (.iconst (-1), 1) := by decide +kernel
theorem dX7_litresByFormula_58 : decode cX7_litresByFormula 58 = .ok (.ireturn, 1) := by decide +kernel
theorem dX7_litresToCool_0 : decode cX7_litresToCool 0 = .ok (.iload_n 0, 1) := by decide +kernel
theorem dX7_litresToCool_1 : decode cX7_litresToCool 1 = .ok (.ifCond .ge 5, 3) := by decide +kernel
theorem dX7_litresToCool_4 : decode cX7_litresToCool 4 = .ok (.iconst 0, 1) := by decide +kernel
theorem dX7_litresToCool_5 : decode cX7_litresToCool 5 = .ok (.ireturn, 1) := by decide +kernel
theorem dX7_litresToCool_6 : decode cX7_litresToCool 6 = .ok (.iload_n 1, 1) := by decide +kernel
theorem dX7_litresToCool_7 : decode cX7_litresToCool 7 = .ok (.ifCond .le 11, 3) := by decide +kernel
theorem dX7_litresToCool_10 : decode cX7_litresToCool 10 = .ok (.iload_n 0, 1) := by decide +kernel
theorem dX7_litresToCool_11 : decode cX7_litresToCool 11 = .ok (.iload_n 1, 1) := by decide +kernel
theorem dX7_litresToCool_12 : decode cX7_litresToCool 12 = .ok (.idiv, 1) := by decide +kernel
theorem dX7_litresToCool_13 : decode cX7_litresToCool 13 = .ok (.iconst 1, 1) := by decide +kernel
theorem dX7_litresToCool_14 : decode cX7_litresToCool 14 = .ok (.iadd, 1) := by decide +kernel
theorem dX7_litresToCool_15 : decode cX7_litresToCool 15 = .ok (.goto 4, 3) := by decide +kernel
theorem dX7_litresToCool_18 : decode cX7_litresToCool 18 = .ok (.iconst (-1), 1) := by decide +kernel
theorem dX7_litresToCool_19 : decode cX7_litresToCool 19 = .ok (.ireturn, 1) := by decide +kernel
theorem dX7_litresToWarm_0 : decode cX7_litresToWarm 0 = .ok (.iload_n 0, 1) := by decide +kernel
theorem dX7_litresToWarm_1 : decode cX7_litresToWarm 1 = .ok (.ifCond .gt 5, 3) := by decide +kernel
theorem dX7_litresToWarm_4 : decode cX7_litresToWarm 4 = .ok (.iconst 0, 1) := by decide +kernel
theorem dX7_litresToWarm_5 : decode cX7_litresToWarm 5 = .ok (.ireturn, 1) := by decide +kernel
theorem dX7_litresToWarm_6 : decode cX7_litresToWarm 6 = .ok (.iload_n 1, 1) := by decide +kernel
theorem dX7_litresToWarm_7 : decode cX7_litresToWarm 7 = .ok (.ifCond .le 13, 3) := by decide +kernel
theorem dX7_litresToWarm_10 : decode cX7_litresToWarm 10 = .ok (.iload_n 0, 1) := by decide +kernel
theorem dX7_litresToWarm_11 : decode cX7_litresToWarm 11 = .ok (.iload_n 1, 1) := by decide +kernel
theorem dX7_litresToWarm_12 : decode cX7_litresToWarm 12 = .ok (.iadd, 1) := by decide +kernel
theorem dX7_litresToWarm_13 : decode cX7_litresToWarm 13 = .ok (.iconst 1, 1) := by decide +kernel
theorem dX7_litresToWarm_14 : decode cX7_litresToWarm 14 = .ok (.isub, 1) := by decide +kernel
theorem dX7_litresToWarm_15 : decode cX7_litresToWarm 15 = .ok (.iload_n 1, 1) := by decide +kernel
theorem dX7_litresToWarm_16 : decode cX7_litresToWarm 16 = .ok (.idiv, 1) := by decide +kernel
theorem dX7_litresToWarm_17 : decode cX7_litresToWarm 17 = .ok (.goto 4, 3) := by decide +kernel
theorem dX7_litresToWarm_20 : decode cX7_litresToWarm 20 = .ok (.iconst (-1), 1) := by decide +kernel
theorem dX7_litresToWarm_21 : decode cX7_litresToWarm 21 = .ok (.ireturn, 1) := by decide +kernel
set_option maxRecDepth 20000 in
theorem ggX7_commandFault_X5_placeBathFault : GoodIn wsX7_commandFault wsX5_placeBathFault := goodIn_r _ [11, 12, 13, 85, 86, 87, 88, 89, 90, 91, 92, 93] (by decide +kernel) (by decide +kernel)
set_option maxRecDepth 20000 in
theorem gX7_commandFault_X5_placeBathFault : GoodIn wsX7_commandFault (wsV RX7 54 RX5 yX5_placeBathFault wsX5_placeBathFault) := goodIn_app (goodIn_of _ (by decide +kernel)) ggX7_commandFault_X5_placeBathFault
set_option maxRecDepth 20000 in
theorem ggX7_commandFault_X5_fillFault : GoodIn wsX7_commandFault wsX5_fillFault := goodIn_ca (goodIn_r _ [17, 12, 18, 19, 20, 21, 22, 23, 24, 25, 26, 27, 85, 86, 87, 88, 89, 90, 91, 92, 93] (by decide +kernel) (by decide +kernel)) (goodIn_sub (fun _ h => List.mem_cons_of_mem _ (List.mem_append_left _ (List.mem_append_right _ h))) (by decide +kernel))
set_option maxRecDepth 20000 in
theorem gX7_commandFault_X5_fillFault : GoodIn wsX7_commandFault (wsV RX7 69 RX5 yX5_fillFault wsX5_fillFault) := goodIn_app (goodIn_of _ (by decide +kernel)) ggX7_commandFault_X5_fillFault
set_option maxRecDepth 20000 in
theorem ggX7_commandFault_X5_plugFault : GoodIn wsX7_commandFault wsX5_plugFault := goodIn_r _ [31, 12, 19, 20, 21, 22, 23, 24, 85, 86, 87, 88, 89, 90, 91, 92, 93] (by decide +kernel) (by decide +kernel)
set_option maxRecDepth 20000 in
theorem gX7_commandFault_X5_plugFault : GoodIn wsX7_commandFault (wsV RX7 87 RX5 yX5_plugFault wsX5_plugFault) := goodIn_app (goodIn_of _ (by decide +kernel)) ggX7_commandFault_X5_plugFault
set_option maxRecDepth 20000 in
theorem ggX7_commandFault_X5_transferFault : GoodIn wsX7_commandFault wsX5_transferFault := goodIn_ca (goodIn_r _ [35, 12, 18, 19, 20, 21, 22, 23, 24, 85, 86, 87, 88, 89, 90, 91, 92, 93] (by decide +kernel) (by decide +kernel)) (goodIn_sub (fun _ h => List.mem_cons_of_mem _ (List.mem_append_left _ (List.mem_append_right _ h))) (by decide +kernel))
set_option maxRecDepth 20000 in
theorem gX7_commandFault_X5_transferFault : GoodIn wsX7_commandFault (wsV RX7 99 RX5 yX5_transferFault wsX5_transferFault) := goodIn_app (goodIn_of _ (by decide +kernel)) ggX7_commandFault_X5_transferFault
set_option maxRecDepth 20000 in
theorem ggX7_commandFault_X5_placeDuckFault : GoodIn wsX7_commandFault wsX5_placeDuckFault := goodIn_r _ [39, 12, 40, 41, 19, 20, 21, 22, 23, 24, 85, 86, 87, 88, 94, 95, 96, 97, 98, 99, 89, 90, 91, 92, 93] (by decide +kernel) (by decide +kernel)
set_option maxRecDepth 20000 in
theorem gX7_commandFault_X5_placeDuckFault : GoodIn wsX7_commandFault (wsV RX7 105 RX5 yX5_placeDuckFault wsX5_placeDuckFault) := goodIn_app (goodIn_of _ (by decide +kernel)) ggX7_commandFault_X5_placeDuckFault
set_option maxRecDepth 20000 in
theorem ggX7_commandFault_X5_admitFault : GoodIn wsX7_commandFault wsX5_admitFault := goodIn_ca (goodIn_ca (goodIn_r _ [45, 12, 46, 19, 20, 21, 22, 23, 24, 47, 48, 49, 50, 51, 52, 53, 26, 54, 55, 56, 57, 58, 85, 86, 87, 88, 89, 90, 91, 92, 93] (by decide +kernel) (by decide +kernel)) (goodIn_sub (fun _ h => List.mem_cons_of_mem _ (List.mem_append_left _ (List.mem_append_right _ h))) (by decide +kernel))) (goodIn_sub (fun _ h => List.mem_cons_of_mem _ (List.mem_append_right _ h)) (by decide +kernel))
set_option maxRecDepth 20000 in
theorem gX7_commandFault_X5_admitFault : GoodIn wsX7_commandFault (wsV RX7 111 RX5 yX5_admitFault wsX5_admitFault) := goodIn_app (goodIn_of _ (by decide +kernel)) ggX7_commandFault_X5_admitFault
set_option maxRecDepth 20000 in
theorem ggX7_commandFault_X5_dismissFault : GoodIn wsX7_commandFault wsX5_dismissFault := goodIn_ca (goodIn_r _ [62, 12, 46, 19, 20, 21, 22, 23, 24, 85, 86, 87, 88, 89, 90, 91, 92, 93] (by decide +kernel) (by decide +kernel)) (goodIn_sub (fun _ h => List.mem_cons_of_mem _ (List.mem_append_left _ (List.mem_append_right _ h))) (by decide +kernel))
set_option maxRecDepth 20000 in
theorem gX7_commandFault_X5_dismissFault : GoodIn wsX7_commandFault (wsV RX7 120 RX5 yX5_dismissFault wsX5_dismissFault) := goodIn_app (goodIn_of _ (by decide +kernel)) ggX7_commandFault_X5_dismissFault
set_option maxRecDepth 20000 in
theorem ggX7_commandFault_X5_passTicksFault : GoodIn wsX7_commandFault wsX5_passTicksFault := goodIn_r _ [66] (by decide +kernel) (by decide +kernel)
set_option maxRecDepth 20000 in
theorem gX7_commandFault_X5_passTicksFault : GoodIn wsX7_commandFault (wsV RX7 126 RX5 yX5_passTicksFault wsX5_passTicksFault) := goodIn_app (goodIn_of _ (by decide +kernel)) ggX7_commandFault_X5_passTicksFault
theorem dX7_commandFault_0 : decode cX7_commandFault 0 = .ok (.aload_n 0, 1) := by decide +kernel
theorem dX7_commandFault_1 : decode cX7_commandFault 1 = .ok (.getfield 36, 3) := by decide +kernel
theorem dX7_commandFault_4 : decode cX7_commandFault 4 = .ok (.getfield 425, 3) := by decide +kernel
theorem dX7_commandFault_7 : decode cX7_commandFault 7 = .ok (.iload_n 1, 1) := by decide +kernel
theorem dX7_commandFault_8 : decode cX7_commandFault 8 = .ok (.iaload, 1) := by decide +kernel
theorem dX7_commandFault_9 : decode cX7_commandFault 9 = .ok (.istore_n 2, 1) := by decide +kernel
theorem dX7_commandFault_10 : decode cX7_commandFault 10 = .ok (.aload_n 0, 1) := by decide +kernel
theorem dX7_commandFault_11 : decode cX7_commandFault 11 = .ok (.getfield 36, 3) := by decide +kernel
theorem dX7_commandFault_14 : decode cX7_commandFault 14 = .ok (.getfield 428, 3) := by decide +kernel
theorem dX7_commandFault_17 : decode cX7_commandFault 17 = .ok (.iload_n 1, 1) := by decide +kernel
theorem dX7_commandFault_18 : decode cX7_commandFault 18 = .ok (.iaload, 1) := by decide +kernel
theorem dX7_commandFault_19 : decode cX7_commandFault 19 = .ok (.istore_n 3, 1) := by decide +kernel
theorem dX7_commandFault_20 : decode cX7_commandFault 20 = .ok (.aload_n 0, 1) := by decide +kernel
theorem dX7_commandFault_21 : decode cX7_commandFault 21 = .ok (.getfield 36, 3) := by decide +kernel
theorem dX7_commandFault_24 : decode cX7_commandFault 24 = .ok (.getfield 431, 3) := by decide +kernel
theorem dX7_commandFault_27 : decode cX7_commandFault 27 = .ok (.iload_n 1, 1) := by decide +kernel
theorem dX7_commandFault_28 : decode cX7_commandFault 28 = .ok (.iaload, 1) := by decide +kernel
theorem dX7_commandFault_29 : decode cX7_commandFault 29 = .ok (.istore 4, 2) := by decide +kernel
theorem dX7_commandFault_31 : decode cX7_commandFault 31 = .ok (.aload_n 0, 1) := by decide +kernel
theorem dX7_commandFault_32 : decode cX7_commandFault 32 = .ok (.getfield 36, 3) := by decide +kernel
theorem dX7_commandFault_35 : decode cX7_commandFault 35 = .ok (.getfield 434, 3) := by decide +kernel
theorem dX7_commandFault_38 : decode cX7_commandFault 38 = .ok (.iload_n 1, 1) := by decide +kernel
theorem dX7_commandFault_39 : decode cX7_commandFault 39 = .ok (.iaload, 1) := by decide +kernel
theorem dX7_commandFault_40 : decode cX7_commandFault 40 = .ok (.tableswitch 115 0 6 #[44, 52, 64, 73, 85, 97, 106], 44) := by decide +kernel
theorem dX7_commandFault_84 : decode cX7_commandFault 84 = .ok (.aload_n 0, 1) := by decide +kernel
theorem dX7_commandFault_85 : decode cX7_commandFault 85 = .ok (.getfield 16, 3) := by decide +kernel
theorem dX7_commandFault_88 : decode cX7_commandFault 88 = .ok (.invokevirtual 54, 3) := by decide +kernel
theorem dX7_commandFault_91 : decode cX7_commandFault 91 = .ok (.ireturn, 1) := by decide +kernel
theorem dX7_commandFault_92 : decode cX7_commandFault 92 = .ok (.aload_n 0, 1) := by decide +kernel
theorem dX7_commandFault_93 : decode cX7_commandFault 93 = .ok (.getfield 16, 3) := by decide +kernel
theorem dX7_commandFault_96 : decode cX7_commandFault 96 = .ok (.iload_n 2, 1) := by decide +kernel
theorem dX7_commandFault_97 : decode cX7_commandFault 97 = .ok (.iload_n 3, 1) := by decide +kernel
theorem dX7_commandFault_98 : decode cX7_commandFault 98 = .ok (.iload 4, 2) := by decide +kernel
theorem dX7_commandFault_100 : decode cX7_commandFault 100 = .ok (.invokevirtual 69, 3) := by decide +kernel
theorem dX7_commandFault_103 : decode cX7_commandFault 103 = .ok (.ireturn, 1) := by decide +kernel
theorem dX7_commandFault_104 : decode cX7_commandFault 104 = .ok (.aload_n 0, 1) := by decide +kernel
theorem dX7_commandFault_105 : decode cX7_commandFault 105 = .ok (.getfield 16, 3) := by decide +kernel
theorem dX7_commandFault_108 : decode cX7_commandFault 108 = .ok (.iload_n 2, 1) := by decide +kernel
theorem dX7_commandFault_109 : decode cX7_commandFault 109 = .ok (.invokevirtual 87, 3) := by decide +kernel
theorem dX7_commandFault_112 : decode cX7_commandFault 112 = .ok (.ireturn, 1) := by decide +kernel
theorem dX7_commandFault_113 : decode cX7_commandFault 113 = .ok (.aload_n 0, 1) := by decide +kernel
theorem dX7_commandFault_114 : decode cX7_commandFault 114 = .ok (.getfield 16, 3) := by decide +kernel
theorem dX7_commandFault_117 : decode cX7_commandFault 117 = .ok (.iload_n 2, 1) := by decide +kernel
theorem dX7_commandFault_118 : decode cX7_commandFault 118 = .ok (.iload_n 3, 1) := by decide +kernel
theorem dX7_commandFault_119 : decode cX7_commandFault 119 = .ok (.iload 4, 2) := by decide +kernel
theorem dX7_commandFault_121 : decode cX7_commandFault 121 = .ok (.invokevirtual 99, 3) := by decide +kernel
theorem dX7_commandFault_124 : decode cX7_commandFault 124 = .ok (.ireturn, 1) := by decide +kernel
theorem dX7_commandFault_125 : decode cX7_commandFault 125 = .ok (.aload_n 0, 1) := by decide +kernel
theorem dX7_commandFault_126 : decode cX7_commandFault 126 = .ok (.getfield 16, 3) := by decide +kernel
theorem dX7_commandFault_129 : decode cX7_commandFault 129 = .ok (.iload_n 2, 1) := by decide +kernel
theorem dX7_commandFault_130 : decode cX7_commandFault 130 = .ok (.iload_n 3, 1) := by decide +kernel
theorem dX7_commandFault_131 : decode cX7_commandFault 131 = .ok (.iload 4, 2) := by decide +kernel
theorem dX7_commandFault_133 : decode cX7_commandFault 133 = .ok (.invokevirtual 105, 3) := by decide +kernel
theorem dX7_commandFault_136 : decode cX7_commandFault 136 = .ok (.ireturn, 1) := by decide +kernel
theorem dX7_commandFault_137 : decode cX7_commandFault 137 = .ok (.aload_n 0, 1) := by decide +kernel
theorem dX7_commandFault_138 : decode cX7_commandFault 138 = .ok (.getfield 16, 3) := by decide +kernel
theorem dX7_commandFault_141 : decode cX7_commandFault 141 = .ok (.iload_n 2, 1) := by decide +kernel
theorem dX7_commandFault_142 : decode cX7_commandFault 142 = .ok (.invokevirtual 111, 3) := by decide +kernel
theorem dX7_commandFault_145 : decode cX7_commandFault 145 = .ok (.ireturn, 1) := by decide +kernel
theorem dX7_commandFault_146 : decode cX7_commandFault 146 = .ok (.aload_n 0, 1) := by decide +kernel
theorem dX7_commandFault_147 : decode cX7_commandFault 147 = .ok (.getfield 16, 3) := by decide +kernel
theorem dX7_commandFault_150 : decode cX7_commandFault 150 = .ok (.iload_n 2, 1) := by decide +kernel
theorem dX7_commandFault_151 : decode cX7_commandFault 151 = .ok (.invokevirtual 120, 3) := by decide +kernel
theorem dX7_commandFault_154 : decode cX7_commandFault 154 = .ok (.ireturn, 1) := by decide +kernel
theorem dX7_commandFault_155 : decode cX7_commandFault 155 = .ok (.aload_n 0, 1) := by decide +kernel
theorem dX7_commandFault_156 : decode cX7_commandFault 156 = .ok (.getfield 16, 3) := by decide +kernel
theorem dX7_commandFault_159 : decode cX7_commandFault 159 = .ok (.iload_n 2, 1) := by decide +kernel
theorem dX7_commandFault_160 : decode cX7_commandFault 160 = .ok (.invokevirtual 126, 3) := by decide +kernel
theorem dX7_commandFault_163 : decode cX7_commandFault 163 = .ok (.ireturn, 1) := by decide +kernel
set_option maxRecDepth 20000 in
theorem ggX7_perform_X5_placeBath : GoodIn wsX7_perform wsX5_placeBath := goodIn_ca (goodIn_r _ [11, 12, 13, 14, 177, 178, 179, 180, 181, 182, 183, 184, 185] (by decide +kernel) (by decide +kernel)) (goodIn_sub (fun _ h => List.mem_cons_of_mem _ (List.mem_append_left _ (List.mem_append_right _ h))) (by decide +kernel))
set_option maxRecDepth 20000 in
theorem gX7_perform_X5_placeBath : GoodIn wsX7_perform (wsV RX7 66 RX5 yX5_placeBath wsX5_placeBath) := goodIn_app (goodIn_of _ (by decide +kernel)) ggX7_perform_X5_placeBath
set_option maxRecDepth 20000 in
theorem ggX7_perform_X5_fill : GoodIn wsX7_perform wsX5_fill := goodIn_ca (goodIn_ca (goodIn_r _ [18, 12, 19, 20, 21, 22, 23, 24, 25, 26, 27, 28, 29, 30, 31, 32, 33, 34, 35, 36, 37, 38, 39, 40, 41, 42, 43, 44, 45, 46, 47, 48, 49, 50, 51, 52, 53, 54, 55, 56, 57, 58, 59, 60, 61, 62, 63, 64, 177, 178, 179, 180, 181, 182, 183, 184, 185, 186, 187, 188, 189, 190, 191, 192, 193, 194, 195, 196, 197, 198, 199, 200, 201] (by decide +kernel) (by decide +kernel)) (goodIn_sub (fun _ h => List.mem_cons_of_mem _ (List.mem_append_left _ (List.mem_append_right _ h))) (by decide +kernel))) (goodIn_sub (fun _ h => List.mem_cons_of_mem _ (List.mem_append_right _ h)) (by decide +kernel))
set_option maxRecDepth 20000 in
theorem gX7_perform_X5_fill : GoodIn wsX7_perform (wsV RX7 73 RX5 yX5_fill wsX5_fill) := goodIn_app (goodIn_of _ (by decide +kernel)) ggX7_perform_X5_fill
set_option maxRecDepth 20000 in
theorem ggX7_perform_X5_plug : GoodIn wsX7_perform wsX5_plug := goodIn_ca (goodIn_r _ [68, 12, 14, 177, 178, 179, 180, 181, 182, 183, 184, 185] (by decide +kernel) (by decide +kernel)) (goodIn_sub (fun _ h => List.mem_cons_of_mem _ (List.mem_append_left _ (List.mem_append_right _ h))) (by decide +kernel))
set_option maxRecDepth 20000 in
theorem gX7_perform_X5_plug : GoodIn wsX7_perform (wsV RX7 95 RX5 yX5_plug wsX5_plug) := goodIn_app (goodIn_of _ (by decide +kernel)) ggX7_perform_X5_plug
set_option maxRecDepth 20000 in
theorem ggX7_perform_X5_transfer : GoodIn wsX7_perform wsX5_transfer := goodIn_ca (goodIn_ca (goodIn_r _ [72, 12, 19, 20, 24, 25, 73, 74, 75, 62, 76, 77, 64, 78, 60, 61, 63, 26, 27, 28, 29, 30, 31, 32, 33, 34, 35, 36, 37, 38, 39, 40, 41, 42, 43, 44, 45, 46, 47, 48, 49, 50, 51, 52, 53, 54, 55, 56, 57, 58, 59, 177, 178, 179, 180, 181, 182, 183, 184, 185, 192, 193, 194, 195, 196, 197, 198, 199, 200, 201] (by decide +kernel) (by decide +kernel)) (goodIn_sub (fun _ h => List.mem_cons_of_mem _ (List.mem_append_left _ (List.mem_append_right _ h))) (by decide +kernel))) (goodIn_sub (fun _ h => List.mem_cons_of_mem _ (List.mem_append_right _ h)) (by decide +kernel))
set_option maxRecDepth 20000 in
theorem gX7_perform_X5_transfer : GoodIn wsX7_perform (wsV RX7 102 RX5 yX5_transfer wsX5_transfer) := goodIn_app (goodIn_of _ (by decide +kernel)) ggX7_perform_X5_transfer
set_option maxRecDepth 20000 in
theorem ggX7_perform_X5_placeDuck : GoodIn wsX7_perform wsX5_placeDuck := goodIn_ca (goodIn_ca (goodIn_r _ [82, 25, 83, 84, 85, 86, 87, 12, 88, 48, 49, 42, 50, 51, 52, 53, 54, 55, 56, 57, 58, 59, 60, 61, 62, 63, 64, 177, 178, 179, 180, 196, 197, 198, 199, 200, 201, 181, 182, 183, 184, 185] (by decide +kernel) (by decide +kernel)) (goodIn_sub (fun _ h => List.mem_cons_of_mem _ (List.mem_append_left _ (List.mem_append_right _ h))) (by decide +kernel))) (goodIn_sub (fun _ h => List.mem_cons_of_mem _ (List.mem_append_right _ h)) (by decide +kernel))
set_option maxRecDepth 20000 in
theorem gX7_perform_X5_placeDuck : GoodIn wsX7_perform (wsV RX7 108 RX5 yX5_placeDuck wsX5_placeDuck) := goodIn_app (goodIn_of _ (by decide +kernel)) ggX7_perform_X5_placeDuck
set_option maxRecDepth 20000 in
theorem ggX7_perform_X5_admit : GoodIn wsX7_perform wsX5_admit := goodIn_ca (goodIn_r _ [92, 12, 93, 24, 26, 27, 28, 29, 30, 31, 32, 33, 34, 35, 36, 37, 38, 177, 178, 179, 180, 181, 182, 183, 184, 185, 192, 193, 194, 195] (by decide +kernel) (by decide +kernel)) (goodIn_sub (fun _ h => List.mem_cons_of_mem _ (List.mem_append_left _ (List.mem_append_right _ h))) (by decide +kernel))
set_option maxRecDepth 20000 in
theorem gX7_perform_X5_admit : GoodIn wsX7_perform (wsV RX7 114 RX5 yX5_admit wsX5_admit) := goodIn_app (goodIn_of _ (by decide +kernel)) ggX7_perform_X5_admit
set_option maxRecDepth 20000 in
theorem ggX7_perform_X5_dismiss : GoodIn wsX7_perform wsX5_dismiss := goodIn_ca (goodIn_r _ [97, 12, 93, 24, 26, 27, 28, 29, 30, 31, 32, 33, 34, 35, 36, 37, 38, 177, 178, 179, 180, 181, 182, 183, 184, 185, 192, 193, 194, 195] (by decide +kernel) (by decide +kernel)) (goodIn_sub (fun _ h => List.mem_cons_of_mem _ (List.mem_append_left _ (List.mem_append_right _ h))) (by decide +kernel))
set_option maxRecDepth 20000 in
theorem gX7_perform_X5_dismiss : GoodIn wsX7_perform (wsV RX7 123 RX5 yX5_dismiss wsX5_dismiss) := goodIn_app (goodIn_of _ (by decide +kernel)) ggX7_perform_X5_dismiss
set_option maxRecDepth 20000 in
theorem ggX7_perform_X5_passTicks : GoodIn wsX7_perform wsX5_passTicks := goodIn_ca (goodIn_ca (goodIn_r _ [101, 102, 103, 104, 10, 105, 12, 21, 106, 25, 107, 108, 109, 110, 13, 20, 19, 111, 112, 60, 61, 62, 63, 64, 113, 114, 115, 116, 14, 117, 36, 37, 38, 118, 73, 74, 75, 76, 77, 78, 119, 120, 121, 122, 123, 124, 125, 126, 127, 128, 129, 130, 131, 132, 133, 134, 135, 136, 137, 138, 139, 140, 141, 142, 143, 144, 145, 146, 147, 148, 149, 150, 151, 152, 153, 93, 154, 24, 155, 156, 157, 158, 56, 57, 58, 26, 27, 28, 29, 30, 31, 32, 33, 34, 35, 39, 40, 41, 42, 43, 44, 45, 46, 47, 48, 49, 50, 51, 52, 53, 54, 55, 59, 177, 178, 179, 180, 186, 187, 188, 189, 190, 191, 181, 182, 183, 184, 185, 192, 193, 194, 195, 196, 197, 198, 199, 200, 201] (by decide +kernel) (by decide +kernel)) (goodIn_sub (fun _ h => List.mem_cons_of_mem _ (List.mem_append_left _ (List.mem_append_right _ h))) (by decide +kernel))) (goodIn_sub (fun _ h => List.mem_cons_of_mem _ (List.mem_append_right _ h)) (by decide +kernel))
set_option maxRecDepth 20000 in
theorem gX7_perform_X5_passTicks : GoodIn wsX7_perform (wsV RX7 138 RX5 yX5_passTicks wsX5_passTicks) := goodIn_app (goodIn_of _ (by decide +kernel)) ggX7_perform_X5_passTicks
theorem dX7_perform_0 : decode cX7_perform 0 = .ok (.aload_n 0, 1) := by decide +kernel
theorem dX7_perform_1 : decode cX7_perform 1 = .ok (.getfield 36, 3) := by decide +kernel
theorem dX7_perform_4 : decode cX7_perform 4 = .ok (.getfield 425, 3) := by decide +kernel
theorem dX7_perform_7 : decode cX7_perform 7 = .ok (.iload_n 1, 1) := by decide +kernel
theorem dX7_perform_8 : decode cX7_perform 8 = .ok (.iaload, 1) := by decide +kernel
theorem dX7_perform_9 : decode cX7_perform 9 = .ok (.istore_n 2, 1) := by decide +kernel
theorem dX7_perform_10 : decode cX7_perform 10 = .ok (.aload_n 0, 1) := by decide +kernel
theorem dX7_perform_11 : decode cX7_perform 11 = .ok (.getfield 36, 3) := by decide +kernel
theorem dX7_perform_14 : decode cX7_perform 14 = .ok (.getfield 428, 3) := by decide +kernel
theorem dX7_perform_17 : decode cX7_perform 17 = .ok (.iload_n 1, 1) := by decide +kernel
theorem dX7_perform_18 : decode cX7_perform 18 = .ok (.iaload, 1) := by decide +kernel
theorem dX7_perform_19 : decode cX7_perform 19 = .ok (.istore_n 3, 1) := by decide +kernel
theorem dX7_perform_20 : decode cX7_perform 20 = .ok (.aload_n 0, 1) := by decide +kernel
theorem dX7_perform_21 : decode cX7_perform 21 = .ok (.getfield 36, 3) := by decide +kernel
theorem dX7_perform_24 : decode cX7_perform 24 = .ok (.getfield 431, 3) := by decide +kernel
theorem dX7_perform_27 : decode cX7_perform 27 = .ok (.iload_n 1, 1) := by decide +kernel
theorem dX7_perform_28 : decode cX7_perform 28 = .ok (.iaload, 1) := by decide +kernel
theorem dX7_perform_29 : decode cX7_perform 29 = .ok (.istore 4, 2) := by decide +kernel
theorem dX7_perform_31 : decode cX7_perform 31 = .ok (.aload_n 0, 1) := by decide +kernel
theorem dX7_perform_32 : decode cX7_perform 32 = .ok (.getfield 36, 3) := by decide +kernel
theorem dX7_perform_35 : decode cX7_perform 35 = .ok (.getfield 434, 3) := by decide +kernel
theorem dX7_perform_38 : decode cX7_perform 38 = .ok (.iload_n 1, 1) := by decide +kernel
theorem dX7_perform_39 : decode cX7_perform 39 = .ok (.iaload, 1) := by decide +kernel
theorem dX7_perform_40 : decode cX7_perform 40 = .ok (.tableswitch 142 0 6 #[44, 55, 69, 90, 105, 120, 131], 44) := by decide +kernel
theorem dX7_perform_84 : decode cX7_perform 84 = .ok (.aload_n 0, 1) := by decide +kernel
theorem dX7_perform_85 : decode cX7_perform 85 = .ok (.getfield 16, 3) := by decide +kernel
theorem dX7_perform_88 : decode cX7_perform 88 = .ok (.invokevirtual 66, 3) := by decide +kernel
theorem dX7_perform_91 : decode cX7_perform 91 = .ok (.pop, 1) := by decide +kernel
theorem dX7_perform_92 : decode cX7_perform 92 = .ok (.goto 98, 3) := by decide +kernel
theorem dX7_perform_95 : decode cX7_perform 95 = .ok (.aload_n 0, 1) := by decide +kernel
theorem dX7_perform_96 : decode cX7_perform 96 = .ok (.getfield 16, 3) := by decide +kernel
theorem dX7_perform_99 : decode cX7_perform 99 = .ok (.iload_n 2, 1) := by decide +kernel
theorem dX7_perform_100 : decode cX7_perform 100 = .ok (.iload_n 3, 1) := by decide +kernel
theorem dX7_perform_101 : decode cX7_perform 101 = .ok (.iload 4, 2) := by decide +kernel
theorem dX7_perform_103 : decode cX7_perform 103 = .ok (.invokevirtual 73, 3) := by decide +kernel
theorem dX7_perform_106 : decode cX7_perform 106 = .ok (.goto 84, 3) := by decide +kernel
theorem dX7_perform_109 : decode cX7_perform 109 = .ok (.aload_n 0, 1) := by decide +kernel
theorem dX7_perform_110 : decode cX7_perform 110 = .ok (.getfield 16, 3) := by decide +kernel
theorem dX7_perform_113 : decode cX7_perform 113 = .ok (.iload_n 2, 1) := by decide +kernel
theorem dX7_perform_114 : decode cX7_perform 114 = .ok (.iload_n 3, 1) := by decide +kernel
theorem dX7_perform_115 : decode cX7_perform 115 = .ok (.iconst 1, 1) := by decide +kernel
theorem dX7_perform_116 : decode cX7_perform 116 = .ok (.if_icmp .ne 7, 3) := by decide +kernel
theorem dX7_perform_119 : decode cX7_perform 119 = .ok (.iconst 1, 1) := by decide +kernel
theorem dX7_perform_120 : decode cX7_perform 120 = .ok (.goto 4, 3) := by decide +kernel
theorem dX7_perform_123 : decode cX7_perform 123 = .ok (.iconst 0, 1) := by decide +kernel
theorem dX7_perform_124 : decode cX7_perform 124 = .ok (.invokevirtual 95, 3) := by decide +kernel
theorem dX7_perform_127 : decode cX7_perform 127 = .ok (.goto 63, 3) := by decide +kernel
theorem dX7_perform_130 : decode cX7_perform 130 = .ok (.aload_n 0, 1) := by decide +kernel
theorem dX7_perform_131 : decode cX7_perform 131 = .ok (.getfield 16, 3) := by decide +kernel
theorem dX7_perform_134 : decode cX7_perform 134 = .ok (.iload_n 2, 1) := by decide +kernel
theorem dX7_perform_135 : decode cX7_perform 135 = .ok (.iload_n 3, 1) := by decide +kernel
theorem dX7_perform_136 : decode cX7_perform 136 = .ok (.iload 4, 2) := by decide +kernel
theorem dX7_perform_138 : decode cX7_perform 138 = .ok (.invokevirtual 102, 3) := by decide +kernel
theorem dX7_perform_141 : decode cX7_perform 141 = .ok (.pop, 1) := by decide +kernel
theorem dX7_perform_142 : decode cX7_perform 142 = .ok (.goto 48, 3) := by decide +kernel
theorem dX7_perform_145 : decode cX7_perform 145 = .ok (.aload_n 0, 1) := by decide +kernel
theorem dX7_perform_146 : decode cX7_perform 146 = .ok (.getfield 16, 3) := by decide +kernel
theorem dX7_perform_149 : decode cX7_perform 149 = .ok (.iload_n 2, 1) := by decide +kernel
theorem dX7_perform_150 : decode cX7_perform 150 = .ok (.iload_n 3, 1) := by decide +kernel
theorem dX7_perform_151 : decode cX7_perform 151 = .ok (.iload 4, 2) := by decide +kernel
theorem dX7_perform_153 : decode cX7_perform 153 = .ok (.invokevirtual 108, 3) := by decide +kernel
theorem dX7_perform_156 : decode cX7_perform 156 = .ok (.pop, 1) := by decide +kernel
theorem dX7_perform_157 : decode cX7_perform 157 = .ok (.goto 33, 3) := by decide +kernel
theorem dX7_perform_160 : decode cX7_perform 160 = .ok (.aload_n 0, 1) := by decide +kernel
theorem dX7_perform_161 : decode cX7_perform 161 = .ok (.getfield 16, 3) := by decide +kernel
theorem dX7_perform_164 : decode cX7_perform 164 = .ok (.iload_n 2, 1) := by decide +kernel
theorem dX7_perform_165 : decode cX7_perform 165 = .ok (.invokevirtual 114, 3) := by decide +kernel
theorem dX7_perform_168 : decode cX7_perform 168 = .ok (.goto 22, 3) := by decide +kernel
theorem dX7_perform_171 : decode cX7_perform 171 = .ok (.aload_n 0, 1) := by decide +kernel
theorem dX7_perform_172 : decode cX7_perform 172 = .ok (.getfield 16, 3) := by decide +kernel
theorem dX7_perform_175 : decode cX7_perform 175 = .ok (.iload_n 2, 1) := by decide +kernel
theorem dX7_perform_176 : decode cX7_perform 176 = .ok (.invokevirtual 123, 3) := by decide +kernel
theorem dX7_perform_179 : decode cX7_perform 179 = .ok (.goto 11, 3) := by decide +kernel
theorem dX7_perform_182 : decode cX7_perform 182 = .ok (.aload_n 0, 1) := by decide +kernel
theorem dX7_perform_183 : decode cX7_perform 183 = .ok (.getfield 16, 3) := by decide +kernel
theorem dX7_perform_186 : decode cX7_perform 186 = .ok (.iload_n 2, 1) := by decide +kernel
theorem dX7_perform_187 : decode cX7_perform 187 = .ok (.invokevirtual 138, 3) := by decide +kernel
theorem dX7_perform_190 : decode cX7_perform 190 = .ok (.return_, 1) := by decide +kernel
