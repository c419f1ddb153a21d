/-! the rows of the law -/
set_option maxRecDepth 20000 in
theorem ggL_addBath_X7_addBath : GoodIn wsL_addBath wsX7_addBath := goodIn_ca (goodIn_ca (goodIn_ca (goodIn_ca (goodIn_ca (goodIn_ca (goodIn_r _ [6, 7, 8, 9, 10, 11, 12, 13, 14, 15, 16, 17, 5, 18, 19, 20, 21, 22, 23, 24, 25, 26, 27, 28, 29, 30, 31, 32, 33, 34, 35, 36, 37, 38, 39, 40, 41, 42, 43, 44, 45, 46, 47, 48, 49, 50, 51, 52, 53, 54, 55, 56, 57, 58, 59, 60, 61, 62, 63, 64, 65, 66, 67, 68, 69, 70, 71, 72, 73, 74, 75, 76, 77, 78, 79, 80, 81, 82, 83, 84, 85, 86, 87, 88, 89, 90, 91, 92, 93, 94, 95, 96, 97, 98, 99, 100, 101, 102, 103, 104, 105, 106, 107, 108, 109, 110, 111, 112, 113, 114, 115, 116, 117, 118, 119, 120, 121, 122, 123, 124, 125, 126, 127, 128, 129, 130] (by decide +kernel) (by decide +kernel)) (goodIn_sub (fun _ h => List.mem_cons_of_mem _ (List.mem_append_left _ (List.mem_append_left _ (List.mem_append_left _ (List.mem_append_left _ (List.mem_append_right _ h)))))) (by decide +kernel))) (goodIn_sub (fun _ h => List.mem_cons_of_mem _ (List.mem_append_left _ (List.mem_append_left _ (List.mem_append_left _ (List.mem_append_right _ h))))) (by decide +kernel))) (goodIn_sub (fun _ h => List.mem_cons_of_mem _ (List.mem_append_left _ (List.mem_append_left _ (List.mem_append_right _ h)))) (by decide +kernel))) (goodIn_sub (fun _ h => List.mem_cons_of_mem _ (List.mem_append_left _ (List.mem_append_right _ h))) (by decide +kernel))) (goodIn_sub (fun _ h => List.mem_cons_of_mem _ (List.mem_append_right _ h)) (by decide +kernel))) (goodIn_sub (fun _ h => List.mem_cons_of_mem _ (List.mem_append_left _ (List.mem_append_left _ (List.mem_append_left _ (List.mem_append_left _ (List.mem_append_left _ (List.mem_append_right _ h))))))) (by decide +kernel))
set_option maxRecDepth 20000 in
theorem gL_addBath_X7_addBath : GoodIn wsL_addBath (wsV RL 7 RX7 yX7_addBath wsX7_addBath) := goodIn_app (goodIn_of _ (by decide +kernel)) ggL_addBath_X7_addBath
theorem dL_addBath_0 : decode cL_addBath 0 = .ok (.aload_n 1, 1) := by decide +kernel
theorem dL_addBath_1 : decode cL_addBath 1 = .ok (.iconst 0, 1) := by decide +kernel
theorem dL_addBath_2 : decode cL_addBath 2 = .ok (.aload_n 0, 1) := by decide +kernel
theorem dL_addBath_3 : decode cL_addBath 3 = .ok (.invokevirtual 7, 3) := by decide +kernel
theorem dL_addBath_6 : decode cL_addBath 6 = .ok (.i2l, 1) := by decide +kernel
theorem dL_addBath_7 : decode cL_addBath 7 = .ok (.lastore, 1) := by decide +kernel
theorem dL_addBath_8 : decode cL_addBath 8 = .ok (.goto 6, 3) := by decide +kernel
theorem dL_addBath_11 : decode cL_addBath 11 = .ok (.astore_n 2, 1) := by decide +kernel
theorem dL_addBath_12 : decode cL_addBath 12 = .ok (.iconst 1, 1) := by decide +kernel
theorem dL_addBath_13 : decode cL_addBath 13 = .ok (.ireturn, 1) := by decide +kernel
theorem dL_addBath_14 : decode cL_addBath 14 = .ok (.iconst 0, 1) := by decide +kernel
theorem dL_addBath_15 : decode cL_addBath 15 = .ok (.ireturn, 1) := by decide +kernel
set_option maxRecDepth 20000 in
theorem ggL_runTap_X7_runTap : GoodIn wsL_runTap wsX7_runTap := goodIn_ca (goodIn_ca (goodIn_ca (goodIn_ca (goodIn_ca (goodIn_ca (goodIn_ca (goodIn_r _ [6, 7, 8, 9, 10, 11, 12, 13, 14, 15, 16, 17, 18, 19, 20, 21, 22, 23, 24, 5, 25, 26, 27, 28, 29, 30, 31, 32, 33, 34, 35, 36, 37, 38, 39, 40, 41, 42, 43, 44, 45, 46, 47, 48, 49, 50, 51, 52, 53, 54, 55, 56, 57, 58, 59, 60, 61, 62, 63, 64, 65, 66, 67, 68, 69, 70, 71, 72, 73, 74, 75, 76, 77, 78, 79, 80, 81, 82, 83, 84, 85, 86, 87, 88, 89, 90, 91, 92, 93, 94, 95, 96, 97, 98, 99, 100, 101, 102, 103, 104, 105, 106, 107, 108, 109, 110, 111, 112, 113, 114, 115, 116, 117, 118, 119, 120, 121, 122, 123, 124, 125, 126, 127, 128, 129, 130, 131, 132, 133, 134, 135, 136, 137, 138, 139, 140, 141, 142, 143, 144, 145, 146, 147, 148, 149, 150, 151, 152, 153, 154, 155, 156, 157, 158, 159, 160, 161] (by decide +kernel) (by decide +kernel)) (goodIn_sub (fun _ h => List.mem_cons_of_mem _ (List.mem_append_left _ (List.mem_append_left _ (List.mem_append_left _ (List.mem_append_left _ (List.mem_append_left _ (List.mem_append_left _ (List.mem_append_right _ h)))))))) (by decide +kernel))) (goodIn_sub (fun _ h => List.mem_cons_of_mem _ (List.mem_append_left _ (List.mem_append_left _ (List.mem_append_left _ (List.mem_append_left _ (List.mem_append_left _ (List.mem_append_right _ h))))))) (by decide +kernel))) (goodIn_sub (fun _ h => List.mem_cons_of_mem _ (List.mem_append_left _ (List.mem_append_left _ (List.mem_append_left _ (List.mem_append_left _ (List.mem_append_right _ h)))))) (by decide +kernel))) (goodIn_sub (fun _ h => List.mem_cons_of_mem _ (List.mem_append_left _ (List.mem_append_left _ (List.mem_append_left _ (List.mem_append_right _ h))))) (by decide +kernel))) (goodIn_sub (fun _ h => List.mem_cons_of_mem _ (List.mem_append_left _ (List.mem_append_left _ (List.mem_append_right _ h)))) (by decide +kernel))) (goodIn_sub (fun _ h => List.mem_cons_of_mem _ (List.mem_append_left _ (List.mem_append_right _ h))) (by decide +kernel))) (goodIn_sub (fun _ h => List.mem_cons_of_mem _ (List.mem_append_right _ h)) (by decide +kernel))
set_option maxRecDepth 20000 in
theorem gL_runTap_X7_runTap : GoodIn wsL_runTap (wsV RL 15 RX7 yX7_runTap wsX7_runTap) := goodIn_app (goodIn_of _ (by decide +kernel)) ggL_runTap_X7_runTap
theorem dL_runTap_0 : decode cL_runTap 0 = .ok (.aload 4, 2) := by decide +kernel
theorem dL_runTap_2 : decode cL_runTap 2 = .ok (.iconst 0, 1) := by decide +kernel
theorem dL_runTap_3 : decode cL_runTap 3 = .ok (.aload_n 0, 1) := by decide +kernel
theorem dL_runTap_4 : decode cL_runTap 4 = .ok (.iload_n 1, 1) := by decide +kernel
theorem dL_runTap_5 : decode cL_runTap 5 = .ok (.iload_n 2, 1) := by decide +kernel
theorem dL_runTap_6 : decode cL_runTap 6 = .ok (.iload_n 3, 1) := by decide +kernel
theorem dL_runTap_7 : decode cL_runTap 7 = .ok (.invokevirtual 15, 3) := by decide +kernel
theorem dL_runTap_10 : decode cL_runTap 10 = .ok (.i2l, 1) := by decide +kernel
theorem dL_runTap_11 : decode cL_runTap 11 = .ok (.lastore, 1) := by decide +kernel
theorem dL_runTap_12 : decode cL_runTap 12 = .ok (.goto 15, 3) := by decide +kernel
theorem dL_runTap_15 : decode cL_runTap 15 = .ok (.astore 5, 2) := by decide +kernel
theorem dL_runTap_17 : decode cL_runTap 17 = .ok (.iconst 1, 1) := by decide +kernel
theorem dL_runTap_18 : decode cL_runTap 18 = .ok (.ireturn, 1) := by decide +kernel
theorem dL_runTap_19 : decode cL_runTap 19 = .ok (.astore 5, 2) := by decide +kernel
theorem dL_runTap_21 : decode cL_runTap 21 = .ok (.iconst 2, 1) := by decide +kernel
theorem dL_runTap_22 : decode cL_runTap 22 = .ok (.ireturn, 1) := by decide +kernel
theorem dL_runTap_23 : decode cL_runTap 23 = .ok (.astore 5, 2) := by decide +kernel
theorem dL_runTap_25 : decode cL_runTap 25 = .ok (.iconst 3, 1) := by decide +kernel
theorem dL_runTap_26 : decode cL_runTap 26 = .ok (.ireturn, 1) := by decide +kernel
theorem dL_runTap_27 : decode cL_runTap 27 = .ok (.iconst 0, 1) := by decide +kernel
theorem dL_runTap_28 : decode cL_runTap 28 = .ok (.ireturn, 1) := by decide +kernel
set_option maxRecDepth 20000 in
theorem ggL_setPlug_X7_setPlug : GoodIn wsL_setPlug wsX7_setPlug := goodIn_ca (goodIn_ca (goodIn_ca (goodIn_ca (goodIn_ca (goodIn_ca (goodIn_r _ [6, 7, 8, 9, 10, 11, 12, 13, 14, 15, 16, 17, 18, 19, 20, 21, 22, 23, 24, 5, 25, 26, 27, 28, 29, 30, 31, 32, 33, 34, 35, 36, 37, 38, 39, 40, 41, 42, 43, 44, 45, 46, 47, 48, 49, 50, 51, 52, 53, 54, 55, 56, 57, 58, 59, 60, 61, 62, 63, 64, 65, 66, 67, 68, 69, 70, 71, 72, 73, 74, 75, 76, 77, 78, 79, 80, 81, 82, 83, 84, 85, 86, 87, 88, 89, 90, 91, 92, 93, 94, 95, 96, 97, 98, 99, 100, 101, 102, 103, 104, 105, 106, 107, 108, 109, 110, 111, 112, 113, 114, 115, 116, 117, 118, 119, 120, 121, 122, 123, 124, 125, 126, 127, 128, 129, 130, 131, 132, 133, 134, 135] (by decide +kernel) (by decide +kernel)) (goodIn_sub (fun _ h => List.mem_cons_of_mem _ (List.mem_append_left _ (List.mem_append_left _ (List.mem_append_left _ (List.mem_append_left _ (List.mem_append_left _ (List.mem_append_right _ h))))))) (by decide +kernel))) (goodIn_sub (fun _ h => List.mem_cons_of_mem _ (List.mem_append_left _ (List.mem_append_left _ (List.mem_append_left _ (List.mem_append_left _ (List.mem_append_right _ h)))))) (by decide +kernel))) (goodIn_sub (fun _ h => List.mem_cons_of_mem _ (List.mem_append_left _ (List.mem_append_left _ (List.mem_append_left _ (List.mem_append_right _ h))))) (by decide +kernel))) (goodIn_sub (fun _ h => List.mem_cons_of_mem _ (List.mem_append_left _ (List.mem_append_left _ (List.mem_append_right _ h)))) (by decide +kernel))) (goodIn_sub (fun _ h => List.mem_cons_of_mem _ (List.mem_append_left _ (List.mem_append_right _ h))) (by decide +kernel))) (goodIn_sub (fun _ h => List.mem_cons_of_mem _ (List.mem_append_right _ h)) (by decide +kernel))
set_option maxRecDepth 20000 in
theorem gL_setPlug_X7_setPlug : GoodIn wsL_setPlug (wsV RL 25 RX7 yX7_setPlug wsX7_setPlug) := goodIn_app (goodIn_of _ (by decide +kernel)) ggL_setPlug_X7_setPlug
theorem dL_setPlug_0 : decode cL_setPlug 0 = .ok (.aload_n 3, 1) := by decide +kernel
theorem dL_setPlug_1 : decode cL_setPlug 1 = .ok (.iconst 0, 1) := by decide +kernel
theorem dL_setPlug_2 : decode cL_setPlug 2 = .ok (.aload_n 0, 1) := by decide +kernel
theorem dL_setPlug_3 : decode cL_setPlug 3 = .ok (.iload_n 1, 1) := by decide +kernel
theorem dL_setPlug_4 : decode cL_setPlug 4 = .ok (.iload_n 2, 1) := by decide +kernel
theorem dL_setPlug_5 : decode cL_setPlug 5 = .ok (.invokevirtual 25, 3) := by decide +kernel
theorem dL_setPlug_8 : decode cL_setPlug 8 = .ok (.ifCond .eq 7, 3) := by decide +kernel
theorem dL_setPlug_11 : decode cL_setPlug 11 = .ok (.lconst 1, 1) := by decide +kernel
theorem dL_setPlug_12 : decode cL_setPlug 12 = .ok (.goto 4, 3) := by decide +kernel
theorem dL_setPlug_15 : decode cL_setPlug 15 = .ok (.lconst 0, 1) := by decide +kernel
theorem dL_setPlug_16 : decode cL_setPlug 16 = .ok (.lastore, 1) := by decide +kernel
theorem dL_setPlug_17 : decode cL_setPlug 17 = .ok (.goto 7, 3) := by decide +kernel
theorem dL_setPlug_20 : decode cL_setPlug 20 = .ok (.astore 4, 2) := by decide +kernel
theorem dL_setPlug_22 : decode cL_setPlug 22 = .ok (.iconst 1, 1) := by decide +kernel
theorem dL_setPlug_23 : decode cL_setPlug 23 = .ok (.ireturn, 1) := by decide +kernel
theorem dL_setPlug_24 : decode cL_setPlug 24 = .ok (.iconst 0, 1) := by decide +kernel
theorem dL_setPlug_25 : decode cL_setPlug 25 = .ok (.ireturn, 1) := by decide +kernel
set_option maxRecDepth 20000 in
theorem ggL_pour_X7_pour : GoodIn wsL_pour wsX7_pour := goodIn_ca (goodIn_ca (goodIn_ca (goodIn_ca (goodIn_ca (goodIn_ca (goodIn_ca (goodIn_r _ [6, 7, 8, 9, 10, 11, 12, 13, 14, 15, 16, 17, 18, 19, 20, 21, 22, 23, 5, 24, 25, 26, 27, 28, 29, 30, 31, 32, 33, 34, 35, 36, 37, 38, 39, 40, 41, 42, 43, 44, 45, 46, 47, 48, 49, 50, 51, 52, 53, 54, 55, 56, 57, 58, 59, 60, 61, 62, 63, 64, 65, 66, 67, 68, 69, 70, 71, 72, 73, 74, 75, 76, 77, 78, 79, 80, 81, 82, 83, 84, 85, 86, 87, 88, 89, 90, 91, 92, 93, 94, 95, 96, 97, 98, 99, 100, 101, 102, 103, 104, 105, 106, 107, 108, 109, 110, 111, 112, 113, 114, 115, 116, 117, 118, 119, 120, 121, 122, 123, 124, 125, 126, 127, 128, 129, 130, 131, 132, 133, 134, 135, 136, 137, 138, 139, 140, 141, 142, 143, 144, 145, 146, 147, 148, 149, 150, 151, 152, 153, 154, 155, 156, 157, 158, 159, 160] (by decide +kernel) (by decide +kernel)) (goodIn_sub (fun _ h => List.mem_cons_of_mem _ (List.mem_append_left _ (List.mem_append_left _ (List.mem_append_left _ (List.mem_append_left _ (List.mem_append_left _ (List.mem_append_left _ (List.mem_append_right _ h)))))))) (by decide +kernel))) (goodIn_sub (fun _ h => List.mem_cons_of_mem _ (List.mem_append_left _ (List.mem_append_left _ (List.mem_append_left _ (List.mem_append_left _ (List.mem_append_left _ (List.mem_append_right _ h))))))) (by decide +kernel))) (goodIn_sub (fun _ h => List.mem_cons_of_mem _ (List.mem_append_left _ (List.mem_append_left _ (List.mem_append_left _ (List.mem_append_left _ (List.mem_append_right _ h)))))) (by decide +kernel))) (goodIn_sub (fun _ h => List.mem_cons_of_mem _ (List.mem_append_left _ (List.mem_append_left _ (List.mem_append_left _ (List.mem_append_right _ h))))) (by decide +kernel))) (goodIn_sub (fun _ h => List.mem_cons_of_mem _ (List.mem_append_left _ (List.mem_append_left _ (List.mem_append_right _ h)))) (by decide +kernel))) (goodIn_sub (fun _ h => List.mem_cons_of_mem _ (List.mem_append_left _ (List.mem_append_right _ h))) (by decide +kernel))) (goodIn_sub (fun _ h => List.mem_cons_of_mem _ (List.mem_append_right _ h)) (by decide +kernel))
set_option maxRecDepth 20000 in
theorem gL_pour_X7_pour : GoodIn wsL_pour (wsV RL 29 RX7 yX7_pour wsX7_pour) := goodIn_app (goodIn_of _ (by decide +kernel)) ggL_pour_X7_pour
theorem dL_pour_0 : decode cL_pour 0 = .ok (.aload 4, 2) := by decide +kernel
theorem dL_pour_2 : decode cL_pour 2 = .ok (.iconst 0, 1) := by decide +kernel
theorem dL_pour_3 : decode cL_pour 3 = .ok (.aload_n 0, 1) := by decide +kernel
theorem dL_pour_4 : decode cL_pour 4 = .ok (.iload_n 1, 1) := by decide +kernel
theorem dL_pour_5 : decode cL_pour 5 = .ok (.iload_n 2, 1) := by decide +kernel
theorem dL_pour_6 : decode cL_pour 6 = .ok (.iload_n 3, 1) := by decide +kernel
theorem dL_pour_7 : decode cL_pour 7 = .ok (.invokevirtual 29, 3) := by decide +kernel
theorem dL_pour_10 : decode cL_pour 10 = .ok (.i2l, 1) := by decide +kernel
theorem dL_pour_11 : decode cL_pour 11 = .ok (.lastore, 1) := by decide +kernel
theorem dL_pour_12 : decode cL_pour 12 = .ok (.goto 19, 3) := by decide +kernel
theorem dL_pour_15 : decode cL_pour 15 = .ok (.astore 5, 2) := by decide +kernel
theorem dL_pour_17 : decode cL_pour 17 = .ok (.iconst 1, 1) := by decide +kernel
theorem dL_pour_18 : decode cL_pour 18 = .ok (.ireturn, 1) := by decide +kernel
theorem dL_pour_19 : decode cL_pour 19 = .ok (.astore 5, 2) := by decide +kernel
theorem dL_pour_21 : decode cL_pour 21 = .ok (.iconst 2, 1) := by decide +kernel
theorem dL_pour_22 : decode cL_pour 22 = .ok (.ireturn, 1) := by decide +kernel
theorem dL_pour_23 : decode cL_pour 23 = .ok (.astore 5, 2) := by decide +kernel
theorem dL_pour_25 : decode cL_pour 25 = .ok (.iconst 3, 1) := by decide +kernel
theorem dL_pour_26 : decode cL_pour 26 = .ok (.ireturn, 1) := by decide +kernel
theorem dL_pour_27 : decode cL_pour 27 = .ok (.astore 5, 2) := by decide +kernel
theorem dL_pour_29 : decode cL_pour 29 = .ok (.iconst 4, 1) := by decide +kernel
theorem dL_pour_30 : decode cL_pour 30 = .ok (.ireturn, 1) := by decide +kernel
theorem dL_pour_31 : decode cL_pour 31 = .ok (.iconst 0, 1) := by decide +kernel
theorem dL_pour_32 : decode cL_pour 32 = .ok (.ireturn, 1) := by decide +kernel
set_option maxRecDepth 20000 in
theorem ggL_addDuck_X7_addDuck : GoodIn wsL_addDuck wsX7_addDuck := goodIn_ca (goodIn_ca (goodIn_ca (goodIn_ca (goodIn_ca (goodIn_ca (goodIn_ca (goodIn_r _ [6, 7, 8, 9, 10, 11, 12, 13, 14, 15, 16, 17, 18, 19, 20, 21, 22, 23, 24, 5, 25, 26, 27, 28, 29, 30, 31, 32, 33, 34, 35, 36, 37, 38, 39, 40, 41, 42, 43, 44, 45, 46, 47, 48, 49, 50, 51, 52, 53, 54, 55, 56, 57, 58, 59, 60, 61, 62, 63, 64, 65, 66, 67, 68, 69, 70, 71, 72, 73, 74, 75, 76, 77, 78, 79, 80, 81, 82, 83, 84, 85, 86, 87, 88, 89, 90, 91, 92, 93, 94, 95, 96, 97, 98, 99, 100, 101, 102, 103, 104, 105, 106, 107, 108, 109, 110, 111, 112, 113, 114, 115, 116, 117, 118, 119, 120, 121, 122, 123, 124, 125, 126, 127, 128, 129, 130, 131, 132, 133, 134, 135, 136, 137, 138, 139, 140, 141, 142, 143, 144, 145, 146, 147, 148, 149] (by decide +kernel) (by decide +kernel)) (goodIn_sub (fun _ h => List.mem_cons_of_mem _ (List.mem_append_left _ (List.mem_append_left _ (List.mem_append_left _ (List.mem_append_left _ (List.mem_append_left _ (List.mem_append_right _ h))))))) (by decide +kernel))) (goodIn_sub (fun _ h => List.mem_cons_of_mem _ (List.mem_append_left _ (List.mem_append_left _ (List.mem_append_left _ (List.mem_append_left _ (List.mem_append_right _ h)))))) (by decide +kernel))) (goodIn_sub (fun _ h => List.mem_cons_of_mem _ (List.mem_append_left _ (List.mem_append_left _ (List.mem_append_left _ (List.mem_append_right _ h))))) (by decide +kernel))) (goodIn_sub (fun _ h => List.mem_cons_of_mem _ (List.mem_append_left _ (List.mem_append_left _ (List.mem_append_right _ h)))) (by decide +kernel))) (goodIn_sub (fun _ h => List.mem_cons_of_mem _ (List.mem_append_left _ (List.mem_append_right _ h))) (by decide +kernel))) (goodIn_sub (fun _ h => List.mem_cons_of_mem _ (List.mem_append_left _ (List.mem_append_left _ (List.mem_append_left _ (List.mem_append_left _ (List.mem_append_left _ (List.mem_append_left _ (List.mem_append_right _ h)))))))) (by decide +kernel))) (goodIn_sub (fun _ h => List.mem_cons_of_mem _ (List.mem_append_right _ h)) (by decide +kernel))
set_option maxRecDepth 20000 in
theorem gL_addDuck_X7_addDuck : GoodIn wsL_addDuck (wsV RL 34 RX7 yX7_addDuck wsX7_addDuck) := goodIn_app (goodIn_of _ (by decide +kernel)) ggL_addDuck_X7_addDuck
theorem dL_addDuck_0 : decode cL_addDuck 0 = .ok (.aload 4, 2) := by decide +kernel
theorem dL_addDuck_2 : decode cL_addDuck 2 = .ok (.iconst 0, 1) := by decide +kernel
theorem dL_addDuck_3 : decode cL_addDuck 3 = .ok (.aload_n 0, 1) := by decide +kernel
theorem dL_addDuck_4 : decode cL_addDuck 4 = .ok (.iload_n 1, 1) := by decide +kernel
theorem dL_addDuck_5 : decode cL_addDuck 5 = .ok (.iload_n 2, 1) := by decide +kernel
theorem dL_addDuck_6 : decode cL_addDuck 6 = .ok (.iload_n 3, 1) := by decide +kernel
theorem dL_addDuck_7 : decode cL_addDuck 7 = .ok (.invokevirtual 34, 3) := by decide +kernel
theorem dL_addDuck_10 : decode cL_addDuck 10 = .ok (.i2l, 1) := by decide +kernel
theorem dL_addDuck_11 : decode cL_addDuck 11 = .ok (.lastore, 1) := by decide +kernel
theorem dL_addDuck_12 : decode cL_addDuck 12 = .ok (.goto 15, 3) := by decide +kernel
theorem dL_addDuck_15 : decode cL_addDuck 15 = .ok (.astore 5, 2) := by decide +kernel
theorem dL_addDuck_17 : decode cL_addDuck 17 = .ok (.iconst 1, 1) := by decide +kernel
theorem dL_addDuck_18 : decode cL_addDuck 18 = .ok (.ireturn, 1) := by decide +kernel
theorem dL_addDuck_19 : decode cL_addDuck 19 = .ok (.astore 5, 2) := by decide +kernel
theorem dL_addDuck_21 : decode cL_addDuck 21 = .ok (.iconst 2, 1) := by decide +kernel
theorem dL_addDuck_22 : decode cL_addDuck 22 = .ok (.ireturn, 1) := by decide +kernel
theorem dL_addDuck_23 : decode cL_addDuck 23 = .ok (.astore 5, 2) := by decide +kernel
theorem dL_addDuck_25 : decode cL_addDuck 25 = .ok (.iconst 3, 1) := by decide +kernel
theorem dL_addDuck_26 : decode cL_addDuck 26 = .ok (.ireturn, 1) := by decide +kernel
theorem dL_addDuck_27 : decode cL_addDuck 27 = .ok (.iconst 0, 1) := by decide +kernel
theorem dL_addDuck_28 : decode cL_addDuck 28 = .ok (.ireturn, 1) := by decide +kernel
set_option maxRecDepth 20000 in
theorem ggL_join_X7_join : GoodIn wsL_join wsX7_join := goodIn_ca (goodIn_ca (goodIn_ca (goodIn_ca (goodIn_ca (goodIn_ca (goodIn_ca (goodIn_r _ [6, 7, 8, 9, 10, 11, 12, 13, 14, 15, 16, 17, 18, 19, 20, 21, 22, 23, 24, 25, 26, 27, 28, 29, 5, 30, 31, 32, 33, 34, 35, 36, 37, 38, 39, 40, 41, 42, 43, 44, 45, 46, 47, 48, 49, 50, 51, 52, 53, 54, 55, 56, 57, 58, 59, 60, 61, 62, 63, 64, 65, 66, 67, 68, 69, 70, 71, 72, 73, 74, 75, 76, 77, 78, 79, 80, 81, 82, 83, 84, 85, 86, 87, 88, 89, 90, 91, 92, 93, 94, 95, 96, 97, 98, 99, 100, 101, 102, 103, 104, 105, 106, 107, 108, 109, 110, 111, 112, 113, 114, 115, 116, 117, 118, 119, 120, 121, 122, 123, 124, 125, 126, 127, 128, 129, 130, 131, 132, 133, 134, 135, 136, 137, 138, 139, 140, 141, 142, 143, 144, 145, 146, 147, 148, 149, 150, 151, 152, 153] (by decide +kernel) (by decide +kernel)) (goodIn_sub (fun _ h => List.mem_cons_of_mem _ (List.mem_append_left _ (List.mem_append_left _ (List.mem_append_left _ (List.mem_append_left _ (List.mem_append_left _ (List.mem_append_left _ (List.mem_append_right _ h)))))))) (by decide +kernel))) (goodIn_sub (fun _ h => List.mem_cons_of_mem _ (List.mem_append_left _ (List.mem_append_left _ (List.mem_append_left _ (List.mem_append_left _ (List.mem_append_left _ (List.mem_append_right _ h))))))) (by decide +kernel))) (goodIn_sub (fun _ h => List.mem_cons_of_mem _ (List.mem_append_left _ (List.mem_append_left _ (List.mem_append_left _ (List.mem_append_left _ (List.mem_append_right _ h)))))) (by decide +kernel))) (goodIn_sub (fun _ h => List.mem_cons_of_mem _ (List.mem_append_left _ (List.mem_append_left _ (List.mem_append_left _ (List.mem_append_right _ h))))) (by decide +kernel))) (goodIn_sub (fun _ h => List.mem_cons_of_mem _ (List.mem_append_left _ (List.mem_append_left _ (List.mem_append_right _ h)))) (by decide +kernel))) (goodIn_sub (fun _ h => List.mem_cons_of_mem _ (List.mem_append_left _ (List.mem_append_right _ h))) (by decide +kernel))) (goodIn_sub (fun _ h => List.mem_cons_of_mem _ (List.mem_append_right _ h)) (by decide +kernel))
set_option maxRecDepth 20000 in
theorem gL_join_X7_join : GoodIn wsL_join (wsV RL 37 RX7 yX7_join wsX7_join) := goodIn_app (goodIn_of _ (by decide +kernel)) ggL_join_X7_join
theorem dL_join_0 : decode cL_join 0 = .ok (.aload_n 2, 1) := by decide +kernel
theorem dL_join_1 : decode cL_join 1 = .ok (.iconst 0, 1) := by decide +kernel
theorem dL_join_2 : decode cL_join 2 = .ok (.aload_n 0, 1) := by decide +kernel
theorem dL_join_3 : decode cL_join 3 = .ok (.iload_n 1, 1) := by decide +kernel
theorem dL_join_4 : decode cL_join 4 = .ok (.invokevirtual 37, 3) := by decide +kernel
theorem dL_join_7 : decode cL_join 7 = .ok (.i2l, 1) := by decide +kernel
theorem dL_join_8 : decode cL_join 8 = .ok (.lastore, 1) := by decide +kernel
theorem dL_join_9 : decode cL_join 9 = .ok (.goto 12, 3) := by decide +kernel
theorem dL_join_12 : decode cL_join 12 = .ok (.astore_n 3, 1) := by decide +kernel
theorem dL_join_13 : decode cL_join 13 = .ok (.iconst 1, 1) := by decide +kernel
theorem dL_join_14 : decode cL_join 14 = .ok (.ireturn, 1) := by decide +kernel
theorem dL_join_15 : decode cL_join 15 = .ok (.astore_n 3, 1) := by decide +kernel
theorem dL_join_16 : decode cL_join 16 = .ok (.iconst 2, 1) := by decide +kernel
theorem dL_join_17 : decode cL_join 17 = .ok (.ireturn, 1) := by decide +kernel
theorem dL_join_18 : decode cL_join 18 = .ok (.astore_n 3, 1) := by decide +kernel
theorem dL_join_19 : decode cL_join 19 = .ok (.iconst 3, 1) := by decide +kernel
theorem dL_join_20 : decode cL_join 20 = .ok (.ireturn, 1) := by decide +kernel
theorem dL_join_21 : decode cL_join 21 = .ok (.iconst 0, 1) := by decide +kernel
theorem dL_join_22 : decode cL_join 22 = .ok (.ireturn, 1) := by decide +kernel
set_option maxRecDepth 20000 in
theorem ggL_leave_X7_leave : GoodIn wsL_leave wsX7_leave := goodIn_ca (goodIn_ca (goodIn_ca (goodIn_ca (goodIn_ca (goodIn_ca (goodIn_r _ [6, 7, 8, 9, 10, 11, 12, 13, 14, 15, 16, 17, 18, 19, 20, 21, 22, 23, 24, 5, 25, 26, 27, 28, 29, 30, 31, 32, 33, 34, 35, 36, 37, 38, 39, 40, 41, 42, 43, 44, 45, 46, 47, 48, 49, 50, 51, 52, 53, 54, 55, 56, 57, 58, 59, 60, 61, 62, 63, 64, 65, 66, 67, 68, 69, 70, 71, 72, 73, 74, 75, 76, 77, 78, 79, 80, 81, 82, 83, 84, 85, 86, 87, 88, 89, 90, 91, 92, 93, 94, 95, 96, 97, 98, 99, 100, 101, 102, 103, 104, 105, 106, 107, 108, 109, 110, 111, 112, 113, 114, 115, 116, 117, 118, 119, 120, 121, 122, 123, 124, 125, 126, 127, 128, 129, 130, 131, 132, 133, 134, 135, 136, 137, 138, 139, 140, 141, 142, 143] (by decide +kernel) (by decide +kernel)) (goodIn_sub (fun _ h => List.mem_cons_of_mem _ (List.mem_append_left _ (List.mem_append_left _ (List.mem_append_left _ (List.mem_append_left _ (List.mem_append_left _ (List.mem_append_right _ h))))))) (by decide +kernel))) (goodIn_sub (fun _ h => List.mem_cons_of_mem _ (List.mem_append_left _ (List.mem_append_left _ (List.mem_append_left _ (List.mem_append_left _ (List.mem_append_right _ h)))))) (by decide +kernel))) (goodIn_sub (fun _ h => List.mem_cons_of_mem _ (List.mem_append_left _ (List.mem_append_left _ (List.mem_append_left _ (List.mem_append_right _ h))))) (by decide +kernel))) (goodIn_sub (fun _ h => List.mem_cons_of_mem _ (List.mem_append_left _ (List.mem_append_left _ (List.mem_append_right _ h)))) (by decide +kernel))) (goodIn_sub (fun _ h => List.mem_cons_of_mem _ (List.mem_append_left _ (List.mem_append_right _ h))) (by decide +kernel))) (goodIn_sub (fun _ h => List.mem_cons_of_mem _ (List.mem_append_right _ h)) (by decide +kernel))
set_option maxRecDepth 20000 in
theorem gL_leave_X7_leave : GoodIn wsL_leave (wsV RL 41 RX7 yX7_leave wsX7_leave) := goodIn_app (goodIn_of _ (by decide +kernel)) ggL_leave_X7_leave
theorem dL_leave_0 : decode cL_leave 0 = .ok (.aload_n 2, 1) := by decide +kernel
theorem dL_leave_1 : decode cL_leave 1 = .ok (.iconst 0, 1) := by decide +kernel
theorem dL_leave_2 : decode cL_leave 2 = .ok (.aload_n 0, 1) := by decide +kernel
theorem dL_leave_3 : decode cL_leave 3 = .ok (.iload_n 1, 1) := by decide +kernel
theorem dL_leave_4 : decode cL_leave 4 = .ok (.invokevirtual 41, 3) := by decide +kernel
theorem dL_leave_7 : decode cL_leave 7 = .ok (.i2l, 1) := by decide +kernel
theorem dL_leave_8 : decode cL_leave 8 = .ok (.lastore, 1) := by decide +kernel
theorem dL_leave_9 : decode cL_leave 9 = .ok (.goto 9, 3) := by decide +kernel
theorem dL_leave_12 : decode cL_leave 12 = .ok (.astore_n 3, 1) := by decide +kernel
theorem dL_leave_13 : decode cL_leave 13 = .ok (.iconst 1, 1) := by decide +kernel
theorem dL_leave_14 : decode cL_leave 14 = .ok (.ireturn, 1) := by decide +kernel
theorem dL_leave_15 : decode cL_leave 15 = .ok (.astore_n 3, 1) := by decide +kernel
theorem dL_leave_16 : decode cL_leave 16 = .ok (.iconst 2, 1) := by decide +kernel
theorem dL_leave_17 : decode cL_leave 17 = .ok (.ireturn, 1) := by decide +kernel
theorem dL_leave_18 : decode cL_leave 18 = .ok (.iconst 0, 1) := by decide +kernel
theorem dL_leave_19 : decode cL_leave 19 = .ok (.ireturn, 1) := by decide +kernel
set_option maxRecDepth 20000 in
theorem ggL_advance_X7_advance : GoodIn wsL_advance wsX7_advance := goodIn_ca (goodIn_ca (goodIn_ca (goodIn_ca (goodIn_ca (goodIn_ca (goodIn_ca (goodIn_r _ [6, 7, 8, 9, 10, 11, 12, 13, 14, 15, 16, 17, 5, 18, 19, 20, 21, 22, 23, 24, 25, 26, 27, 28, 29, 30, 31, 32, 33, 34, 35, 36, 37, 38, 39, 40, 41, 42, 43, 44, 45, 46, 47, 48, 49, 50, 51, 52, 53, 54, 55, 56, 57, 58, 59, 60, 61, 62, 63, 64, 65, 66, 67, 68, 69, 70, 71, 72, 73, 74, 75, 76, 77, 78, 79, 80, 81, 82, 83, 84, 85, 86, 87, 88, 89, 90, 91, 92, 93, 94, 95, 96, 97, 98, 99, 100, 101, 102, 103, 104, 105, 106, 107, 108, 109, 110, 111, 112, 113, 114, 115, 116, 117, 118, 119, 120, 121, 122, 123, 124, 125, 126, 127, 128, 129, 130, 131, 132, 133, 134, 135, 136, 137, 138, 139, 140, 141, 142, 143, 144, 145, 146, 147, 148, 149, 150, 151, 152, 153, 154, 155, 156, 157, 158, 159, 160, 161, 162, 163, 164, 165, 166, 167, 168, 169, 170, 171, 172, 173, 174, 175, 176, 177, 178, 179, 180, 181, 182, 183, 184, 185, 186, 187, 188, 189, 190, 191, 192, 193, 194, 195, 196, 197, 198, 199, 200, 201, 202, 203, 204, 205, 206, 207, 208, 209, 210, 211, 212, 213, 214, 215, 216] (by decide +kernel) (by decide +kernel)) (goodIn_sub (fun _ h => List.mem_cons_of_mem _ (List.mem_append_left _ (List.mem_append_left _ (List.mem_append_left _ (List.mem_append_left _ (List.mem_append_left _ (List.mem_append_right _ h))))))) (by decide +kernel))) (goodIn_sub (fun _ h => List.mem_cons_of_mem _ (List.mem_append_left _ (List.mem_append_left _ (List.mem_append_left _ (List.mem_append_left _ (List.mem_append_right _ h)))))) (by decide +kernel))) (goodIn_sub (fun _ h => List.mem_cons_of_mem _ (List.mem_append_left _ (List.mem_append_left _ (List.mem_append_left _ (List.mem_append_right _ h))))) (by decide +kernel))) (goodIn_sub (fun _ h => List.mem_cons_of_mem _ (List.mem_append_left _ (List.mem_append_left _ (List.mem_append_right _ h)))) (by decide +kernel))) (goodIn_sub (fun _ h => List.mem_cons_of_mem _ (List.mem_append_left _ (List.mem_append_right _ h))) (by decide +kernel))) (goodIn_sub (fun _ h => List.mem_cons_of_mem _ (List.mem_append_left _ (List.mem_append_left _ (List.mem_append_left _ (List.mem_append_left _ (List.mem_append_left _ (List.mem_append_left _ (List.mem_append_right _ h)))))))) (by decide +kernel))) (goodIn_sub (fun _ h => List.mem_cons_of_mem _ (List.mem_append_right _ h)) (by decide +kernel))
set_option maxRecDepth 20000 in
theorem gL_advance_X7_advance : GoodIn wsL_advance (wsV RL 44 RX7 yX7_advance wsX7_advance) := goodIn_app (goodIn_of _ (by decide +kernel)) ggL_advance_X7_advance
theorem dL_advance_0 : decode cL_advance 0 = .ok (.aload_n 2, 1) := by decide +kernel
theorem dL_advance_1 : decode cL_advance 1 = .ok (.iconst 0, 1) := by decide +kernel
theorem dL_advance_2 : decode cL_advance 2 = .ok (.aload_n 0, 1) := by decide +kernel
theorem dL_advance_3 : decode cL_advance 3 = .ok (.iload_n 1, 1) := by decide +kernel
theorem dL_advance_4 : decode cL_advance 4 = .ok (.invokevirtual 44, 3) := by decide +kernel
theorem dL_advance_7 : decode cL_advance 7 = .ok (.i2l, 1) := by decide +kernel
theorem dL_advance_8 : decode cL_advance 8 = .ok (.lastore, 1) := by decide +kernel
theorem dL_advance_9 : decode cL_advance 9 = .ok (.goto 6, 3) := by decide +kernel
theorem dL_advance_12 : decode cL_advance 12 = .ok (.astore_n 3, 1) := by decide +kernel
theorem dL_advance_13 : decode cL_advance 13 = .ok (.iconst 1, 1) := by decide +kernel
theorem dL_advance_14 : decode cL_advance 14 = .ok (.ireturn, 1) := by decide +kernel
theorem dL_advance_15 : decode cL_advance 15 = .ok (.iconst 0, 1) := by decide +kernel
theorem dL_advance_16 : decode cL_advance 16 = .ok (.ireturn, 1) := by decide +kernel
set_option maxRecDepth 20000 in
theorem ggL_volume_X7_volume : GoodIn wsL_volume wsX7_volume := goodIn_ca (goodIn_ca (goodIn_r _ [6, 7, 8, 9, 10, 11, 12, 5, 13, 14, 15, 16, 17, 18, 19, 20, 21, 22, 23, 24, 25, 26, 27, 28, 29, 30, 31, 32, 33, 34, 35, 36, 37, 38, 39] (by decide +kernel) (by decide +kernel)) (goodIn_sub (fun _ h => List.mem_cons_of_mem _ (List.mem_append_left _ (List.mem_append_right _ h))) (by decide +kernel))) (goodIn_sub (fun _ h => List.mem_cons_of_mem _ (List.mem_append_right _ h)) (by decide +kernel))
set_option maxRecDepth 20000 in
theorem gL_volume_X7_volume : GoodIn wsL_volume (wsV RL 47 RX7 yX7_volume wsX7_volume) := goodIn_app (goodIn_of _ (by decide +kernel)) ggL_volume_X7_volume
theorem dL_volume_0 : decode cL_volume 0 = .ok (.aload_n 2, 1) := by decide +kernel
theorem dL_volume_1 : decode cL_volume 1 = .ok (.iconst 0, 1) := by decide +kernel
theorem dL_volume_2 : decode cL_volume 2 = .ok (.aload_n 0, 1) := by decide +kernel
theorem dL_volume_3 : decode cL_volume 3 = .ok (.iload_n 1, 1) := by decide +kernel
theorem dL_volume_4 : decode cL_volume 4 = .ok (.invokevirtual 47, 3) := by decide +kernel
theorem dL_volume_7 : decode cL_volume 7 = .ok (.i2l, 1) := by decide +kernel
theorem dL_volume_8 : decode cL_volume 8 = .ok (.lastore, 1) := by decide +kernel
theorem dL_volume_9 : decode cL_volume 9 = .ok (.goto 6, 3) := by decide +kernel
theorem dL_volume_12 : decode cL_volume 12 = .ok (.astore_n 3, 1) := by decide +kernel
theorem dL_volume_13 : decode cL_volume 13 = .ok (.iconst 1, 1) := by decide +kernel
theorem dL_volume_14 : decode cL_volume 14 = .ok (.ireturn, 1) := by decide +kernel
theorem dL_volume_15 : decode cL_volume 15 = .ok (.iconst 0, 1) := by decide +kernel
theorem dL_volume_16 : decode cL_volume 16 = .ok (.ireturn, 1) := by decide +kernel
set_option maxRecDepth 20000 in
theorem ggL_heat_X7_heat : GoodIn wsL_heat wsX7_heat := goodIn_ca (goodIn_ca (goodIn_r _ [6, 7, 8, 9, 10, 11, 12, 5, 13, 14, 15, 16, 17, 18, 19, 20, 21, 22, 23, 24, 25, 26, 27, 28, 29, 30, 31, 32, 33, 34, 35, 36, 37, 38, 39] (by decide +kernel) (by decide +kernel)) (goodIn_sub (fun _ h => List.mem_cons_of_mem _ (List.mem_append_left _ (List.mem_append_right _ h))) (by decide +kernel))) (goodIn_sub (fun _ h => List.mem_cons_of_mem _ (List.mem_append_right _ h)) (by decide +kernel))
set_option maxRecDepth 20000 in
theorem gL_heat_X7_heat : GoodIn wsL_heat (wsV RL 50 RX7 yX7_heat wsX7_heat) := goodIn_app (goodIn_of _ (by decide +kernel)) ggL_heat_X7_heat
theorem dL_heat_0 : decode cL_heat 0 = .ok (.aload_n 2, 1) := by decide +kernel
theorem dL_heat_1 : decode cL_heat 1 = .ok (.iconst 0, 1) := by decide +kernel
theorem dL_heat_2 : decode cL_heat 2 = .ok (.aload_n 0, 1) := by decide +kernel
theorem dL_heat_3 : decode cL_heat 3 = .ok (.iload_n 1, 1) := by decide +kernel
theorem dL_heat_4 : decode cL_heat 4 = .ok (.invokevirtual 50, 3) := by decide +kernel
theorem dL_heat_7 : decode cL_heat 7 = .ok (.i2l, 1) := by decide +kernel
theorem dL_heat_8 : decode cL_heat 8 = .ok (.lastore, 1) := by decide +kernel
theorem dL_heat_9 : decode cL_heat 9 = .ok (.goto 6, 3) := by decide +kernel
theorem dL_heat_12 : decode cL_heat 12 = .ok (.astore_n 3, 1) := by decide +kernel
theorem dL_heat_13 : decode cL_heat 13 = .ok (.iconst 1, 1) := by decide +kernel
theorem dL_heat_14 : decode cL_heat 14 = .ok (.ireturn, 1) := by decide +kernel
theorem dL_heat_15 : decode cL_heat 15 = .ok (.iconst 0, 1) := by decide +kernel
theorem dL_heat_16 : decode cL_heat 16 = .ok (.ireturn, 1) := by decide +kernel
set_option maxRecDepth 20000 in
theorem ggL_temperature_X7_temperature : GoodIn wsL_temperature wsX7_temperature := goodIn_ca (goodIn_ca (goodIn_ca (goodIn_ca (goodIn_r _ [6, 7, 8, 9, 10, 11, 5, 12, 13, 14, 15, 16, 17, 18, 19, 20, 21, 22, 23, 24, 25, 26, 27, 28, 29, 30, 31, 32, 33, 34, 35, 36, 37, 38, 39, 40, 41, 42, 43, 44, 45, 46, 47, 48, 49, 50, 51, 52, 53, 54, 55, 56] (by decide +kernel) (by decide +kernel)) (goodIn_sub (fun _ h => List.mem_cons_of_mem _ (List.mem_append_left _ (List.mem_append_left _ (List.mem_append_right _ h)))) (by decide +kernel))) (goodIn_sub (fun _ h => List.mem_cons_of_mem _ (List.mem_append_left _ (List.mem_append_right _ h))) (by decide +kernel))) (goodIn_sub (fun _ h => List.mem_cons_of_mem _ (List.mem_append_left _ (List.mem_append_left _ (List.mem_append_left _ (List.mem_append_right _ h))))) (by decide +kernel))) (goodIn_sub (fun _ h => List.mem_cons_of_mem _ (List.mem_append_right _ h)) (by decide +kernel))
set_option maxRecDepth 20000 in
theorem gL_temperature_X7_temperature : GoodIn wsL_temperature (wsV RL 53 RX7 yX7_temperature wsX7_temperature) := goodIn_app (goodIn_of _ (by decide +kernel)) ggL_temperature_X7_temperature
theorem dL_temperature_0 : decode cL_temperature 0 = .ok (.aload_n 2, 1) := by decide +kernel
theorem dL_temperature_1 : decode cL_temperature 1 = .ok (.iconst 0, 1) := by decide +kernel
theorem dL_temperature_2 : decode cL_temperature 2 = .ok (.aload_n 0, 1) := by decide +kernel
theorem dL_temperature_3 : decode cL_temperature 3 = .ok (.iload_n 1, 1) := by decide +kernel
theorem dL_temperature_4 : decode cL_temperature 4 = .ok (.invokevirtual 53, 3) := by decide +kernel
theorem dL_temperature_7 : decode cL_temperature 7 = .ok (.i2l, 1) := by decide +kernel
theorem dL_temperature_8 : decode cL_temperature 8 = .ok (.lastore, 1) := by decide +kernel
theorem dL_temperature_9 : decode cL_temperature 9 = .ok (.goto 9, 3) := by decide +kernel
theorem dL_temperature_12 : decode cL_temperature 12 = .ok (.astore_n 3, 1) := by decide +kernel
theorem dL_temperature_13 : decode cL_temperature 13 = .ok (.iconst 1, 1) := by decide +kernel
theorem dL_temperature_14 : decode cL_temperature 14 = .ok (.ireturn, 1) := by decide +kernel
theorem dL_temperature_15 : decode cL_temperature 15 = .ok (.astore_n 3, 1) := by decide +kernel
theorem dL_temperature_16 : decode cL_temperature 16 = .ok (.iconst 2, 1) := by decide +kernel
theorem dL_temperature_17 : decode cL_temperature 17 = .ok (.ireturn, 1) := by decide +kernel
theorem dL_temperature_18 : decode cL_temperature 18 = .ok (.iconst 0, 1) := by decide +kernel
theorem dL_temperature_19 : decode cL_temperature 19 = .ok (.ireturn, 1) := by decide +kernel
set_option maxRecDepth 20000 in
theorem ggL_exactTemperature_X7_exactTemperature : GoodIn wsL_exactTemperature wsX7_exactTemperature := goodIn_ca (goodIn_ca (goodIn_ca (goodIn_r _ [6, 7, 8, 9, 10, 11, 12, 13, 5, 14, 15, 16, 17, 18, 19, 20, 21, 22, 23, 24, 25, 26, 27, 28, 29, 30, 31, 32, 33, 34, 35, 36, 37, 38, 39, 40, 41, 42, 43, 44, 45, 46, 47, 48, 49, 50, 51] (by decide +kernel) (by decide +kernel)) (goodIn_sub (fun _ h => List.mem_cons_of_mem _ (List.mem_append_left _ (List.mem_append_left _ (List.mem_append_right _ h)))) (by decide +kernel))) (goodIn_sub (fun _ h => List.mem_cons_of_mem _ (List.mem_append_left _ (List.mem_append_right _ h))) (by decide +kernel))) (goodIn_sub (fun _ h => List.mem_cons_of_mem _ (List.mem_append_right _ h)) (by decide +kernel))
set_option maxRecDepth 20000 in
theorem gL_exactTemperature_X7_exactTemperature : GoodIn wsL_exactTemperature (wsV RL 56 RX7 yX7_exactTemperature wsX7_exactTemperature) := goodIn_app (goodIn_of _ (by decide +kernel)) ggL_exactTemperature_X7_exactTemperature
theorem dL_exactTemperature_0 : decode cL_exactTemperature 0 = .ok (.aload_n 2, 1) := by decide +kernel
theorem dL_exactTemperature_1 : decode cL_exactTemperature 1 = .ok (.iconst 0, 1) := by decide +kernel
theorem dL_exactTemperature_2 : decode cL_exactTemperature 2 = .ok (.aload_n 0, 1) := by decide +kernel
theorem dL_exactTemperature_3 : decode cL_exactTemperature 3 = .ok (.iload_n 1, 1) := by decide +kernel
theorem dL_exactTemperature_4 : decode cL_exactTemperature 4 = .ok (.invokevirtual 56, 3) := by decide +kernel
theorem dL_exactTemperature_7 : decode cL_exactTemperature 7 = .ok (.dastore, 1) := by decide +kernel
theorem dL_exactTemperature_8 : decode cL_exactTemperature 8 = .ok (.goto 9, 3) := by decide +kernel
theorem dL_exactTemperature_11 : decode cL_exactTemperature 11 = .ok (.astore_n 3, 1) := by decide +kernel
theorem dL_exactTemperature_12 : decode cL_exactTemperature 12 = .ok (.iconst 1, 1) := by decide +kernel
theorem dL_exactTemperature_13 : decode cL_exactTemperature 13 = .ok (.ireturn, 1) := by decide +kernel
theorem dL_exactTemperature_14 : decode cL_exactTemperature 14 = .ok (.astore_n 3, 1) := by decide +kernel
theorem dL_exactTemperature_15 : decode cL_exactTemperature 15 = .ok (.iconst 2, 1) := by decide +kernel
theorem dL_exactTemperature_16 : decode cL_exactTemperature 16 = .ok (.ireturn, 1) := by decide +kernel
theorem dL_exactTemperature_17 : decode cL_exactTemperature 17 = .ok (.iconst 0, 1) := by decide +kernel
theorem dL_exactTemperature_18 : decode cL_exactTemperature 18 = .ok (.ireturn, 1) := by decide +kernel
set_option maxRecDepth 20000 in
theorem ggL_isWarmer_X7_isWarmer : GoodIn wsL_isWarmer wsX7_isWarmer := goodIn_ca (goodIn_ca (goodIn_ca (goodIn_r _ [6, 7, 8, 9, 10, 11, 5, 12, 13, 14, 15, 16, 17, 18, 19, 20, 21, 22, 23, 24, 25, 26, 27, 28, 29, 30, 31, 32, 33, 34, 35, 36, 37, 38, 39, 40, 41, 42, 43, 44, 45, 46, 47, 48, 49, 50, 51, 52, 53, 54] (by decide +kernel) (by decide +kernel)) (goodIn_sub (fun _ h => List.mem_cons_of_mem _ (List.mem_append_left _ (List.mem_append_right _ h))) (by decide +kernel))) (goodIn_sub (fun _ h => List.mem_cons_of_mem _ (List.mem_append_right _ h)) (by decide +kernel))) (goodIn_sub (fun _ h => List.mem_cons_of_mem _ (List.mem_append_left _ (List.mem_append_left _ (List.mem_append_right _ h)))) (by decide +kernel))
set_option maxRecDepth 20000 in
theorem gL_isWarmer_X7_isWarmer : GoodIn wsL_isWarmer (wsV RL 60 RX7 yX7_isWarmer wsX7_isWarmer) := goodIn_app (goodIn_of _ (by decide +kernel)) ggL_isWarmer_X7_isWarmer
theorem dL_isWarmer_0 : decode cL_isWarmer 0 = .ok (.aload_n 3, 1) := by decide +kernel
theorem dL_isWarmer_1 : decode cL_isWarmer 1 = .ok (.iconst 0, 1) := by decide +kernel
theorem dL_isWarmer_2 : decode cL_isWarmer 2 = .ok (.aload_n 0, 1) := by decide +kernel
theorem dL_isWarmer_3 : decode cL_isWarmer 3 = .ok (.iload_n 1, 1) := by decide +kernel
theorem dL_isWarmer_4 : decode cL_isWarmer 4 = .ok (.iload_n 2, 1) := by decide +kernel
theorem dL_isWarmer_5 : decode cL_isWarmer 5 = .ok (.invokevirtual 60, 3) := by decide +kernel
theorem dL_isWarmer_8 : decode cL_isWarmer 8 = .ok (.ifCond .eq 7, 3) := by decide +kernel
theorem dL_isWarmer_11 : decode cL_isWarmer 11 = .ok (.lconst 1, 1) := by decide +kernel
theorem dL_isWarmer_12 : decode cL_isWarmer 12 = .ok (.goto 4, 3) := by decide +kernel
theorem dL_isWarmer_15 : decode cL_isWarmer 15 = .ok (.lconst 0, 1) := by decide +kernel
theorem dL_isWarmer_16 : decode cL_isWarmer 16 = .ok (.lastore, 1) := by decide +kernel
theorem dL_isWarmer_17 : decode cL_isWarmer 17 = .ok (.goto 11, 3) := by decide +kernel
theorem dL_isWarmer_20 : decode cL_isWarmer 20 = .ok (.astore 4, 2) := by decide +kernel
theorem dL_isWarmer_22 : decode cL_isWarmer 22 = .ok (.iconst 1, 1) := by decide +kernel
theorem dL_isWarmer_23 : decode cL_isWarmer 23 = .ok (.ireturn, 1) := by decide +kernel
theorem dL_isWarmer_24 : decode cL_isWarmer 24 = .ok (.astore 4, 2) := by decide +kernel
theorem dL_isWarmer_26 : decode cL_isWarmer 26 = .ok (.iconst 2, 1) := by decide +kernel
theorem dL_isWarmer_27 : decode cL_isWarmer 27 = .ok (.ireturn, 1) := by decide +kernel
theorem dL_isWarmer_28 : decode cL_isWarmer 28 = .ok (.iconst 0, 1) := by decide +kernel
theorem dL_isWarmer_29 : decode cL_isWarmer 29 = .ok (.ireturn, 1) := by decide +kernel
set_option maxRecDepth 20000 in
theorem ggL_isPlugged_X7_isPlugged : GoodIn wsL_isPlugged wsX7_isPlugged := goodIn_ca (goodIn_ca (goodIn_r _ [6, 7, 8, 9, 10, 11, 12, 5, 13, 14, 15, 16, 17, 18, 19, 20, 21, 22, 23, 24, 25, 26, 27, 28, 29, 30, 31, 32, 33, 34, 35, 36, 37, 38, 39] (by decide +kernel) (by decide +kernel)) (goodIn_sub (fun _ h => List.mem_cons_of_mem _ (List.mem_append_left _ (List.mem_append_right _ h))) (by decide +kernel))) (goodIn_sub (fun _ h => List.mem_cons_of_mem _ (List.mem_append_right _ h)) (by decide +kernel))
set_option maxRecDepth 20000 in
theorem gL_isPlugged_X7_isPlugged : GoodIn wsL_isPlugged (wsV RL 64 RX7 yX7_isPlugged wsX7_isPlugged) := goodIn_app (goodIn_of _ (by decide +kernel)) ggL_isPlugged_X7_isPlugged
theorem dL_isPlugged_0 : decode cL_isPlugged 0 = .ok (.aload_n 2, 1) := by decide +kernel
theorem dL_isPlugged_1 : decode cL_isPlugged 1 = .ok (.iconst 0, 1) := by decide +kernel
theorem dL_isPlugged_2 : decode cL_isPlugged 2 = .ok (.aload_n 0, 1) := by decide +kernel
theorem dL_isPlugged_3 : decode cL_isPlugged 3 = .ok (.iload_n 1, 1) := by decide +kernel
theorem dL_isPlugged_4 : decode cL_isPlugged 4 = .ok (.invokevirtual 64, 3) := by decide +kernel
theorem dL_isPlugged_7 : decode cL_isPlugged 7 = .ok (.ifCond .eq 7, 3) := by decide +kernel
theorem dL_isPlugged_10 : decode cL_isPlugged 10 = .ok (.lconst 1, 1) := by decide +kernel
theorem dL_isPlugged_11 : decode cL_isPlugged 11 = .ok (.goto 4, 3) := by decide +kernel
theorem dL_isPlugged_14 : decode cL_isPlugged 14 = .ok (.lconst 0, 1) := by decide +kernel
theorem dL_isPlugged_15 : decode cL_isPlugged 15 = .ok (.lastore, 1) := by decide +kernel
theorem dL_isPlugged_16 : decode cL_isPlugged 16 = .ok (.goto 6, 3) := by decide +kernel
theorem dL_isPlugged_19 : decode cL_isPlugged 19 = .ok (.astore_n 3, 1) := by decide +kernel
theorem dL_isPlugged_20 : decode cL_isPlugged 20 = .ok (.iconst 1, 1) := by decide +kernel
theorem dL_isPlugged_21 : decode cL_isPlugged 21 = .ok (.ireturn, 1) := by decide +kernel
theorem dL_isPlugged_22 : decode cL_isPlugged 22 = .ok (.iconst 0, 1) := by decide +kernel
theorem dL_isPlugged_23 : decode cL_isPlugged 23 = .ok (.ireturn, 1) := by decide +kernel
set_option maxRecDepth 20000 in
theorem ggL_bathByTemperature_X7_bathByTemperature : GoodIn wsL_bathByTemperature wsX7_bathByTemperature := goodIn_ca (goodIn_ca (goodIn_r _ [6, 7, 8, 9, 10, 11, 5, 12, 13, 14, 15, 16, 17, 18, 19, 20, 21, 22, 23, 24, 25, 26, 27, 28, 29, 30, 31, 32, 33, 34, 35, 36, 37, 38, 39, 40, 41, 42, 43, 44, 45, 46, 47, 48, 49, 50, 51, 52, 53, 54, 55, 56] (by decide +kernel) (by decide +kernel)) (goodIn_sub (fun _ h => List.mem_cons_of_mem _ (List.mem_append_right _ h)) (by decide +kernel))) (goodIn_sub (fun _ h => List.mem_cons_of_mem _ (List.mem_append_left _ (List.mem_append_right _ h))) (by decide +kernel))
set_option maxRecDepth 20000 in
theorem gL_bathByTemperature_X7_bathByTemperature : GoodIn wsL_bathByTemperature (wsV RL 68 RX7 yX7_bathByTemperature wsX7_bathByTemperature) := goodIn_app (goodIn_of _ (by decide +kernel)) ggL_bathByTemperature_X7_bathByTemperature
theorem dL_bathByTemperature_0 : decode cL_bathByTemperature 0 = .ok (.aload_n 2, 1) := by decide +kernel
theorem dL_bathByTemperature_1 : decode cL_bathByTemperature 1 = .ok (.iconst 0, 1) := by decide +kernel
theorem dL_bathByTemperature_2 : decode cL_bathByTemperature 2 = .ok (.aload_n 0, 1) := by decide +kernel
theorem dL_bathByTemperature_3 : decode cL_bathByTemperature 3 = .ok (.iload_n 1, 1) := by decide +kernel
theorem dL_bathByTemperature_4 : decode cL_bathByTemperature 4 = .ok (.invokevirtual 68, 3) := by decide +kernel
theorem dL_bathByTemperature_7 : decode cL_bathByTemperature 7 = .ok (.i2l, 1) := by decide +kernel
theorem dL_bathByTemperature_8 : decode cL_bathByTemperature 8 = .ok (.lastore, 1) := by decide +kernel
theorem dL_bathByTemperature_9 : decode cL_bathByTemperature 9 = .ok (.goto 6, 3) := by decide +kernel
theorem dL_bathByTemperature_12 : decode cL_bathByTemperature 12 = .ok (.astore_n 3, 1) := by decide +kernel
theorem dL_bathByTemperature_13 : decode cL_bathByTemperature 13 = .ok (.iconst 1, 1) := by decide +kernel
theorem dL_bathByTemperature_14 : decode cL_bathByTemperature 14 = .ok (.ireturn, 1) := by decide +kernel
theorem dL_bathByTemperature_15 : decode cL_bathByTemperature 15 = .ok (.iconst 0, 1) := by decide +kernel
theorem dL_bathByTemperature_16 : decode cL_bathByTemperature 16 = .ok (.ireturn, 1) := by decide +kernel
set_option maxRecDepth 20000 in
theorem ggL_litresToReach_X7_litresToReach : GoodIn wsL_litresToReach wsX7_litresToReach := goodIn_ca (goodIn_ca (goodIn_ca (goodIn_ca (goodIn_ca (goodIn_ca (goodIn_r _ [6, 7, 8, 9, 10, 11, 12, 13, 5, 14, 15, 16, 17, 18, 19, 20, 21, 22, 23, 24, 25, 26, 27, 28, 29, 30, 31, 32, 33, 34, 35, 36, 37, 38, 39, 40, 41, 42, 43, 44, 45, 46, 47, 48, 49, 50, 51, 52, 53, 54, 55, 56, 57, 58, 59, 60, 61, 62, 63, 64, 65, 66, 67, 68, 69, 70, 71, 72] (by decide +kernel) (by decide +kernel)) (goodIn_sub (fun _ h => List.mem_cons_of_mem _ (List.mem_append_left _ (List.mem_append_left _ (List.mem_append_left _ (List.mem_append_left _ (List.mem_append_left _ (List.mem_append_right _ h))))))) (by decide +kernel))) (goodIn_sub (fun _ h => List.mem_cons_of_mem _ (List.mem_append_left _ (List.mem_append_left _ (List.mem_append_left _ (List.mem_append_left _ (List.mem_append_right _ h)))))) (by decide +kernel))) (goodIn_sub (fun _ h => List.mem_cons_of_mem _ (List.mem_append_left _ (List.mem_append_left _ (List.mem_append_left _ (List.mem_append_right _ h))))) (by decide +kernel))) (goodIn_sub (fun _ h => List.mem_cons_of_mem _ (List.mem_append_left _ (List.mem_append_left _ (List.mem_append_right _ h)))) (by decide +kernel))) (goodIn_sub (fun _ h => List.mem_cons_of_mem _ (List.mem_append_left _ (List.mem_append_right _ h))) (by decide +kernel))) (goodIn_sub (fun _ h => List.mem_cons_of_mem _ (List.mem_append_right _ h)) (by decide +kernel))
set_option maxRecDepth 20000 in
theorem gL_litresToReach_X7_litresToReach : GoodIn wsL_litresToReach (wsV RL 71 RX7 yX7_litresToReach wsX7_litresToReach) := goodIn_app (goodIn_of _ (by decide +kernel)) ggL_litresToReach_X7_litresToReach
theorem dL_litresToReach_0 : decode cL_litresToReach 0 = .ok (.aload 4, 2) := by decide +kernel
theorem dL_litresToReach_2 : decode cL_litresToReach 2 = .ok (.iconst 0, 1) := by decide +kernel
theorem dL_litresToReach_3 : decode cL_litresToReach 3 = .ok (.aload_n 0, 1) := by decide +kernel
theorem dL_litresToReach_4 : decode cL_litresToReach 4 = .ok (.iload_n 1, 1) := by decide +kernel
theorem dL_litresToReach_5 : decode cL_litresToReach 5 = .ok (.iload_n 2, 1) := by decide +kernel
theorem dL_litresToReach_6 : decode cL_litresToReach 6 = .ok (.iload_n 3, 1) := by decide +kernel
theorem dL_litresToReach_7 : decode cL_litresToReach 7 = .ok (.invokevirtual 71, 3) := by decide +kernel
theorem dL_litresToReach_10 : decode cL_litresToReach 10 = .ok (.i2l, 1) := by decide +kernel
theorem dL_litresToReach_11 : decode cL_litresToReach 11 = .ok (.lastore, 1) := by decide +kernel
theorem dL_litresToReach_12 : decode cL_litresToReach 12 = .ok (.goto 19, 3) := by decide +kernel
theorem dL_litresToReach_15 : decode cL_litresToReach 15 = .ok (.astore 5, 2) := by decide +kernel
theorem dL_litresToReach_17 : decode cL_litresToReach 17 = .ok (.iconst 1, 1) := by decide +kernel
theorem dL_litresToReach_18 : decode cL_litresToReach 18 = .ok (.ireturn, 1) := by decide +kernel
theorem dL_litresToReach_19 : decode cL_litresToReach 19 = .ok (.astore 5, 2) := by decide +kernel
theorem dL_litresToReach_21 : decode cL_litresToReach 21 = .ok (.iconst 2, 1) := by decide +kernel
theorem dL_litresToReach_22 : decode cL_litresToReach 22 = .ok (.ireturn, 1) := by decide +kernel
theorem dL_litresToReach_23 : decode cL_litresToReach 23 = .ok (.astore 5, 2) := by decide +kernel
theorem dL_litresToReach_25 : decode cL_litresToReach 25 = .ok (.iconst 3, 1) := by decide +kernel
theorem dL_litresToReach_26 : decode cL_litresToReach 26 = .ok (.ireturn, 1) := by decide +kernel
theorem dL_litresToReach_27 : decode cL_litresToReach 27 = .ok (.astore 5, 2) := by decide +kernel
theorem dL_litresToReach_29 : decode cL_litresToReach 29 = .ok (.iconst 4, 1) := by decide +kernel
theorem dL_litresToReach_30 : decode cL_litresToReach 30 = .ok (.ireturn, 1) := by decide +kernel
theorem dL_litresToReach_31 : decode cL_litresToReach 31 = .ok (.iconst 0, 1) := by decide +kernel
theorem dL_litresToReach_32 : decode cL_litresToReach 32 = .ok (.ireturn, 1) := by decide +kernel
set_option maxRecDepth 20000 in
theorem ggL_litresToReachByFormula_X7_litresToReachByFormula : GoodIn wsL_litresToReachByFormula wsX7_litresToReachByFormula := goodIn_ca (goodIn_ca (goodIn_ca (goodIn_ca (goodIn_ca (goodIn_ca (goodIn_r _ [6, 7, 8, 9, 10, 11, 12, 13, 5, 14, 15, 16, 17, 18, 19, 20, 21, 22, 23, 24, 25, 26, 27, 28, 29, 30, 31, 32, 33, 34, 35, 36, 37, 38, 39, 40, 41, 42, 43, 44, 45, 46, 47, 48, 49, 50, 51, 52, 53, 54, 55, 56, 57, 58, 59, 60, 61, 62, 63, 64, 65, 66, 67, 68, 69, 70, 71, 72, 73, 74, 75] (by decide +kernel) (by decide +kernel)) (goodIn_sub (fun _ h => List.mem_cons_of_mem _ (List.mem_append_left _ (List.mem_append_left _ (List.mem_append_left _ (List.mem_append_left _ (List.mem_append_left _ (List.mem_append_right _ h))))))) (by decide +kernel))) (goodIn_sub (fun _ h => List.mem_cons_of_mem _ (List.mem_append_left _ (List.mem_append_left _ (List.mem_append_left _ (List.mem_append_left _ (List.mem_append_right _ h)))))) (by decide +kernel))) (goodIn_sub (fun _ h => List.mem_cons_of_mem _ (List.mem_append_left _ (List.mem_append_left _ (List.mem_append_left _ (List.mem_append_right _ h))))) (by decide +kernel))) (goodIn_sub (fun _ h => List.mem_cons_of_mem _ (List.mem_append_left _ (List.mem_append_left _ (List.mem_append_right _ h)))) (by decide +kernel))) (goodIn_sub (fun _ h => List.mem_cons_of_mem _ (List.mem_append_left _ (List.mem_append_right _ h))) (by decide +kernel))) (goodIn_sub (fun _ h => List.mem_cons_of_mem _ (List.mem_append_right _ h)) (by decide +kernel))
set_option maxRecDepth 20000 in
theorem gL_litresToReachByFormula_X7_litresToReachByFormula : GoodIn wsL_litresToReachByFormula (wsV RL 74 RX7 yX7_litresToReachByFormula wsX7_litresToReachByFormula) := goodIn_app (goodIn_of _ (by decide +kernel)) ggL_litresToReachByFormula_X7_litresToReachByFormula
theorem dL_litresToReachByFormula_0 : decode cL_litresToReachByFormula 0 = .ok (.aload 4, 2) := by decide +kernel
theorem dL_litresToReachByFormula_2 : decode cL_litresToReachByFormula 2 = .ok (.iconst 0, 1) := by decide +kernel
theorem dL_litresToReachByFormula_3 : decode cL_litresToReachByFormula 3 = .ok (.aload_n 0, 1) := by decide +kernel
theorem dL_litresToReachByFormula_4 : decode cL_litresToReachByFormula 4 = .ok (.iload_n 1, 1) := by decide +kernel
theorem dL_litresToReachByFormula_5 : decode cL_litresToReachByFormula 5 = .ok (.iload_n 2, 1) := by decide +kernel
theorem dL_litresToReachByFormula_6 : decode cL_litresToReachByFormula 6 = .ok (.iload_n 3, 1) := by decide +kernel
theorem dL_litresToReachByFormula_7 : decode cL_litresToReachByFormula 7 = .ok (.invokevirtual 74, 3) := by decide +kernel
theorem dL_litresToReachByFormula_10 : decode cL_litresToReachByFormula 10 = .ok (.i2l, 1) := by decide +kernel
theorem dL_litresToReachByFormula_11 : decode cL_litresToReachByFormula 11 = .ok (.lastore, 1) := by decide +kernel
theorem dL_litresToReachByFormula_12 : decode cL_litresToReachByFormula 12 = .ok (.goto 19, 3) := by decide +kernel
theorem dL_litresToReachByFormula_15 : decode cL_litresToReachByFormula 15 = .ok (.astore 5, 2) := by decide +kernel
theorem dL_litresToReachByFormula_17 : decode cL_litresToReachByFormula 17 = .ok (.iconst 1, 1) := by decide +kernel
theorem dL_litresToReachByFormula_18 : decode cL_litresToReachByFormula 18 = .ok (.ireturn, 1) := by decide +kernel
theorem dL_litresToReachByFormula_19 : decode cL_litresToReachByFormula 19 = .ok (.astore 5, 2) := by decide +kernel
theorem dL_litresToReachByFormula_21 : decode cL_litresToReachByFormula 21 = .ok (.iconst 2, 1) := by decide +kernel
theorem dL_litresToReachByFormula_22 : decode cL_litresToReachByFormula 22 = .ok (.ireturn, 1) := by decide +kernel
theorem dL_litresToReachByFormula_23 : decode cL_litresToReachByFormula 23 = .ok (.astore 5, 2) := by decide +kernel
theorem dL_litresToReachByFormula_25 : decode cL_litresToReachByFormula 25 = .ok (.iconst 3, 1) := by decide +kernel
theorem dL_litresToReachByFormula_26 : decode cL_litresToReachByFormula 26 = .ok (.ireturn, 1) := by decide +kernel
theorem dL_litresToReachByFormula_27 : decode cL_litresToReachByFormula 27 = .ok (.astore 5, 2) := by decide +kernel
theorem dL_litresToReachByFormula_29 : decode cL_litresToReachByFormula 29 = .ok (.iconst 4, 1) := by decide +kernel
theorem dL_litresToReachByFormula_30 : decode cL_litresToReachByFormula 30 = .ok (.ireturn, 1) := by decide +kernel
theorem dL_litresToReachByFormula_31 : decode cL_litresToReachByFormula 31 = .ok (.iconst 0, 1) := by decide +kernel
theorem dL_litresToReachByFormula_32 : decode cL_litresToReachByFormula 32 = .ok (.ireturn, 1) := by decide +kernel
set_option maxRecDepth 20000 in
theorem ggL_isMember_X7_isMember : GoodIn wsL_isMember wsX7_isMember := goodIn_ca (goodIn_ca (goodIn_r _ [6, 7, 8, 9, 10, 11, 12, 5, 13, 14, 15, 16, 17, 18, 19, 20, 21, 22, 23, 24, 25, 26, 27, 28, 29, 30, 31, 32, 33, 34, 35, 36, 37, 38, 39] (by decide +kernel) (by decide +kernel)) (goodIn_sub (fun _ h => List.mem_cons_of_mem _ (List.mem_append_left _ (List.mem_append_right _ h))) (by decide +kernel))) (goodIn_sub (fun _ h => List.mem_cons_of_mem _ (List.mem_append_right _ h)) (by decide +kernel))
set_option maxRecDepth 20000 in
theorem gL_isMember_X7_isMember : GoodIn wsL_isMember (wsV RL 77 RX7 yX7_isMember wsX7_isMember) := goodIn_app (goodIn_of _ (by decide +kernel)) ggL_isMember_X7_isMember
theorem dL_isMember_0 : decode cL_isMember 0 = .ok (.aload_n 2, 1) := by decide +kernel
theorem dL_isMember_1 : decode cL_isMember 1 = .ok (.iconst 0, 1) := by decide +kernel
theorem dL_isMember_2 : decode cL_isMember 2 = .ok (.aload_n 0, 1) := by decide +kernel
theorem dL_isMember_3 : decode cL_isMember 3 = .ok (.iload_n 1, 1) := by decide +kernel
theorem dL_isMember_4 : decode cL_isMember 4 = .ok (.invokevirtual 77, 3) := by decide +kernel
theorem dL_isMember_7 : decode cL_isMember 7 = .ok (.ifCond .eq 7, 3) := by decide +kernel
theorem dL_isMember_10 : decode cL_isMember 10 = .ok (.lconst 1, 1) := by decide +kernel
theorem dL_isMember_11 : decode cL_isMember 11 = .ok (.goto 4, 3) := by decide +kernel
theorem dL_isMember_14 : decode cL_isMember 14 = .ok (.lconst 0, 1) := by decide +kernel
theorem dL_isMember_15 : decode cL_isMember 15 = .ok (.lastore, 1) := by decide +kernel
theorem dL_isMember_16 : decode cL_isMember 16 = .ok (.goto 6, 3) := by decide +kernel
theorem dL_isMember_19 : decode cL_isMember 19 = .ok (.astore_n 3, 1) := by decide +kernel
theorem dL_isMember_20 : decode cL_isMember 20 = .ok (.iconst 1, 1) := by decide +kernel
theorem dL_isMember_21 : decode cL_isMember 21 = .ok (.ireturn, 1) := by decide +kernel
theorem dL_isMember_22 : decode cL_isMember 22 = .ok (.iconst 0, 1) := by decide +kernel
theorem dL_isMember_23 : decode cL_isMember 23 = .ok (.ireturn, 1) := by decide +kernel
set_option maxRecDepth 20000 in
theorem ggL_warmestMember_X7_warmestMember : GoodIn wsL_warmestMember wsX7_warmestMember := goodIn_ca (goodIn_ca (goodIn_r _ [6, 7, 8, 9, 10, 11, 12, 13, 14, 15, 16, 17, 18, 19, 20, 21, 22, 23, 24, 25, 26, 27, 28, 29, 30, 31, 32, 33, 34, 35, 36, 37, 38, 39, 40, 41, 42, 43, 44, 45] (by decide +kernel) (by decide +kernel)) (goodIn_sub (fun _ h => List.mem_cons_of_mem _ (List.mem_append_right _ h)) (by decide +kernel))) (goodIn_sub (fun _ h => List.mem_cons_of_mem _ (List.mem_append_left _ (List.mem_append_right _ h))) (by decide +kernel))
set_option maxRecDepth 20000 in
theorem gL_warmestMember_X7_warmestMember : GoodIn wsL_warmestMember (wsV RL 80 RX7 yX7_warmestMember wsX7_warmestMember) := goodIn_app (goodIn_of _ (by decide +kernel)) ggL_warmestMember_X7_warmestMember
theorem dL_warmestMember_0 : decode cL_warmestMember 0 = .ok (.aload_n 1, 1) := by decide +kernel
theorem dL_warmestMember_1 : decode cL_warmestMember 1 = .ok (.iconst 0, 1) := by decide +kernel
theorem dL_warmestMember_2 : decode cL_warmestMember 2 = .ok (.aload_n 0, 1) := by decide +kernel
theorem dL_warmestMember_3 : decode cL_warmestMember 3 = .ok (.invokevirtual 80, 3) := by decide +kernel
theorem dL_warmestMember_6 : decode cL_warmestMember 6 = .ok (.i2l, 1) := by decide +kernel
theorem dL_warmestMember_7 : decode cL_warmestMember 7 = .ok (.lastore, 1) := by decide +kernel
theorem dL_warmestMember_8 : decode cL_warmestMember 8 = .ok (.goto 6, 3) := by decide +kernel
theorem dL_warmestMember_11 : decode cL_warmestMember 11 = .ok (.astore_n 2, 1) := by decide +kernel
theorem dL_warmestMember_12 : decode cL_warmestMember 12 = .ok (.iconst 1, 1) := by decide +kernel
theorem dL_warmestMember_13 : decode cL_warmestMember 13 = .ok (.ireturn, 1) := by decide +kernel
theorem dL_warmestMember_14 : decode cL_warmestMember 14 = .ok (.iconst 0, 1) := by decide +kernel
theorem dL_warmestMember_15 : decode cL_warmestMember 15 = .ok (.ireturn, 1) := by decide +kernel
set_option maxRecDepth 20000 in
theorem ggL_coldestMember_X7_coldestMember : GoodIn wsL_coldestMember wsX7_coldestMember := goodIn_ca (goodIn_ca (goodIn_r _ [6, 7, 8, 9, 10, 11, 12, 13, 14, 15, 16, 17, 18, 19, 20, 21, 22, 23, 24, 25, 26, 27, 28, 29, 30, 31, 32, 33, 34, 35, 36, 37, 38, 39, 40, 41, 42, 43, 44, 45] (by decide +kernel) (by decide +kernel)) (goodIn_sub (fun _ h => List.mem_cons_of_mem _ (List.mem_append_right _ h)) (by decide +kernel))) (goodIn_sub (fun _ h => List.mem_cons_of_mem _ (List.mem_append_left _ (List.mem_append_right _ h))) (by decide +kernel))
set_option maxRecDepth 20000 in
theorem gL_coldestMember_X7_coldestMember : GoodIn wsL_coldestMember (wsV RL 83 RX7 yX7_coldestMember wsX7_coldestMember) := goodIn_app (goodIn_of _ (by decide +kernel)) ggL_coldestMember_X7_coldestMember
theorem dL_coldestMember_0 : decode cL_coldestMember 0 = .ok (.aload_n 1, 1) := by decide +kernel
theorem dL_coldestMember_1 : decode cL_coldestMember 1 = .ok (.iconst 0, 1) := by decide +kernel
theorem dL_coldestMember_2 : decode cL_coldestMember 2 = .ok (.aload_n 0, 1) := by decide +kernel
theorem dL_coldestMember_3 : decode cL_coldestMember 3 = .ok (.invokevirtual 83, 3) := by decide +kernel
theorem dL_coldestMember_6 : decode cL_coldestMember 6 = .ok (.i2l, 1) := by decide +kernel
theorem dL_coldestMember_7 : decode cL_coldestMember 7 = .ok (.lastore, 1) := by decide +kernel
theorem dL_coldestMember_8 : decode cL_coldestMember 8 = .ok (.goto 6, 3) := by decide +kernel
theorem dL_coldestMember_11 : decode cL_coldestMember 11 = .ok (.astore_n 2, 1) := by decide +kernel
theorem dL_coldestMember_12 : decode cL_coldestMember 12 = .ok (.iconst 1, 1) := by decide +kernel
theorem dL_coldestMember_13 : decode cL_coldestMember 13 = .ok (.ireturn, 1) := by decide +kernel
theorem dL_coldestMember_14 : decode cL_coldestMember 14 = .ok (.iconst 0, 1) := by decide +kernel
theorem dL_coldestMember_15 : decode cL_coldestMember 15 = .ok (.ireturn, 1) := by decide +kernel
set_option maxRecDepth 20000 in
theorem ggL_sharedHeat_X7_sharedHeat : GoodIn wsL_sharedHeat wsX7_sharedHeat := goodIn_ca (goodIn_ca (goodIn_ca (goodIn_r _ [6, 7, 8, 9, 10, 11, 12, 13, 14, 15, 16, 17, 18, 19, 20, 21, 22, 23, 24, 25, 26, 27, 28, 29, 30, 31, 32, 33, 34, 35, 36, 37, 38, 39, 40, 41, 42, 43, 44, 45, 46, 47, 48, 49, 50, 51, 52, 53, 54, 55, 56, 57, 58, 59, 60, 61, 62, 63, 64, 65] (by decide +kernel) (by decide +kernel)) (goodIn_sub (fun _ h => List.mem_cons_of_mem _ (List.mem_append_left _ (List.mem_append_right _ h))) (by decide +kernel))) (goodIn_sub (fun _ h => List.mem_cons_of_mem _ (List.mem_append_left _ (List.mem_append_left _ (List.mem_append_right _ h)))) (by decide +kernel))) (goodIn_sub (fun _ h => List.mem_cons_of_mem _ (List.mem_append_right _ h)) (by decide +kernel))
set_option maxRecDepth 20000 in
theorem gL_sharedHeat_X7_sharedHeat : GoodIn wsL_sharedHeat (wsV RL 86 RX7 yX7_sharedHeat wsX7_sharedHeat) := goodIn_app (goodIn_of _ (by decide +kernel)) ggL_sharedHeat_X7_sharedHeat
theorem dL_sharedHeat_0 : decode cL_sharedHeat 0 = .ok (.aload_n 1, 1) := by decide +kernel
theorem dL_sharedHeat_1 : decode cL_sharedHeat 1 = .ok (.iconst 0, 1) := by decide +kernel
theorem dL_sharedHeat_2 : decode cL_sharedHeat 2 = .ok (.aload_n 0, 1) := by decide +kernel
theorem dL_sharedHeat_3 : decode cL_sharedHeat 3 = .ok (.invokevirtual 86, 3) := by decide +kernel
theorem dL_sharedHeat_6 : decode cL_sharedHeat 6 = .ok (.i2l, 1) := by decide +kernel
theorem dL_sharedHeat_7 : decode cL_sharedHeat 7 = .ok (.lastore, 1) := by decide +kernel
theorem dL_sharedHeat_8 : decode cL_sharedHeat 8 = .ok (.goto 6, 3) := by decide +kernel
theorem dL_sharedHeat_11 : decode cL_sharedHeat 11 = .ok (.astore_n 2, 1) := by decide +kernel
theorem dL_sharedHeat_12 : decode cL_sharedHeat 12 = .ok (.iconst 1, 1) := by decide +kernel
theorem dL_sharedHeat_13 : decode cL_sharedHeat 13 = .ok (.ireturn, 1) := by decide +kernel
theorem dL_sharedHeat_14 : decode cL_sharedHeat 14 = .ok (.iconst 0, 1) := by decide +kernel
theorem dL_sharedHeat_15 : decode cL_sharedHeat 15 = .ok (.ireturn, 1) := by decide +kernel
set_option maxRecDepth 20000 in
theorem ggL_ticksUntilDefection_X7_ticksUntilDefection : GoodIn wsL_ticksUntilDefection wsX7_ticksUntilDefection := goodIn_ca (goodIn_ca (goodIn_ca (goodIn_ca (goodIn_ca (goodIn_r _ [6, 7, 8, 9, 10, 11, 12, 13, 14, 15, 16, 17, 5, 18, 19, 20, 21, 22, 23, 24, 25, 26, 27, 28, 29, 30, 31, 32, 33, 34, 35, 36, 37, 38, 39, 40, 41, 42, 43, 44, 45, 46, 47, 48, 49, 50, 51, 52, 53, 54, 55, 56, 57, 58, 59, 60, 61, 62, 63, 64, 65, 66, 67, 68, 69, 70, 71, 72, 73, 74, 75, 76, 77, 78, 79, 80, 81, 82, 83, 84, 85, 86, 87, 88, 89, 90, 91, 92, 93, 94, 95, 96, 97, 98, 99, 100, 101, 102, 103, 104, 105, 106, 107, 108, 109, 110, 111, 112, 113, 114, 115, 116, 117, 118, 119, 120, 121, 122, 123, 124, 125, 126, 127, 128, 129, 130, 131, 132, 133, 134, 135, 136, 137, 138, 139, 140, 141, 142, 143, 144, 145, 146, 147, 148, 149, 150, 151, 152, 153, 154, 155, 156, 157, 158, 159, 160, 161, 162, 163, 164, 165, 166, 167, 168, 169, 170, 171, 172, 173, 174, 175, 176, 177, 178, 179, 180, 181, 182, 183, 184, 185, 186, 187, 188, 189, 190, 191, 192, 193, 194] (by decide +kernel) (by decide +kernel)) (goodIn_sub (fun _ h => List.mem_cons_of_mem _ (List.mem_append_left _ (List.mem_append_left _ (List.mem_append_left _ (List.mem_append_left _ (List.mem_append_right _ h)))))) (by decide +kernel))) (goodIn_sub (fun _ h => List.mem_cons_of_mem _ (List.mem_append_left _ (List.mem_append_left _ (List.mem_append_left _ (List.mem_append_right _ h))))) (by decide +kernel))) (goodIn_sub (fun _ h => List.mem_cons_of_mem _ (List.mem_append_left _ (List.mem_append_left _ (List.mem_append_right _ h)))) (by decide +kernel))) (goodIn_sub (fun _ h => List.mem_cons_of_mem _ (List.mem_append_left _ (List.mem_append_right _ h))) (by decide +kernel))) (goodIn_sub (fun _ h => List.mem_cons_of_mem _ (List.mem_append_right _ h)) (by decide +kernel))
set_option maxRecDepth 20000 in
theorem gL_ticksUntilDefection_X7_ticksUntilDefection : GoodIn wsL_ticksUntilDefection (wsV RL 89 RX7 yX7_ticksUntilDefection wsX7_ticksUntilDefection) := goodIn_app (goodIn_of _ (by decide +kernel)) ggL_ticksUntilDefection_X7_ticksUntilDefection
theorem dL_ticksUntilDefection_0 : decode cL_ticksUntilDefection 0 = .ok (.aload_n 2, 1) := by decide +kernel
theorem dL_ticksUntilDefection_1 : decode cL_ticksUntilDefection 1 = .ok (.iconst 0, 1) := by decide +kernel
theorem dL_ticksUntilDefection_2 : decode cL_ticksUntilDefection 2 = .ok (.aload_n 0, 1) := by decide +kernel
theorem dL_ticksUntilDefection_3 : decode cL_ticksUntilDefection 3 = .ok (.iload_n 1, 1) := by decide +kernel
theorem dL_ticksUntilDefection_4 : decode cL_ticksUntilDefection 4 = .ok (.invokevirtual 89, 3) := by decide +kernel
theorem dL_ticksUntilDefection_7 : decode cL_ticksUntilDefection 7 = .ok (.i2l, 1) := by decide +kernel
theorem dL_ticksUntilDefection_8 : decode cL_ticksUntilDefection 8 = .ok (.lastore, 1) := by decide +kernel
theorem dL_ticksUntilDefection_9 : decode cL_ticksUntilDefection 9 = .ok (.goto 12, 3) := by decide +kernel
theorem dL_ticksUntilDefection_12 : decode cL_ticksUntilDefection 12 = .ok (.astore_n 3, 1) := by decide +kernel
theorem dL_ticksUntilDefection_13 : decode cL_ticksUntilDefection 13 = .ok (.iconst 1, 1) := by decide +kernel
theorem dL_ticksUntilDefection_14 : decode cL_ticksUntilDefection 14 = .ok (.ireturn, 1) := by decide +kernel
theorem dL_ticksUntilDefection_15 : decode cL_ticksUntilDefection 15 = .ok (.astore_n 3, 1) := by decide +kernel
theorem dL_ticksUntilDefection_16 : decode cL_ticksUntilDefection 16 = .ok (.iconst 2, 1) := by decide +kernel
theorem dL_ticksUntilDefection_17 : decode cL_ticksUntilDefection 17 = .ok (.ireturn, 1) := by decide +kernel
theorem dL_ticksUntilDefection_18 : decode cL_ticksUntilDefection 18 = .ok (.astore_n 3, 1) := by decide +kernel
theorem dL_ticksUntilDefection_19 : decode cL_ticksUntilDefection 19 = .ok (.iconst 3, 1) := by decide +kernel
theorem dL_ticksUntilDefection_20 : decode cL_ticksUntilDefection 20 = .ok (.ireturn, 1) := by decide +kernel
theorem dL_ticksUntilDefection_21 : decode cL_ticksUntilDefection 21 = .ok (.iconst 0, 1) := by decide +kernel
theorem dL_ticksUntilDefection_22 : decode cL_ticksUntilDefection 22 = .ok (.ireturn, 1) := by decide +kernel
set_option maxRecDepth 20000 in
theorem ggL_heatAfter_X7_heatAfter : GoodIn wsL_heatAfter wsX7_heatAfter := goodIn_ca (goodIn_ca (goodIn_ca (goodIn_ca (goodIn_r _ [6, 7, 8, 9, 10, 11, 12, 13, 14, 15, 5, 16, 17, 18, 19, 20, 21, 22, 23, 24, 25, 26, 27, 28, 29, 30, 31, 32, 33, 34, 35, 36, 37, 38, 39, 40, 41, 42, 43, 44, 45, 46, 47, 48, 49, 50, 51, 52, 53, 54, 55, 56, 57, 58, 59, 60, 61, 62, 63, 64, 65, 66, 67, 68, 69, 70, 71, 72, 73, 74, 75, 76, 77, 78, 79, 80, 81, 82, 83, 84, 85, 86, 87, 88, 89, 90, 91, 92, 93, 94, 95, 96, 97, 98, 99, 100, 101, 102, 103, 104, 105, 106, 107, 108, 109, 110, 111, 112, 113, 114, 115, 116, 117, 118, 119, 120, 121, 122, 123, 124, 125, 126, 127, 128, 129, 130, 131, 132, 133, 134, 135, 136, 137, 138, 139, 140, 141, 142, 143, 144, 145, 146, 147, 148, 149, 150, 151, 152, 153, 154, 155, 156, 157, 158, 159, 160, 161, 162, 163, 164, 165, 166, 167, 168, 169, 170, 171, 172, 173, 174, 175, 176, 177, 178, 179, 180, 181, 182, 183, 184, 185, 186, 187, 188, 189, 190, 191, 192, 193, 194, 195, 196] (by decide +kernel) (by decide +kernel)) (goodIn_sub (fun _ h => List.mem_cons_of_mem _ (List.mem_append_left _ (List.mem_append_left _ (List.mem_append_right _ h)))) (by decide +kernel))) (goodIn_sub (fun _ h => List.mem_cons_of_mem _ (List.mem_append_left _ (List.mem_append_left _ (List.mem_append_left _ (List.mem_append_right _ h))))) (by decide +kernel))) (goodIn_sub (fun _ h => List.mem_cons_of_mem _ (List.mem_append_left _ (List.mem_append_right _ h))) (by decide +kernel))) (goodIn_sub (fun _ h => List.mem_cons_of_mem _ (List.mem_append_right _ h)) (by decide +kernel))
set_option maxRecDepth 20000 in
theorem gL_heatAfter_X7_heatAfter : GoodIn wsL_heatAfter (wsV RL 92 RX7 yX7_heatAfter wsX7_heatAfter) := goodIn_app (goodIn_of _ (by decide +kernel)) ggL_heatAfter_X7_heatAfter
theorem dL_heatAfter_0 : decode cL_heatAfter 0 = .ok (.aload_n 3, 1) := by decide +kernel
theorem dL_heatAfter_1 : decode cL_heatAfter 1 = .ok (.iconst 0, 1) := by decide +kernel
theorem dL_heatAfter_2 : decode cL_heatAfter 2 = .ok (.aload_n 0, 1) := by decide +kernel
theorem dL_heatAfter_3 : decode cL_heatAfter 3 = .ok (.iload_n 1, 1) := by decide +kernel
theorem dL_heatAfter_4 : decode cL_heatAfter 4 = .ok (.iload_n 2, 1) := by decide +kernel
theorem dL_heatAfter_5 : decode cL_heatAfter 5 = .ok (.invokevirtual 92, 3) := by decide +kernel
theorem dL_heatAfter_8 : decode cL_heatAfter 8 = .ok (.i2l, 1) := by decide +kernel
theorem dL_heatAfter_9 : decode cL_heatAfter 9 = .ok (.lastore, 1) := by decide +kernel
theorem dL_heatAfter_10 : decode cL_heatAfter 10 = .ok (.goto 11, 3) := by decide +kernel
theorem dL_heatAfter_13 : decode cL_heatAfter 13 = .ok (.astore 4, 2) := by decide +kernel
theorem dL_heatAfter_15 : decode cL_heatAfter 15 = .ok (.iconst 1, 1) := by decide +kernel
theorem dL_heatAfter_16 : decode cL_heatAfter 16 = .ok (.ireturn, 1) := by decide +kernel
theorem dL_heatAfter_17 : decode cL_heatAfter 17 = .ok (.astore 4, 2) := by decide +kernel
theorem dL_heatAfter_19 : decode cL_heatAfter 19 = .ok (.iconst 2, 1) := by decide +kernel
theorem dL_heatAfter_20 : decode cL_heatAfter 20 = .ok (.ireturn, 1) := by decide +kernel
theorem dL_heatAfter_21 : decode cL_heatAfter 21 = .ok (.iconst 0, 1) := by decide +kernel
theorem dL_heatAfter_22 : decode cL_heatAfter 22 = .ok (.ireturn, 1) := by decide +kernel
set_option maxRecDepth 20000 in
theorem ggL_observedBath_X7_observedBath : GoodIn wsL_observedBath wsX7_observedBath := goodIn_ca (goodIn_ca (goodIn_r _ [6, 7, 8, 9, 10, 11, 12, 5, 13, 14, 15, 16, 17, 18, 19, 20, 21, 22, 23, 24, 25, 26, 27, 28, 29, 30, 31, 32, 33, 34, 35] (by decide +kernel) (by decide +kernel)) (goodIn_sub (fun _ h => List.mem_cons_of_mem _ (List.mem_append_left _ (List.mem_append_right _ h))) (by decide +kernel))) (goodIn_sub (fun _ h => List.mem_cons_of_mem _ (List.mem_append_right _ h)) (by decide +kernel))
set_option maxRecDepth 20000 in
theorem gL_observedBath_X7_observedBath : GoodIn wsL_observedBath (wsV RL 96 RX7 yX7_observedBath wsX7_observedBath) := goodIn_app (goodIn_of _ (by decide +kernel)) ggL_observedBath_X7_observedBath
theorem dL_observedBath_0 : decode cL_observedBath 0 = .ok (.aload_n 2, 1) := by decide +kernel
theorem dL_observedBath_1 : decode cL_observedBath 1 = .ok (.iconst 0, 1) := by decide +kernel
theorem dL_observedBath_2 : decode cL_observedBath 2 = .ok (.aload_n 0, 1) := by decide +kernel
theorem dL_observedBath_3 : decode cL_observedBath 3 = .ok (.iload_n 1, 1) := by decide +kernel
theorem dL_observedBath_4 : decode cL_observedBath 4 = .ok (.invokevirtual 96, 3) := by decide +kernel
theorem dL_observedBath_7 : decode cL_observedBath 7 = .ok (.i2l, 1) := by decide +kernel
theorem dL_observedBath_8 : decode cL_observedBath 8 = .ok (.lastore, 1) := by decide +kernel
theorem dL_observedBath_9 : decode cL_observedBath 9 = .ok (.goto 6, 3) := by decide +kernel
theorem dL_observedBath_12 : decode cL_observedBath 12 = .ok (.astore_n 3, 1) := by decide +kernel
theorem dL_observedBath_13 : decode cL_observedBath 13 = .ok (.iconst 1, 1) := by decide +kernel
theorem dL_observedBath_14 : decode cL_observedBath 14 = .ok (.ireturn, 1) := by decide +kernel
theorem dL_observedBath_15 : decode cL_observedBath 15 = .ok (.iconst 0, 1) := by decide +kernel
theorem dL_observedBath_16 : decode cL_observedBath 16 = .ok (.ireturn, 1) := by decide +kernel
set_option maxRecDepth 20000 in
theorem ggL_lowerBound_X7_lowerBound : GoodIn wsL_lowerBound wsX7_lowerBound := goodIn_ca (goodIn_ca (goodIn_r _ [6, 7, 8, 9, 10, 11, 12, 5, 13, 14, 15, 16, 17, 18, 19, 20, 21, 22, 23, 24, 25, 26, 27, 28, 29, 30, 31, 32, 33, 34, 35] (by decide +kernel) (by decide +kernel)) (goodIn_sub (fun _ h => List.mem_cons_of_mem _ (List.mem_append_left _ (List.mem_append_right _ h))) (by decide +kernel))) (goodIn_sub (fun _ h => List.mem_cons_of_mem _ (List.mem_append_right _ h)) (by decide +kernel))
set_option maxRecDepth 20000 in
theorem gL_lowerBound_X7_lowerBound : GoodIn wsL_lowerBound (wsV RL 99 RX7 yX7_lowerBound wsX7_lowerBound) := goodIn_app (goodIn_of _ (by decide +kernel)) ggL_lowerBound_X7_lowerBound
theorem dL_lowerBound_0 : decode cL_lowerBound 0 = .ok (.aload_n 2, 1) := by decide +kernel
theorem dL_lowerBound_1 : decode cL_lowerBound 1 = .ok (.iconst 0, 1) := by decide +kernel
theorem dL_lowerBound_2 : decode cL_lowerBound 2 = .ok (.aload_n 0, 1) := by decide +kernel
theorem dL_lowerBound_3 : decode cL_lowerBound 3 = .ok (.iload_n 1, 1) := by decide +kernel
theorem dL_lowerBound_4 : decode cL_lowerBound 4 = .ok (.invokevirtual 99, 3) := by decide +kernel
theorem dL_lowerBound_7 : decode cL_lowerBound 7 = .ok (.i2l, 1) := by decide +kernel
theorem dL_lowerBound_8 : decode cL_lowerBound 8 = .ok (.lastore, 1) := by decide +kernel
theorem dL_lowerBound_9 : decode cL_lowerBound 9 = .ok (.goto 6, 3) := by decide +kernel
theorem dL_lowerBound_12 : decode cL_lowerBound 12 = .ok (.astore_n 3, 1) := by decide +kernel
theorem dL_lowerBound_13 : decode cL_lowerBound 13 = .ok (.iconst 1, 1) := by decide +kernel
theorem dL_lowerBound_14 : decode cL_lowerBound 14 = .ok (.ireturn, 1) := by decide +kernel
theorem dL_lowerBound_15 : decode cL_lowerBound 15 = .ok (.iconst 0, 1) := by decide +kernel
theorem dL_lowerBound_16 : decode cL_lowerBound 16 = .ok (.ireturn, 1) := by decide +kernel
set_option maxRecDepth 20000 in
theorem ggL_upperBound_X7_upperBound : GoodIn wsL_upperBound wsX7_upperBound := goodIn_ca (goodIn_ca (goodIn_r _ [6, 7, 8, 9, 10, 11, 12, 5, 13, 14, 15, 16, 17, 18, 19, 20, 21, 22, 23, 24, 25, 26, 27, 28, 29, 30, 31, 32, 33, 34, 35] (by decide +kernel) (by decide +kernel)) (goodIn_sub (fun _ h => List.mem_cons_of_mem _ (List.mem_append_left _ (List.mem_append_right _ h))) (by decide +kernel))) (goodIn_sub (fun _ h => List.mem_cons_of_mem _ (List.mem_append_right _ h)) (by decide +kernel))
set_option maxRecDepth 20000 in
theorem gL_upperBound_X7_upperBound : GoodIn wsL_upperBound (wsV RL 102 RX7 yX7_upperBound wsX7_upperBound) := goodIn_app (goodIn_of _ (by decide +kernel)) ggL_upperBound_X7_upperBound
theorem dL_upperBound_0 : decode cL_upperBound 0 = .ok (.aload_n 2, 1) := by decide +kernel
theorem dL_upperBound_1 : decode cL_upperBound 1 = .ok (.iconst 0, 1) := by decide +kernel
theorem dL_upperBound_2 : decode cL_upperBound 2 = .ok (.aload_n 0, 1) := by decide +kernel
theorem dL_upperBound_3 : decode cL_upperBound 3 = .ok (.iload_n 1, 1) := by decide +kernel
theorem dL_upperBound_4 : decode cL_upperBound 4 = .ok (.invokevirtual 102, 3) := by decide +kernel
theorem dL_upperBound_7 : decode cL_upperBound 7 = .ok (.i2l, 1) := by decide +kernel
theorem dL_upperBound_8 : decode cL_upperBound 8 = .ok (.lastore, 1) := by decide +kernel
theorem dL_upperBound_9 : decode cL_upperBound 9 = .ok (.goto 6, 3) := by decide +kernel
theorem dL_upperBound_12 : decode cL_upperBound 12 = .ok (.astore_n 3, 1) := by decide +kernel
theorem dL_upperBound_13 : decode cL_upperBound 13 = .ok (.iconst 1, 1) := by decide +kernel
theorem dL_upperBound_14 : decode cL_upperBound 14 = .ok (.ireturn, 1) := by decide +kernel
theorem dL_upperBound_15 : decode cL_upperBound 15 = .ok (.iconst 0, 1) := by decide +kernel
theorem dL_upperBound_16 : decode cL_upperBound 16 = .ok (.ireturn, 1) := by decide +kernel
set_option maxRecDepth 20000 in
theorem ggL_isContent_X7_isContent : GoodIn wsL_isContent wsX7_isContent := goodIn_ca (goodIn_ca (goodIn_ca (goodIn_r _ [6, 7, 8, 9, 10, 11, 12, 5, 13, 14, 15, 16, 17, 18, 19, 20, 21, 22, 23, 24, 25, 26, 27, 28, 29, 30, 31, 32, 33, 34, 35, 36, 37, 38, 39, 40, 41, 42, 43, 44, 45, 46, 47, 48, 49, 50, 51, 52, 53, 54, 55, 56, 57, 58] (by decide +kernel) (by decide +kernel)) (goodIn_sub (fun _ h => List.mem_cons_of_mem _ (List.mem_append_left _ (List.mem_append_right _ h))) (by decide +kernel))) (goodIn_sub (fun _ h => List.mem_cons_of_mem _ (List.mem_append_left _ (List.mem_append_left _ (List.mem_append_right _ h)))) (by decide +kernel))) (goodIn_sub (fun _ h => List.mem_cons_of_mem _ (List.mem_append_right _ h)) (by decide +kernel))
set_option maxRecDepth 20000 in
theorem gL_isContent_X7_isContent : GoodIn wsL_isContent (wsV RL 105 RX7 yX7_isContent wsX7_isContent) := goodIn_app (goodIn_of _ (by decide +kernel)) ggL_isContent_X7_isContent
theorem dL_isContent_0 : decode cL_isContent 0 = .ok (.aload_n 2, 1) := by decide +kernel
theorem dL_isContent_1 : decode cL_isContent 1 = .ok (.iconst 0, 1) := by decide +kernel
theorem dL_isContent_2 : decode cL_isContent 2 = .ok (.aload_n 0, 1) := by decide +kernel
theorem dL_isContent_3 : decode cL_isContent 3 = .ok (.iload_n 1, 1) := by decide +kernel
theorem dL_isContent_4 : decode cL_isContent 4 = .ok (.invokevirtual 105, 3) := by decide +kernel
theorem dL_isContent_7 : decode cL_isContent 7 = .ok (.ifCond .eq 7, 3) := by decide +kernel
theorem dL_isContent_10 : decode cL_isContent 10 = .ok (.lconst 1, 1) := by decide +kernel
theorem dL_isContent_11 : decode cL_isContent 11 = .ok (.goto 4, 3) := by decide +kernel
theorem dL_isContent_14 : decode cL_isContent 14 = .ok (.lconst 0, 1) := by decide +kernel
theorem dL_isContent_15 : decode cL_isContent 15 = .ok (.lastore, 1) := by decide +kernel
theorem dL_isContent_16 : decode cL_isContent 16 = .ok (.goto 6, 3) := by decide +kernel
theorem dL_isContent_19 : decode cL_isContent 19 = .ok (.astore_n 3, 1) := by decide +kernel
theorem dL_isContent_20 : decode cL_isContent 20 = .ok (.iconst 1, 1) := by decide +kernel
theorem dL_isContent_21 : decode cL_isContent 21 = .ok (.ireturn, 1) := by decide +kernel
theorem dL_isContent_22 : decode cL_isContent 22 = .ok (.iconst 0, 1) := by decide +kernel
theorem dL_isContent_23 : decode cL_isContent 23 = .ok (.ireturn, 1) := by decide +kernel
set_option maxRecDepth 20000 in
theorem ggL_quacks_X7_quacks : GoodIn wsL_quacks wsX7_quacks := goodIn_ca (goodIn_ca (goodIn_r _ [6, 7, 8, 9, 10, 11, 12, 5, 13, 14, 15, 16, 17, 18, 19, 20, 21, 22, 23, 24, 25, 26, 27, 28, 29, 30, 31, 32, 33, 34, 35] (by decide +kernel) (by decide +kernel)) (goodIn_sub (fun _ h => List.mem_cons_of_mem _ (List.mem_append_left _ (List.mem_append_right _ h))) (by decide +kernel))) (goodIn_sub (fun _ h => List.mem_cons_of_mem _ (List.mem_append_right _ h)) (by decide +kernel))
set_option maxRecDepth 20000 in
theorem gL_quacks_X7_quacks : GoodIn wsL_quacks (wsV RL 108 RX7 yX7_quacks wsX7_quacks) := goodIn_app (goodIn_of _ (by decide +kernel)) ggL_quacks_X7_quacks
theorem dL_quacks_0 : decode cL_quacks 0 = .ok (.aload_n 2, 1) := by decide +kernel
theorem dL_quacks_1 : decode cL_quacks 1 = .ok (.iconst 0, 1) := by decide +kernel
theorem dL_quacks_2 : decode cL_quacks 2 = .ok (.aload_n 0, 1) := by decide +kernel
theorem dL_quacks_3 : decode cL_quacks 3 = .ok (.iload_n 1, 1) := by decide +kernel
theorem dL_quacks_4 : decode cL_quacks 4 = .ok (.invokevirtual 108, 3) := by decide +kernel
theorem dL_quacks_7 : decode cL_quacks 7 = .ok (.i2l, 1) := by decide +kernel
theorem dL_quacks_8 : decode cL_quacks 8 = .ok (.lastore, 1) := by decide +kernel
theorem dL_quacks_9 : decode cL_quacks 9 = .ok (.goto 6, 3) := by decide +kernel
theorem dL_quacks_12 : decode cL_quacks 12 = .ok (.astore_n 3, 1) := by decide +kernel
theorem dL_quacks_13 : decode cL_quacks 13 = .ok (.iconst 1, 1) := by decide +kernel
theorem dL_quacks_14 : decode cL_quacks 14 = .ok (.ireturn, 1) := by decide +kernel
theorem dL_quacks_15 : decode cL_quacks 15 = .ok (.iconst 0, 1) := by decide +kernel
theorem dL_quacks_16 : decode cL_quacks 16 = .ok (.ireturn, 1) := by decide +kernel
set_option maxRecDepth 20000 in
theorem ggL_duckByQuacks_X7_duckByQuacks : GoodIn wsL_duckByQuacks wsX7_duckByQuacks := goodIn_ca (goodIn_ca (goodIn_ca (goodIn_r _ [6, 7, 8, 9, 10, 11, 12, 5, 13, 14, 15, 16, 17, 18, 19, 20, 21, 22, 23, 24, 25, 26, 27, 28, 29, 30, 31, 32, 33, 34, 35, 36, 37, 38, 39, 40, 41, 42, 43, 44, 45, 46, 47, 48, 49, 50, 51, 52, 53, 54, 55, 56, 57, 58, 59, 60, 61, 62, 63, 64, 65, 66, 67, 68, 69, 70, 71] (by decide +kernel) (by decide +kernel)) (goodIn_sub (fun _ h => List.mem_cons_of_mem _ (List.mem_append_left _ (List.mem_append_right _ h))) (by decide +kernel))) (goodIn_sub (fun _ h => List.mem_cons_of_mem _ (List.mem_append_left _ (List.mem_append_left _ (List.mem_append_right _ h)))) (by decide +kernel))) (goodIn_sub (fun _ h => List.mem_cons_of_mem _ (List.mem_append_right _ h)) (by decide +kernel))
set_option maxRecDepth 20000 in
theorem gL_duckByQuacks_X7_duckByQuacks : GoodIn wsL_duckByQuacks (wsV RL 111 RX7 yX7_duckByQuacks wsX7_duckByQuacks) := goodIn_app (goodIn_of _ (by decide +kernel)) ggL_duckByQuacks_X7_duckByQuacks
theorem dL_duckByQuacks_0 : decode cL_duckByQuacks 0 = .ok (.aload_n 2, 1) := by decide +kernel
theorem dL_duckByQuacks_1 : decode cL_duckByQuacks 1 = .ok (.iconst 0, 1) := by decide +kernel
theorem dL_duckByQuacks_2 : decode cL_duckByQuacks 2 = .ok (.aload_n 0, 1) := by decide +kernel
theorem dL_duckByQuacks_3 : decode cL_duckByQuacks 3 = .ok (.iload_n 1, 1) := by decide +kernel
theorem dL_duckByQuacks_4 : decode cL_duckByQuacks 4 = .ok (.invokevirtual 111, 3) := by decide +kernel
theorem dL_duckByQuacks_7 : decode cL_duckByQuacks 7 = .ok (.i2l, 1) := by decide +kernel
theorem dL_duckByQuacks_8 : decode cL_duckByQuacks 8 = .ok (.lastore, 1) := by decide +kernel
theorem dL_duckByQuacks_9 : decode cL_duckByQuacks 9 = .ok (.goto 6, 3) := by decide +kernel
theorem dL_duckByQuacks_12 : decode cL_duckByQuacks 12 = .ok (.astore_n 3, 1) := by decide +kernel
theorem dL_duckByQuacks_13 : decode cL_duckByQuacks 13 = .ok (.iconst 1, 1) := by decide +kernel
theorem dL_duckByQuacks_14 : decode cL_duckByQuacks 14 = .ok (.ireturn, 1) := by decide +kernel
theorem dL_duckByQuacks_15 : decode cL_duckByQuacks 15 = .ok (.iconst 0, 1) := by decide +kernel
theorem dL_duckByQuacks_16 : decode cL_duckByQuacks 16 = .ok (.ireturn, 1) := by decide +kernel
set_option maxRecDepth 20000 in
theorem ggL_eventKind_X7_eventKind : GoodIn wsL_eventKind wsX7_eventKind := goodIn_ca (goodIn_ca (goodIn_r _ [6, 7, 8, 9, 10, 11, 12, 5, 13, 14, 15, 16, 17, 18, 19, 20, 21, 22, 23, 24, 25, 26, 27, 28, 29, 30, 31, 32] (by decide +kernel) (by decide +kernel)) (goodIn_sub (fun _ h => List.mem_cons_of_mem _ (List.mem_append_left _ (List.mem_append_right _ h))) (by decide +kernel))) (goodIn_sub (fun _ h => List.mem_cons_of_mem _ (List.mem_append_right _ h)) (by decide +kernel))
set_option maxRecDepth 20000 in
theorem gL_eventKind_X7_eventKind : GoodIn wsL_eventKind (wsV RL 114 RX7 yX7_eventKind wsX7_eventKind) := goodIn_app (goodIn_of _ (by decide +kernel)) ggL_eventKind_X7_eventKind
theorem dL_eventKind_0 : decode cL_eventKind 0 = .ok (.aload_n 2, 1) := by decide +kernel
theorem dL_eventKind_1 : decode cL_eventKind 1 = .ok (.iconst 0, 1) := by decide +kernel
theorem dL_eventKind_2 : decode cL_eventKind 2 = .ok (.aload_n 0, 1) := by decide +kernel
theorem dL_eventKind_3 : decode cL_eventKind 3 = .ok (.iload_n 1, 1) := by decide +kernel
theorem dL_eventKind_4 : decode cL_eventKind 4 = .ok (.invokevirtual 114, 3) := by decide +kernel
theorem dL_eventKind_7 : decode cL_eventKind 7 = .ok (.i2l, 1) := by decide +kernel
theorem dL_eventKind_8 : decode cL_eventKind 8 = .ok (.lastore, 1) := by decide +kernel
theorem dL_eventKind_9 : decode cL_eventKind 9 = .ok (.goto 6, 3) := by decide +kernel
theorem dL_eventKind_12 : decode cL_eventKind 12 = .ok (.astore_n 3, 1) := by decide +kernel
theorem dL_eventKind_13 : decode cL_eventKind 13 = .ok (.iconst 1, 1) := by decide +kernel
theorem dL_eventKind_14 : decode cL_eventKind 14 = .ok (.ireturn, 1) := by decide +kernel
theorem dL_eventKind_15 : decode cL_eventKind 15 = .ok (.iconst 0, 1) := by decide +kernel
theorem dL_eventKind_16 : decode cL_eventKind 16 = .ok (.ireturn, 1) := by decide +kernel
set_option maxRecDepth 20000 in
theorem ggL_eventBath_X7_eventBath : GoodIn wsL_eventBath wsX7_eventBath := goodIn_ca (goodIn_ca (goodIn_r _ [6, 7, 8, 9, 10, 11, 12, 5, 13, 14, 15, 16, 17, 18, 19, 20, 21, 22, 23, 24, 25, 26, 27, 28, 29, 30, 31, 32] (by decide +kernel) (by decide +kernel)) (goodIn_sub (fun _ h => List.mem_cons_of_mem _ (List.mem_append_left _ (List.mem_append_right _ h))) (by decide +kernel))) (goodIn_sub (fun _ h => List.mem_cons_of_mem _ (List.mem_append_right _ h)) (by decide +kernel))
set_option maxRecDepth 20000 in
theorem gL_eventBath_X7_eventBath : GoodIn wsL_eventBath (wsV RL 118 RX7 yX7_eventBath wsX7_eventBath) := goodIn_app (goodIn_of _ (by decide +kernel)) ggL_eventBath_X7_eventBath
theorem dL_eventBath_0 : decode cL_eventBath 0 = .ok (.aload_n 2, 1) := by decide +kernel
theorem dL_eventBath_1 : decode cL_eventBath 1 = .ok (.iconst 0, 1) := by decide +kernel
theorem dL_eventBath_2 : decode cL_eventBath 2 = .ok (.aload_n 0, 1) := by decide +kernel
theorem dL_eventBath_3 : decode cL_eventBath 3 = .ok (.iload_n 1, 1) := by decide +kernel
theorem dL_eventBath_4 : decode cL_eventBath 4 = .ok (.invokevirtual 118, 3) := by decide +kernel
theorem dL_eventBath_7 : decode cL_eventBath 7 = .ok (.i2l, 1) := by decide +kernel
theorem dL_eventBath_8 : decode cL_eventBath 8 = .ok (.lastore, 1) := by decide +kernel
theorem dL_eventBath_9 : decode cL_eventBath 9 = .ok (.goto 6, 3) := by decide +kernel
theorem dL_eventBath_12 : decode cL_eventBath 12 = .ok (.astore_n 3, 1) := by decide +kernel
theorem dL_eventBath_13 : decode cL_eventBath 13 = .ok (.iconst 1, 1) := by decide +kernel
theorem dL_eventBath_14 : decode cL_eventBath 14 = .ok (.ireturn, 1) := by decide +kernel
theorem dL_eventBath_15 : decode cL_eventBath 15 = .ok (.iconst 0, 1) := by decide +kernel
theorem dL_eventBath_16 : decode cL_eventBath 16 = .ok (.ireturn, 1) := by decide +kernel
set_option maxRecDepth 20000 in
theorem ggL_eventLitres_X7_eventLitres : GoodIn wsL_eventLitres wsX7_eventLitres := goodIn_ca (goodIn_ca (goodIn_r _ [6, 7, 8, 9, 10, 11, 12, 13, 14, 5, 15, 16, 17, 18, 19, 20, 21, 22, 23, 24, 25, 26, 27, 28, 29, 30, 31, 32] (by decide +kernel) (by decide +kernel)) (goodIn_sub (fun _ h => List.mem_cons_of_mem _ (List.mem_append_left _ (List.mem_append_right _ h))) (by decide +kernel))) (goodIn_sub (fun _ h => List.mem_cons_of_mem _ (List.mem_append_right _ h)) (by decide +kernel))
set_option maxRecDepth 20000 in
theorem gL_eventLitres_X7_eventLitres : GoodIn wsL_eventLitres (wsV RL 121 RX7 yX7_eventLitres wsX7_eventLitres) := goodIn_app (goodIn_of _ (by decide +kernel)) ggL_eventLitres_X7_eventLitres
theorem dL_eventLitres_0 : decode cL_eventLitres 0 = .ok (.aload_n 2, 1) := by decide +kernel
theorem dL_eventLitres_1 : decode cL_eventLitres 1 = .ok (.iconst 0, 1) := by decide +kernel
theorem dL_eventLitres_2 : decode cL_eventLitres 2 = .ok (.aload_n 0, 1) := by decide +kernel
theorem dL_eventLitres_3 : decode cL_eventLitres 3 = .ok (.iload_n 1, 1) := by decide +kernel
theorem dL_eventLitres_4 : decode cL_eventLitres 4 = .ok (.invokevirtual 121, 3) := by decide +kernel
theorem dL_eventLitres_7 : decode cL_eventLitres 7 = .ok (.i2l, 1) := by decide +kernel
theorem dL_eventLitres_8 : decode cL_eventLitres 8 = .ok (.lastore, 1) := by decide +kernel
theorem dL_eventLitres_9 : decode cL_eventLitres 9 = .ok (.goto 6, 3) := by decide +kernel
theorem dL_eventLitres_12 : decode cL_eventLitres 12 = .ok (.astore_n 3, 1) := by decide +kernel
theorem dL_eventLitres_13 : decode cL_eventLitres 13 = .ok (.iconst 1, 1) := by decide +kernel
theorem dL_eventLitres_14 : decode cL_eventLitres 14 = .ok (.ireturn, 1) := by decide +kernel
theorem dL_eventLitres_15 : decode cL_eventLitres 15 = .ok (.iconst 0, 1) := by decide +kernel
theorem dL_eventLitres_16 : decode cL_eventLitres 16 = .ok (.ireturn, 1) := by decide +kernel
set_option maxRecDepth 20000 in
theorem ggL_contentShare_X7_contentShare : GoodIn wsL_contentShare wsX7_contentShare := goodIn_ca (goodIn_ca (goodIn_ca (goodIn_r _ [6, 7, 8, 9, 10, 11, 12, 13, 14, 15, 16, 17, 18, 19, 20, 21, 22, 23, 24, 25, 26, 27, 28, 5, 29, 30, 31, 32, 33, 34, 35, 36, 37, 38, 39, 40, 41, 42, 43, 44, 45, 46, 47, 48, 49, 50, 51, 52, 53, 54, 55, 56, 57, 58, 59] (by decide +kernel) (by decide +kernel)) (goodIn_sub (fun _ h => List.mem_cons_of_mem _ (List.mem_append_left _ (List.mem_append_right _ h))) (by decide +kernel))) (goodIn_sub (fun _ h => List.mem_cons_of_mem _ (List.mem_append_left _ (List.mem_append_left _ (List.mem_append_right _ h)))) (by decide +kernel))) (goodIn_sub (fun _ h => List.mem_cons_of_mem _ (List.mem_append_right _ h)) (by decide +kernel))
set_option maxRecDepth 20000 in
theorem gL_contentShare_X7_contentShare : GoodIn wsL_contentShare (wsV RL 124 RX7 yX7_contentShare wsX7_contentShare) := goodIn_app (goodIn_of _ (by decide +kernel)) ggL_contentShare_X7_contentShare
theorem dL_contentShare_0 : decode cL_contentShare 0 = .ok (.aload_n 1, 1) := by decide +kernel
theorem dL_contentShare_1 : decode cL_contentShare 1 = .ok (.iconst 0, 1) := by decide +kernel
theorem dL_contentShare_2 : decode cL_contentShare 2 = .ok (.aload_n 0, 1) := by decide +kernel
theorem dL_contentShare_3 : decode cL_contentShare 3 = .ok (.invokevirtual 124, 3) := by decide +kernel
theorem dL_contentShare_6 : decode cL_contentShare 6 = .ok (.f2d, 1) := by decide +kernel
theorem dL_contentShare_7 : decode cL_contentShare 7 = .ok (.dastore, 1) := by decide +kernel
theorem dL_contentShare_8 : decode cL_contentShare 8 = .ok (.goto 6, 3) := by decide +kernel
theorem dL_contentShare_11 : decode cL_contentShare 11 = .ok (.astore_n 2, 1) := by decide +kernel
theorem dL_contentShare_12 : decode cL_contentShare 12 = .ok (.iconst 1, 1) := by decide +kernel
theorem dL_contentShare_13 : decode cL_contentShare 13 = .ok (.ireturn, 1) := by decide +kernel
theorem dL_contentShare_14 : decode cL_contentShare 14 = .ok (.iconst 0, 1) := by decide +kernel
theorem dL_contentShare_15 : decode cL_contentShare 15 = .ok (.ireturn, 1) := by decide +kernel
set_option maxRecDepth 20000 in
theorem ggL_renderBath_X7_renderBath : GoodIn wsL_renderBath wsX7_renderBath := goodIn_ca (goodIn_ca (goodIn_ca (goodIn_r _ [6, 7, 8, 9, 10, 11, 12, 13, 14, 15, 5, 16, 17, 18, 19, 20, 21, 22, 23, 24, 25, 26, 27, 28, 29, 30, 31, 32, 33, 34, 35, 36, 37, 38, 39, 40, 41, 42, 43, 44, 45, 46, 47, 48, 49, 50, 51, 52, 53, 54, 55, 56, 57, 58, 59, 60, 61, 62, 63, 64, 65, 66, 67, 68, 69, 70, 71, 72, 73, 74, 75, 76, 77, 78, 79, 80, 81, 82, 83, 84, 85, 86, 87, 88, 89, 90, 91, 92, 93, 94, 95, 96, 97, 98, 99, 100, 101, 102, 103, 104, 105, 106, 107, 108, 109, 110, 111, 112, 113, 114, 115, 116, 117, 118, 119, 120, 121, 122, 123, 124, 125, 126, 127, 128, 129, 130, 131, 132, 133, 134, 135, 136, 137, 138, 139, 140, 141, 142, 143, 144, 145, 146, 147, 148, 149, 150, 151, 152, 153, 154, 155, 156, 157, 158, 159, 160, 161, 162, 163, 164, 165, 166, 167, 168, 169, 170, 171, 172, 173, 174, 175, 176, 177, 178, 179, 180, 181, 182, 183, 184, 185, 186, 187, 188, 189, 190, 191, 192, 193, 194, 195, 196, 197, 198, 199, 200, 201, 202, 203, 204, 205, 206, 207, 208, 209, 210, 211, 212, 213, 214, 215, 216, 217, 218, 219, 220, 221, 222, 223, 224, 225, 226, 227, 228, 229, 230, 231, 232, 233, 234, 235, 236, 237, 238, 239, 240, 241, 242, 243, 244, 245, 246, 247, 248, 249, 250, 251, 252, 253, 254, 255, 256, 257, 258, 259] (by decide +kernel) (by decide +kernel)) (goodIn_sub (fun _ h => List.mem_cons_of_mem _ (List.mem_append_left _ (List.mem_append_left _ (List.mem_append_right _ h)))) (by decide +kernel))) (goodIn_sub (fun _ h => List.mem_cons_of_mem _ (List.mem_append_left _ (List.mem_append_right _ h))) (by decide +kernel))) (goodIn_sub (fun _ h => List.mem_cons_of_mem _ (List.mem_append_right _ h)) (by decide +kernel))
set_option maxRecDepth 20000 in
theorem gL_renderBath_X7_renderBath : GoodIn wsL_renderBath (wsV RL 130 RX7 yX7_renderBath wsX7_renderBath) := goodIn_app (goodIn_of _ (by decide +kernel)) ggL_renderBath_X7_renderBath
theorem dL_renderBath_0 : decode cL_renderBath 0 = .ok (.aload_n 2, 1) := by decide +kernel
theorem dL_renderBath_1 : decode cL_renderBath 1 = .ok (.iconst 0, 1) := by decide +kernel
theorem dL_renderBath_2 : decode cL_renderBath 2 = .ok (.aload_n 0, 1) := by decide +kernel
theorem dL_renderBath_3 : decode cL_renderBath 3 = .ok (.iload_n 1, 1) := by decide +kernel
theorem dL_renderBath_4 : decode cL_renderBath 4 = .ok (.invokevirtual 130, 3) := by decide +kernel
theorem dL_renderBath_7 : decode cL_renderBath 7 = .ok (.i2l, 1) := by decide +kernel
theorem dL_renderBath_8 : decode cL_renderBath 8 = .ok (.lastore, 1) := by decide +kernel
theorem dL_renderBath_9 : decode cL_renderBath 9 = .ok (.goto 6, 3) := by decide +kernel
theorem dL_renderBath_12 : decode cL_renderBath 12 = .ok (.astore_n 3, 1) := by decide +kernel
theorem dL_renderBath_13 : decode cL_renderBath 13 = .ok (.iconst 1, 1) := by decide +kernel
theorem dL_renderBath_14 : decode cL_renderBath 14 = .ok (.ireturn, 1) := by decide +kernel
theorem dL_renderBath_15 : decode cL_renderBath 15 = .ok (.iconst 0, 1) := by decide +kernel
theorem dL_renderBath_16 : decode cL_renderBath 16 = .ok (.ireturn, 1) := by decide +kernel
set_option maxRecDepth 20000 in
theorem ggL_outputAt_X7_outputAt : GoodIn wsL_outputAt wsX7_outputAt := goodIn_ca (goodIn_r _ [6, 7, 8, 9, 10, 11, 12, 13, 14, 15, 16, 17, 18, 19, 20, 21, 22, 23, 24, 25, 26, 27, 28, 29, 30, 31, 32, 33, 34, 35, 36, 37, 38, 39, 40, 41, 42, 43, 44, 45, 46, 47, 48, 49, 50, 51, 52, 53, 54, 55, 56, 57, 58, 59, 60, 61, 62, 63, 64, 65, 66, 67] (by decide +kernel) (by decide +kernel)) (goodIn_sub (fun _ h => List.mem_cons_of_mem _ (List.mem_append_right _ h)) (by decide +kernel))
set_option maxRecDepth 20000 in
theorem gL_outputAt_X7_outputAt : GoodIn wsL_outputAt (wsV RL 133 RX7 yX7_outputAt wsX7_outputAt) := goodIn_app (goodIn_of _ (by decide +kernel)) ggL_outputAt_X7_outputAt
theorem dL_outputAt_0 : decode cL_outputAt 0 = .ok (.aload_n 2, 1) := by decide +kernel
theorem dL_outputAt_1 : decode cL_outputAt 1 = .ok (.iconst 0, 1) := by decide +kernel
theorem dL_outputAt_2 : decode cL_outputAt 2 = .ok (.aload_n 0, 1) := by decide +kernel
theorem dL_outputAt_3 : decode cL_outputAt 3 = .ok (.iload_n 1, 1) := by decide +kernel
theorem dL_outputAt_4 : decode cL_outputAt 4 = .ok (.invokevirtual 133, 3) := by decide +kernel
theorem dL_outputAt_7 : decode cL_outputAt 7 = .ok (.i2l, 1) := by decide +kernel
theorem dL_outputAt_8 : decode cL_outputAt 8 = .ok (.lastore, 1) := by decide +kernel
theorem dL_outputAt_9 : decode cL_outputAt 9 = .ok (.goto 6, 3) := by decide +kernel
theorem dL_outputAt_12 : decode cL_outputAt 12 = .ok (.astore_n 3, 1) := by decide +kernel
theorem dL_outputAt_13 : decode cL_outputAt 13 = .ok (.iconst 1, 1) := by decide +kernel
theorem dL_outputAt_14 : decode cL_outputAt 14 = .ok (.ireturn, 1) := by decide +kernel
theorem dL_outputAt_15 : decode cL_outputAt 15 = .ok (.iconst 0, 1) := by decide +kernel
theorem dL_outputAt_16 : decode cL_outputAt 16 = .ok (.ireturn, 1) := by decide +kernel
set_option maxRecDepth 20000 in
theorem ggL_type_X7_type : GoodIn wsL_type wsX7_type := goodIn_ca (goodIn_ca (goodIn_ca (goodIn_r _ [6, 7, 8, 9, 10, 11, 12, 13, 14, 15, 16, 17, 18, 19, 20, 21, 22, 23, 24, 25, 26, 27, 28, 29, 30, 31, 32, 33, 34, 35, 36, 37] (by decide +kernel) (by decide +kernel)) (goodIn_sub (fun _ h => List.mem_cons_of_mem _ (List.mem_append_left _ (List.mem_append_right _ h))) (by decide +kernel))) (goodIn_sub (fun _ h => List.mem_cons_of_mem _ (List.mem_append_right _ h)) (by decide +kernel))) (goodIn_sub (fun _ h => List.mem_cons_of_mem _ (List.mem_append_left _ (List.mem_append_left _ (List.mem_append_right _ h)))) (by decide +kernel))
set_option maxRecDepth 20000 in
theorem gL_type_X7_type : GoodIn wsL_type (wsV RL 136 RX7 yX7_type wsX7_type) := goodIn_app (goodIn_of _ (by decide +kernel)) ggL_type_X7_type
theorem dL_type_0 : decode cL_type 0 = .ok (.aload_n 2, 1) := by decide +kernel
theorem dL_type_1 : decode cL_type 1 = .ok (.iconst 0, 1) := by decide +kernel
theorem dL_type_2 : decode cL_type 2 = .ok (.aload_n 0, 1) := by decide +kernel
theorem dL_type_3 : decode cL_type 3 = .ok (.iload_n 1, 1) := by decide +kernel
theorem dL_type_4 : decode cL_type 4 = .ok (.invokevirtual 136, 3) := by decide +kernel
theorem dL_type_7 : decode cL_type 7 = .ok (.i2l, 1) := by decide +kernel
theorem dL_type_8 : decode cL_type 8 = .ok (.lastore, 1) := by decide +kernel
theorem dL_type_9 : decode cL_type 9 = .ok (.goto 9, 3) := by decide +kernel
theorem dL_type_12 : decode cL_type 12 = .ok (.astore_n 3, 1) := by decide +kernel
theorem dL_type_13 : decode cL_type 13 = .ok (.iconst 1, 1) := by decide +kernel
theorem dL_type_14 : decode cL_type 14 = .ok (.ireturn, 1) := by decide +kernel
theorem dL_type_15 : decode cL_type 15 = .ok (.astore_n 3, 1) := by decide +kernel
theorem dL_type_16 : decode cL_type 16 = .ok (.iconst 2, 1) := by decide +kernel
theorem dL_type_17 : decode cL_type 17 = .ok (.ireturn, 1) := by decide +kernel
theorem dL_type_18 : decode cL_type 18 = .ok (.iconst 0, 1) := by decide +kernel
theorem dL_type_19 : decode cL_type 19 = .ok (.ireturn, 1) := by decide +kernel
set_option maxRecDepth 20000 in
theorem ggL_runScript_X7_runScript : GoodIn wsL_runScript wsX7_runScript := goodIn_ca (goodIn_ca (goodIn_ca (goodIn_ca (goodIn_r _ [6, 7, 8, 9, 10, 11, 12, 13, 14, 15, 16, 17, 18, 19, 20, 21, 22, 23, 24, 25, 26, 27, 28, 29, 30, 31, 32, 33, 34, 35, 36, 37, 38, 39, 40, 41, 42, 43, 44, 45, 46, 47, 48, 49, 50, 51, 52, 53, 54, 55, 56, 57, 58, 59, 60, 61, 62, 63, 64, 65, 66, 67, 68, 69, 70, 71, 72, 73, 74, 75, 76, 77, 78, 79, 80, 81, 82, 83, 84, 85, 86, 87, 88, 89, 90, 91, 92, 93, 94, 95, 96, 97, 98, 99, 100, 101, 102, 103, 104, 105, 106, 107, 108, 109, 110, 111, 112, 113, 114, 115, 116, 117, 118, 119, 120, 121, 122, 123, 124, 125, 126, 127, 128, 129, 130, 131, 132, 133, 134, 135, 136, 137, 138, 139, 140, 141, 142, 143, 144, 145, 146, 147, 148, 149, 150, 151, 152, 153, 154, 155, 156, 157, 158, 159, 160, 161, 162, 163, 164, 165, 166, 167, 168, 169, 170, 171, 172, 173, 174, 175, 176, 177, 178, 179, 180, 181, 182, 183, 184, 185, 186, 187, 188, 189, 190, 5, 191, 192, 193, 194, 195, 196, 197, 198, 199, 200, 201, 202, 203, 204, 205, 206, 207, 208, 209, 210, 211, 212, 213, 214, 215, 216, 217, 218, 219, 220, 221, 222, 223, 224, 225, 226, 227, 228, 229, 230, 231, 232, 233, 234, 235, 236, 237, 238, 239, 240, 241, 242, 243, 244, 245, 246, 247, 248, 249, 250, 251, 252, 253, 254, 255, 256, 257, 258, 259, 260, 261, 262, 263, 264, 265, 266, 267, 268, 269, 270, 271, 272, 273, 274, 275, 276, 277, 278, 279, 280, 281, 282, 283, 284, 285, 286, 287, 288, 289, 290, 291, 292, 293, 294, 295, 296, 297, 298, 299, 300, 301, 302, 303, 304, 305, 306, 307, 308, 309, 310, 311, 312, 313, 314, 315, 316, 317, 318, 319, 320, 321, 322, 323, 324, 325, 326, 327, 328, 329, 330, 331, 332, 333, 334, 335, 336, 337, 338, 339, 340, 341, 342, 343, 344, 345, 346, 347, 348, 349, 350, 351, 352, 353, 354, 355, 356, 357, 358, 359, 360, 361, 362, 363, 364, 365, 366, 367, 368, 369, 370, 371, 372, 373, 374, 375, 376, 377, 378, 379, 380, 381, 382, 383, 384, 385, 386, 387, 388, 389, 390, 391, 392, 393, 394, 395, 396, 397, 398, 399, 400, 401, 402, 403, 404, 405, 406, 407, 408, 409, 410, 411, 412, 413, 414, 415, 416, 417, 418, 419, 420, 421, 422, 423] (by decide +kernel) (by decide +kernel)) (goodIn_sub (fun _ h => List.mem_cons_of_mem _ (List.mem_append_left _ (List.mem_append_left _ (List.mem_append_right _ h)))) (by decide +kernel))) (goodIn_sub (fun _ h => List.mem_cons_of_mem _ (List.mem_append_left _ (List.mem_append_right _ h))) (by decide +kernel))) (goodIn_sub (fun _ h => List.mem_cons_of_mem _ (List.mem_append_left _ (List.mem_append_left _ (List.mem_append_left _ (List.mem_append_right _ h))))) (by decide +kernel))) (goodIn_sub (fun _ h => List.mem_cons_of_mem _ (List.mem_append_right _ h)) (by decide +kernel))
set_option maxRecDepth 20000 in
theorem gL_runScript_X7_runScript : GoodIn wsL_runScript (wsV RL 140 RX7 yX7_runScript wsX7_runScript) := goodIn_app (goodIn_of _ (by decide +kernel)) ggL_runScript_X7_runScript
theorem dL_runScript_0 : decode cL_runScript 0 = .ok (.aload_n 1, 1) := by decide +kernel
theorem dL_runScript_1 : decode cL_runScript 1 = .ok (.iconst 0, 1) := by decide +kernel
theorem dL_runScript_2 : decode cL_runScript 2 = .ok (.aload_n 0, 1) := by decide +kernel
theorem dL_runScript_3 : decode cL_runScript 3 = .ok (.invokevirtual 140, 3) := by decide +kernel
theorem dL_runScript_6 : decode cL_runScript 6 = .ok (.i2l, 1) := by decide +kernel
theorem dL_runScript_7 : decode cL_runScript 7 = .ok (.lastore, 1) := by decide +kernel
theorem dL_runScript_8 : decode cL_runScript 8 = .ok (.goto 9, 3) := by decide +kernel
theorem dL_runScript_11 : decode cL_runScript 11 = .ok (.astore_n 2, 1) := by decide +kernel
theorem dL_runScript_12 : decode cL_runScript 12 = .ok (.iconst 1, 1) := by decide +kernel
theorem dL_runScript_13 : decode cL_runScript 13 = .ok (.ireturn, 1) := by decide +kernel
theorem dL_runScript_14 : decode cL_runScript 14 = .ok (.astore_n 2, 1) := by decide +kernel
theorem dL_runScript_15 : decode cL_runScript 15 = .ok (.iconst 2, 1) := by decide +kernel
theorem dL_runScript_16 : decode cL_runScript 16 = .ok (.ireturn, 1) := by decide +kernel
theorem dL_runScript_17 : decode cL_runScript 17 = .ok (.iconst 0, 1) := by decide +kernel
theorem dL_runScript_18 : decode cL_runScript 18 = .ok (.ireturn, 1) := by decide +kernel
set_option maxRecDepth 20000 in
theorem ggL_errorPosition_X7_errorPosition : GoodIn wsL_errorPosition wsX7_errorPosition := goodIn_ca (goodIn_r _ [6, 7, 8, 9, 10, 11, 12, 13, 14, 15, 16, 17, 18] (by decide +kernel) (by decide +kernel)) (goodIn_sub (fun _ h => List.mem_cons_of_mem _ (List.mem_append_right _ h)) (by decide +kernel))
set_option maxRecDepth 20000 in
theorem gL_errorPosition_X7_errorPosition : GoodIn wsL_errorPosition (wsV RL 143 RX7 yX7_errorPosition wsX7_errorPosition) := goodIn_app (goodIn_of _ (by decide +kernel)) ggL_errorPosition_X7_errorPosition
theorem dL_errorPosition_0 : decode cL_errorPosition 0 = .ok (.aload_n 1, 1) := by decide +kernel
theorem dL_errorPosition_1 : decode cL_errorPosition 1 = .ok (.iconst 0, 1) := by decide +kernel
theorem dL_errorPosition_2 : decode cL_errorPosition 2 = .ok (.aload_n 0, 1) := by decide +kernel
theorem dL_errorPosition_3 : decode cL_errorPosition 3 = .ok (.invokevirtual 143, 3) := by decide +kernel
theorem dL_errorPosition_6 : decode cL_errorPosition 6 = .ok (.i2l, 1) := by decide +kernel
theorem dL_errorPosition_7 : decode cL_errorPosition 7 = .ok (.lastore, 1) := by decide +kernel
theorem dL_errorPosition_8 : decode cL_errorPosition 8 = .ok (.goto 6, 3) := by decide +kernel
theorem dL_errorPosition_11 : decode cL_errorPosition 11 = .ok (.astore_n 2, 1) := by decide +kernel
theorem dL_errorPosition_12 : decode cL_errorPosition 12 = .ok (.iconst 1, 1) := by decide +kernel
theorem dL_errorPosition_13 : decode cL_errorPosition 13 = .ok (.ireturn, 1) := by decide +kernel
theorem dL_errorPosition_14 : decode cL_errorPosition 14 = .ok (.iconst 0, 1) := by decide +kernel
theorem dL_errorPosition_15 : decode cL_errorPosition 15 = .ok (.ireturn, 1) := by decide +kernel
set_option maxRecDepth 20000 in
theorem ggL_failedCommand_X7_failedCommand : GoodIn wsL_failedCommand wsX7_failedCommand := goodIn_ca (goodIn_r _ [6, 7, 8, 9, 10, 11, 12, 13, 14, 15, 16, 17, 18] (by decide +kernel) (by decide +kernel)) (goodIn_sub (fun _ h => List.mem_cons_of_mem _ (List.mem_append_right _ h)) (by decide +kernel))
set_option maxRecDepth 20000 in
theorem gL_failedCommand_X7_failedCommand : GoodIn wsL_failedCommand (wsV RL 146 RX7 yX7_failedCommand wsX7_failedCommand) := goodIn_app (goodIn_of _ (by decide +kernel)) ggL_failedCommand_X7_failedCommand
theorem dL_failedCommand_0 : decode cL_failedCommand 0 = .ok (.aload_n 1, 1) := by decide +kernel
theorem dL_failedCommand_1 : decode cL_failedCommand 1 = .ok (.iconst 0, 1) := by decide +kernel
theorem dL_failedCommand_2 : decode cL_failedCommand 2 = .ok (.aload_n 0, 1) := by decide +kernel
theorem dL_failedCommand_3 : decode cL_failedCommand 3 = .ok (.invokevirtual 146, 3) := by decide +kernel
theorem dL_failedCommand_6 : decode cL_failedCommand 6 = .ok (.i2l, 1) := by decide +kernel
theorem dL_failedCommand_7 : decode cL_failedCommand 7 = .ok (.lastore, 1) := by decide +kernel
theorem dL_failedCommand_8 : decode cL_failedCommand 8 = .ok (.goto 6, 3) := by decide +kernel
theorem dL_failedCommand_11 : decode cL_failedCommand 11 = .ok (.astore_n 2, 1) := by decide +kernel
theorem dL_failedCommand_12 : decode cL_failedCommand 12 = .ok (.iconst 1, 1) := by decide +kernel
theorem dL_failedCommand_13 : decode cL_failedCommand 13 = .ok (.ireturn, 1) := by decide +kernel
theorem dL_failedCommand_14 : decode cL_failedCommand 14 = .ok (.iconst 0, 1) := by decide +kernel
theorem dL_failedCommand_15 : decode cL_failedCommand 15 = .ok (.ireturn, 1) := by decide +kernel
set_option maxRecDepth 20000 in
theorem ggL_undo_X7_undo : GoodIn wsL_undo wsX7_undo := goodIn_ca (goodIn_ca (goodIn_r _ [6, 7, 8, 9, 10, 11, 12, 13, 14, 15, 16, 17, 18, 19, 20, 21, 22, 23, 24, 25, 26, 27, 28, 29, 30, 31, 32, 33, 34, 35, 36, 37, 38, 39, 40, 41, 42, 43, 44, 45, 46, 47, 48, 49, 50, 51, 52, 53, 54, 55, 56, 57, 58, 59, 60, 61, 62, 63, 64, 65, 66, 67, 68, 69, 70, 71, 72, 73, 74, 75, 76, 77, 78, 79, 80, 81, 82, 83, 84, 85, 86, 87, 88, 89, 90, 91, 92, 93, 94, 95, 96, 97, 98, 99, 100, 101, 102, 103, 104, 105, 106] (by decide +kernel) (by decide +kernel)) (goodIn_sub (fun _ h => List.mem_cons_of_mem _ (List.mem_append_right _ h)) (by decide +kernel))) (goodIn_sub (fun _ h => List.mem_cons_of_mem _ (List.mem_append_left _ (List.mem_append_right _ h))) (by decide +kernel))
set_option maxRecDepth 20000 in
theorem gL_undo_X7_undo : GoodIn wsL_undo (wsV RL 149 RX7 yX7_undo wsX7_undo) := goodIn_app (goodIn_of _ (by decide +kernel)) ggL_undo_X7_undo
theorem dL_undo_0 : decode cL_undo 0 = .ok (.aload_n 1, 1) := by decide +kernel
theorem dL_undo_1 : decode cL_undo 1 = .ok (.iconst 0, 1) := by decide +kernel
theorem dL_undo_2 : decode cL_undo 2 = .ok (.aload_n 0, 1) := by decide +kernel
theorem dL_undo_3 : decode cL_undo 3 = .ok (.invokevirtual 149, 3) := by decide +kernel
theorem dL_undo_6 : decode cL_undo 6 = .ok (.i2l, 1) := by decide +kernel
theorem dL_undo_7 : decode cL_undo 7 = .ok (.lastore, 1) := by decide +kernel
theorem dL_undo_8 : decode cL_undo 8 = .ok (.goto 6, 3) := by decide +kernel
theorem dL_undo_11 : decode cL_undo 11 = .ok (.astore_n 2, 1) := by decide +kernel
theorem dL_undo_12 : decode cL_undo 12 = .ok (.iconst 1, 1) := by decide +kernel
theorem dL_undo_13 : decode cL_undo 13 = .ok (.ireturn, 1) := by decide +kernel
theorem dL_undo_14 : decode cL_undo 14 = .ok (.iconst 0, 1) := by decide +kernel
theorem dL_undo_15 : decode cL_undo 15 = .ok (.ireturn, 1) := by decide +kernel
set_option maxRecDepth 20000 in
theorem ggL_restore_X7_restore : GoodIn wsL_restore wsX7_restore := goodIn_ca (goodIn_ca (goodIn_r _ [6, 7, 8, 9, 10, 11, 12, 13, 14, 15, 16, 17, 18, 19, 20, 21, 22, 23, 24, 25, 26, 27, 28, 29, 30, 31, 32, 33, 34, 35, 36, 37, 38, 39, 40, 41, 42, 43, 44, 45, 46, 47, 48, 49, 50, 51, 52, 53, 54, 55, 56, 57, 58, 59, 60, 61, 62, 63, 64, 65, 66, 67, 68, 69, 70, 71, 72, 73, 74, 75, 76, 77, 78, 79, 80, 81, 82, 83, 84, 85, 86, 87, 88, 89, 90, 91, 92, 93, 94, 95, 96, 97, 98, 99, 100, 101, 102, 103, 104, 105, 106, 107] (by decide +kernel) (by decide +kernel)) (goodIn_sub (fun _ h => List.mem_cons_of_mem _ (List.mem_append_right _ h)) (by decide +kernel))) (goodIn_sub (fun _ h => List.mem_cons_of_mem _ (List.mem_append_left _ (List.mem_append_right _ h))) (by decide +kernel))
set_option maxRecDepth 20000 in
theorem gL_restore_X7_restore : GoodIn wsL_restore (wsV RL 152 RX7 yX7_restore wsX7_restore) := goodIn_app (goodIn_of _ (by decide +kernel)) ggL_restore_X7_restore
theorem dL_restore_0 : decode cL_restore 0 = .ok (.aload_n 1, 1) := by decide +kernel
theorem dL_restore_1 : decode cL_restore 1 = .ok (.iconst 0, 1) := by decide +kernel
theorem dL_restore_2 : decode cL_restore 2 = .ok (.aload_n 0, 1) := by decide +kernel
theorem dL_restore_3 : decode cL_restore 3 = .ok (.invokevirtual 152, 3) := by decide +kernel
theorem dL_restore_6 : decode cL_restore 6 = .ok (.i2l, 1) := by decide +kernel
theorem dL_restore_7 : decode cL_restore 7 = .ok (.lastore, 1) := by decide +kernel
theorem dL_restore_8 : decode cL_restore 8 = .ok (.goto 6, 3) := by decide +kernel
theorem dL_restore_11 : decode cL_restore 11 = .ok (.astore_n 2, 1) := by decide +kernel
theorem dL_restore_12 : decode cL_restore 12 = .ok (.iconst 1, 1) := by decide +kernel
theorem dL_restore_13 : decode cL_restore 13 = .ok (.ireturn, 1) := by decide +kernel
theorem dL_restore_14 : decode cL_restore 14 = .ok (.iconst 0, 1) := by decide +kernel
theorem dL_restore_15 : decode cL_restore 15 = .ok (.ireturn, 1) := by decide +kernel

