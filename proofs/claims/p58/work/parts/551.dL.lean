/-! the law's code, 0 -/
theorem dL_cell_0 : decode cL_cell 0 = .ok (.iload_n 1, 1) := by decide +kernel
theorem dL_cell_1 : decode cL_cell 1 = .ok (.aload_n 0, 1) := by decide +kernel
theorem dL_cell_2 : decode cL_cell 2 = .ok (.arraylength, 1) := by decide +kernel
theorem dL_cell_3 : decode cL_cell 3 = .ok (.if_icmp .ge 9, 3) := by decide +kernel
theorem dL_cell_6 : decode cL_cell 6 = .ok (.aload_n 0, 1) := by decide +kernel
theorem dL_cell_7 : decode cL_cell 7 = .ok (.iload_n 1, 1) := by decide +kernel
theorem dL_cell_8 : decode cL_cell 8 = .ok (.iaload, 1) := by decide +kernel
theorem dL_cell_9 : decode cL_cell 9 = .ok (.goto 7, 3) := by decide +kernel
theorem dL_cell_12 : decode cL_cell 12 = .ok (.ldc 7, 2) := by decide +kernel
theorem dL_cell_14 : decode cL_cell 14 = .ok (.iload_n 1, 1) := by decide +kernel
theorem dL_cell_15 : decode cL_cell 15 = .ok (.imul, 1) := by decide +kernel
theorem dL_cell_16 : decode cL_cell 16 = .ok (.ireturn, 1) := by decide +kernel
theorem dL_addBath_0 : decode cL_addBath 0 = .ok (.aload_n 0, 1) := by decide +kernel
theorem dL_addBath_1 : decode cL_addBath 1 = .ok (.invokevirtual 8, 3) := by decide +kernel
theorem dL_addBath_4 : decode cL_addBath 4 = .ok (.ireturn, 1) := by decide +kernel
theorem dL_addBath_5 : decode cL_addBath 5 = .ok (.astore_n 1, 1) := by decide +kernel
theorem dL_addBath_6 : decode cL_addBath 6 = .ok (.iconst (-1), 1) := by decide +kernel
theorem dL_addBath_7 : decode cL_addBath 7 = .ok (.ireturn, 1) := by decide +kernel
theorem dL_runTap_0 : decode cL_runTap 0 = .ok (.aload_n 0, 1) := by decide +kernel
theorem dL_runTap_1 : decode cL_runTap 1 = .ok (.iload_n 1, 1) := by decide +kernel
theorem dL_runTap_2 : decode cL_runTap 2 = .ok (.iload_n 2, 1) := by decide +kernel
theorem dL_runTap_3 : decode cL_runTap 3 = .ok (.iload_n 3, 1) := by decide +kernel
theorem dL_runTap_4 : decode cL_runTap 4 = .ok (.invokevirtual 16, 3) := by decide +kernel
theorem dL_runTap_7 : decode cL_runTap 7 = .ok (.ireturn, 1) := by decide +kernel
theorem dL_runTap_8 : decode cL_runTap 8 = .ok (.astore 4, 2) := by decide +kernel
theorem dL_runTap_10 : decode cL_runTap 10 = .ok (.iconst (-1), 1) := by decide +kernel
theorem dL_runTap_11 : decode cL_runTap 11 = .ok (.ireturn, 1) := by decide +kernel
theorem dL_runTap_12 : decode cL_runTap 12 = .ok (.astore 4, 2) := by decide +kernel
theorem dL_runTap_14 : decode cL_runTap 14 = .ok (.bipush (-2), 2) := by decide +kernel
theorem dL_runTap_16 : decode cL_runTap 16 = .ok (.ireturn, 1) := by decide +kernel
theorem dL_runTap_17 : decode cL_runTap 17 = .ok (.astore 4, 2) := by decide +kernel
theorem dL_runTap_19 : decode cL_runTap 19 = .ok (.bipush (-3), 2) := by decide +kernel
theorem dL_runTap_21 : decode cL_runTap 21 = .ok (.ireturn, 1) := by decide +kernel
theorem dL_setPlug_0 : decode cL_setPlug 0 = .ok (.aload_n 0, 1) := by decide +kernel
theorem dL_setPlug_1 : decode cL_setPlug 1 = .ok (.iload_n 1, 1) := by decide +kernel
theorem dL_setPlug_2 : decode cL_setPlug 2 = .ok (.iload_n 2, 1) := by decide +kernel
theorem dL_setPlug_3 : decode cL_setPlug 3 = .ok (.invokevirtual 26, 3) := by decide +kernel
theorem dL_setPlug_6 : decode cL_setPlug 6 = .ok (.ifCond .eq 7, 3) := by decide +kernel
theorem dL_setPlug_9 : decode cL_setPlug 9 = .ok (.iconst 1, 1) := by decide +kernel
theorem dL_setPlug_10 : decode cL_setPlug 10 = .ok (.goto 4, 3) := by decide +kernel
theorem dL_setPlug_13 : decode cL_setPlug 13 = .ok (.iconst 0, 1) := by decide +kernel
theorem dL_setPlug_14 : decode cL_setPlug 14 = .ok (.ireturn, 1) := by decide +kernel
theorem dL_setPlug_15 : decode cL_setPlug 15 = .ok (.astore_n 3, 1) := by decide +kernel
theorem dL_setPlug_16 : decode cL_setPlug 16 = .ok (.iconst (-1), 1) := by decide +kernel
theorem dL_setPlug_17 : decode cL_setPlug 17 = .ok (.ireturn, 1) := by decide +kernel
theorem dL_pour_0 : decode cL_pour 0 = .ok (.aload_n 0, 1) := by decide +kernel
theorem dL_pour_1 : decode cL_pour 1 = .ok (.iload_n 1, 1) := by decide +kernel
theorem dL_pour_2 : decode cL_pour 2 = .ok (.iload_n 2, 1) := by decide +kernel
theorem dL_pour_3 : decode cL_pour 3 = .ok (.iload_n 3, 1) := by decide +kernel
theorem dL_pour_4 : decode cL_pour 4 = .ok (.invokevirtual 30, 3) := by decide +kernel
theorem dL_pour_7 : decode cL_pour 7 = .ok (.ireturn, 1) := by decide +kernel
theorem dL_pour_8 : decode cL_pour 8 = .ok (.astore 4, 2) := by decide +kernel
theorem dL_pour_10 : decode cL_pour 10 = .ok (.iconst (-1), 1) := by decide +kernel
theorem dL_pour_11 : decode cL_pour 11 = .ok (.ireturn, 1) := by decide +kernel
theorem dL_pour_12 : decode cL_pour 12 = .ok (.astore 4, 2) := by decide +kernel
theorem dL_pour_14 : decode cL_pour 14 = .ok (.bipush (-2), 2) := by decide +kernel
theorem dL_pour_16 : decode cL_pour 16 = .ok (.ireturn, 1) := by decide +kernel
theorem dL_pour_17 : decode cL_pour 17 = .ok (.astore 4, 2) := by decide +kernel
theorem dL_pour_19 : decode cL_pour 19 = .ok (.bipush (-3), 2) := by decide +kernel
theorem dL_pour_21 : decode cL_pour 21 = .ok (.ireturn, 1) := by decide +kernel
theorem dL_pour_22 : decode cL_pour 22 = .ok (.astore 4, 2) := by decide +kernel
theorem dL_pour_24 : decode cL_pour 24 = .ok (.bipush (-4), 2) := by decide +kernel
theorem dL_pour_26 : decode cL_pour 26 = .ok (.ireturn, 1) := by decide +kernel
theorem dL_addDuck_0 : decode cL_addDuck 0 = .ok (.aload_n 0, 1) := by decide +kernel
theorem dL_addDuck_1 : decode cL_addDuck 1 = .ok (.iload_n 1, 1) := by decide +kernel
theorem dL_addDuck_2 : decode cL_addDuck 2 = .ok (.iload_n 2, 1) := by decide +kernel
theorem dL_addDuck_3 : decode cL_addDuck 3 = .ok (.iload_n 3, 1) := by decide +kernel
theorem dL_addDuck_4 : decode cL_addDuck 4 = .ok (.invokevirtual 35, 3) := by decide +kernel
theorem dL_addDuck_7 : decode cL_addDuck 7 = .ok (.ireturn, 1) := by decide +kernel
theorem dL_addDuck_8 : decode cL_addDuck 8 = .ok (.astore 4, 2) := by decide +kernel
theorem dL_addDuck_10 : decode cL_addDuck 10 = .ok (.iconst (-1), 1) := by decide +kernel
theorem dL_addDuck_11 : decode cL_addDuck 11 = .ok (.ireturn, 1) := by decide +kernel
theorem dL_addDuck_12 : decode cL_addDuck 12 = .ok (.astore 4, 2) := by decide +kernel
theorem dL_addDuck_14 : decode cL_addDuck 14 = .ok (.bipush (-2), 2) := by decide +kernel
theorem dL_addDuck_16 : decode cL_addDuck 16 = .ok (.ireturn, 1) := by decide +kernel
theorem dL_addDuck_17 : decode cL_addDuck 17 = .ok (.astore 4, 2) := by decide +kernel
theorem dL_addDuck_19 : decode cL_addDuck 19 = .ok (.bipush (-3), 2) := by decide +kernel
theorem dL_addDuck_21 : decode cL_addDuck 21 = .ok (.ireturn, 1) := by decide +kernel
theorem dL_join_0 : decode cL_join 0 = .ok (.aload_n 0, 1) := by decide +kernel
theorem dL_join_1 : decode cL_join 1 = .ok (.iload_n 1, 1) := by decide +kernel
theorem dL_join_2 : decode cL_join 2 = .ok (.invokevirtual 38, 3) := by decide +kernel
theorem dL_join_5 : decode cL_join 5 = .ok (.ireturn, 1) := by decide +kernel
theorem dL_join_6 : decode cL_join 6 = .ok (.astore_n 2, 1) := by decide +kernel
theorem dL_join_7 : decode cL_join 7 = .ok (.iconst (-1), 1) := by decide +kernel
theorem dL_join_8 : decode cL_join 8 = .ok (.ireturn, 1) := by decide +kernel
theorem dL_join_9 : decode cL_join 9 = .ok (.astore_n 2, 1) := by decide +kernel
theorem dL_join_10 : decode cL_join 10 = .ok (.bipush (-2), 2) := by decide +kernel
theorem dL_join_12 : decode cL_join 12 = .ok (.ireturn, 1) := by decide +kernel
theorem dL_join_13 : decode cL_join 13 = .ok (.astore_n 2, 1) := by decide +kernel
theorem dL_join_14 : decode cL_join 14 = .ok (.bipush (-3), 2) := by decide +kernel
theorem dL_join_16 : decode cL_join 16 = .ok (.ireturn, 1) := by decide +kernel
theorem dL_leave_0 : decode cL_leave 0 = .ok (.aload_n 0, 1) := by decide +kernel
theorem dL_leave_1 : decode cL_leave 1 = .ok (.iload_n 1, 1) := by decide +kernel
theorem dL_leave_2 : decode cL_leave 2 = .ok (.invokevirtual 42, 3) := by decide +kernel
theorem dL_leave_5 : decode cL_leave 5 = .ok (.ireturn, 1) := by decide +kernel
theorem dL_leave_6 : decode cL_leave 6 = .ok (.astore_n 2, 1) := by decide +kernel
theorem dL_leave_7 : decode cL_leave 7 = .ok (.iconst (-1), 1) := by decide +kernel
theorem dL_leave_8 : decode cL_leave 8 = .ok (.ireturn, 1) := by decide +kernel
theorem dL_leave_9 : decode cL_leave 9 = .ok (.astore_n 2, 1) := by decide +kernel
theorem dL_leave_10 : decode cL_leave 10 = .ok (.bipush (-2), 2) := by decide +kernel
theorem dL_leave_12 : decode cL_leave 12 = .ok (.ireturn, 1) := by decide +kernel
theorem dL_advance_0 : decode cL_advance 0 = .ok (.aload_n 0, 1) := by decide +kernel
theorem dL_advance_1 : decode cL_advance 1 = .ok (.iload_n 1, 1) := by decide +kernel
theorem dL_advance_2 : decode cL_advance 2 = .ok (.invokevirtual 45, 3) := by decide +kernel
theorem dL_advance_5 : decode cL_advance 5 = .ok (.ireturn, 1) := by decide +kernel
theorem dL_advance_6 : decode cL_advance 6 = .ok (.astore_n 2, 1) := by decide +kernel
theorem dL_advance_7 : decode cL_advance 7 = .ok (.iconst (-1), 1) := by decide +kernel
theorem dL_advance_8 : decode cL_advance 8 = .ok (.ireturn, 1) := by decide +kernel
theorem dL_volume_0 : decode cL_volume 0 = .ok (.aload_n 0, 1) := by decide +kernel
theorem dL_volume_1 : decode cL_volume 1 = .ok (.iload_n 1, 1) := by decide +kernel
theorem dL_volume_2 : decode cL_volume 2 = .ok (.invokevirtual 48, 3) := by decide +kernel
theorem dL_volume_5 : decode cL_volume 5 = .ok (.ireturn, 1) := by decide +kernel
theorem dL_volume_6 : decode cL_volume 6 = .ok (.astore_n 2, 1) := by decide +kernel
theorem dL_volume_7 : decode cL_volume 7 = .ok (.bipush (-11), 2) := by decide +kernel
theorem dL_volume_9 : decode cL_volume 9 = .ok (.ireturn, 1) := by decide +kernel
theorem dL_heat_0 : decode cL_heat 0 = .ok (.aload_n 0, 1) := by decide +kernel
theorem dL_heat_1 : decode cL_heat 1 = .ok (.iload_n 1, 1) := by decide +kernel
theorem dL_heat_2 : decode cL_heat 2 = .ok (.invokevirtual 51, 3) := by decide +kernel
theorem dL_heat_5 : decode cL_heat 5 = .ok (.ireturn, 1) := by decide +kernel
theorem dL_heat_6 : decode cL_heat 6 = .ok (.astore_n 2, 1) := by decide +kernel
theorem dL_heat_7 : decode cL_heat 7 = .ok (.bipush (-11), 2) := by decide +kernel
theorem dL_heat_9 : decode cL_heat 9 = .ok (.ireturn, 1) := by decide +kernel
theorem dL_temperature_0 : decode cL_temperature 0 = .ok (.aload_n 0, 1) := by decide +kernel
theorem dL_temperature_1 : decode cL_temperature 1 = .ok (.iload_n 1, 1) := by decide +kernel
theorem dL_temperature_2 : decode cL_temperature 2 = .ok (.invokevirtual 54, 3) := by decide +kernel
theorem dL_temperature_5 : decode cL_temperature 5 = .ok (.ireturn, 1) := by decide +kernel
theorem dL_temperature_6 : decode cL_temperature 6 = .ok (.astore_n 2, 1) := by decide +kernel
theorem dL_temperature_7 : decode cL_temperature 7 = .ok (.bipush (-11), 2) := by decide +kernel
theorem dL_temperature_9 : decode cL_temperature 9 = .ok (.ireturn, 1) := by decide +kernel
theorem dL_temperature_10 : decode cL_temperature 10 = .ok (.astore_n 2, 1) := by decide +kernel
theorem dL_temperature_11 : decode cL_temperature 11 = .ok (.bipush (-13), 2) := by decide +kernel
theorem dL_temperature_13 : decode cL_temperature 13 = .ok (.ireturn, 1) := by decide +kernel
theorem dL_isWarmer_0 : decode cL_isWarmer 0 = .ok (.aload_n 0, 1) := by decide +kernel
theorem dL_isWarmer_1 : decode cL_isWarmer 1 = .ok (.iload_n 1, 1) := by decide +kernel
theorem dL_isWarmer_2 : decode cL_isWarmer 2 = .ok (.iload_n 2, 1) := by decide +kernel
theorem dL_isWarmer_3 : decode cL_isWarmer 3 = .ok (.invokevirtual 57, 3) := by decide +kernel
theorem dL_isWarmer_6 : decode cL_isWarmer 6 = .ok (.ifCond .eq 7, 3) := by decide +kernel
theorem dL_isWarmer_9 : decode cL_isWarmer 9 = .ok (.iconst 1, 1) := by decide +kernel
theorem dL_isWarmer_10 : decode cL_isWarmer 10 = .ok (.goto 4, 3) := by decide +kernel
theorem dL_isWarmer_13 : decode cL_isWarmer 13 = .ok (.iconst 0, 1) := by decide +kernel
theorem dL_isWarmer_14 : decode cL_isWarmer 14 = .ok (.ireturn, 1) := by decide +kernel
theorem dL_isWarmer_15 : decode cL_isWarmer 15 = .ok (.astore_n 3, 1) := by decide +kernel
theorem dL_isWarmer_16 : decode cL_isWarmer 16 = .ok (.bipush (-11), 2) := by decide +kernel
theorem dL_isWarmer_18 : decode cL_isWarmer 18 = .ok (.ireturn, 1) := by decide +kernel
theorem dL_isWarmer_19 : decode cL_isWarmer 19 = .ok (.astore_n 3, 1) := by decide +kernel
theorem dL_isWarmer_20 : decode cL_isWarmer 20 = .ok (.bipush (-13), 2) := by decide +kernel
theorem dL_isWarmer_22 : decode cL_isWarmer 22 = .ok (.ireturn, 1) := by decide +kernel
theorem dL_isPlugged_0 : decode cL_isPlugged 0 = .ok (.aload_n 0, 1) := by decide +kernel
theorem dL_isPlugged_1 : decode cL_isPlugged 1 = .ok (.iload_n 1, 1) := by decide +kernel
theorem dL_isPlugged_2 : decode cL_isPlugged 2 = .ok (.invokevirtual 61, 3) := by decide +kernel
theorem dL_isPlugged_5 : decode cL_isPlugged 5 = .ok (.ifCond .eq 7, 3) := by decide +kernel
theorem dL_isPlugged_8 : decode cL_isPlugged 8 = .ok (.iconst 1, 1) := by decide +kernel
theorem dL_isPlugged_9 : decode cL_isPlugged 9 = .ok (.goto 4, 3) := by decide +kernel
theorem dL_isPlugged_12 : decode cL_isPlugged 12 = .ok (.iconst 0, 1) := by decide +kernel
theorem dL_isPlugged_13 : decode cL_isPlugged 13 = .ok (.ireturn, 1) := by decide +kernel
theorem dL_isPlugged_14 : decode cL_isPlugged 14 = .ok (.astore_n 2, 1) := by decide +kernel
theorem dL_isPlugged_15 : decode cL_isPlugged 15 = .ok (.bipush (-11), 2) := by decide +kernel
theorem dL_isPlugged_17 : decode cL_isPlugged 17 = .ok (.ireturn, 1) := by decide +kernel
theorem dL_byTemperature_0 : decode cL_byTemperature 0 = .ok (.aload_n 0, 1) := by decide +kernel
theorem dL_byTemperature_1 : decode cL_byTemperature 1 = .ok (.iload_n 1, 1) := by decide +kernel
theorem dL_byTemperature_2 : decode cL_byTemperature 2 = .ok (.invokevirtual 65, 3) := by decide +kernel
theorem dL_byTemperature_5 : decode cL_byTemperature 5 = .ok (.ireturn, 1) := by decide +kernel
theorem dL_byTemperature_6 : decode cL_byTemperature 6 = .ok (.astore_n 2, 1) := by decide +kernel
theorem dL_byTemperature_7 : decode cL_byTemperature 7 = .ok (.bipush (-13), 2) := by decide +kernel
theorem dL_byTemperature_9 : decode cL_byTemperature 9 = .ok (.ireturn, 1) := by decide +kernel
theorem dL_litres_0 : decode cL_litres 0 = .ok (.aload_n 0, 1) := by decide +kernel
theorem dL_litres_1 : decode cL_litres 1 = .ok (.iload_n 1, 1) := by decide +kernel
theorem dL_litres_2 : decode cL_litres 2 = .ok (.iload_n 2, 1) := by decide +kernel
theorem dL_litres_3 : decode cL_litres 3 = .ok (.iload_n 3, 1) := by decide +kernel
theorem dL_litres_4 : decode cL_litres 4 = .ok (.invokevirtual 68, 3) := by decide +kernel
theorem dL_litres_7 : decode cL_litres 7 = .ok (.ireturn, 1) := by decide +kernel
theorem dL_litres_8 : decode cL_litres 8 = .ok (.astore 4, 2) := by decide +kernel
theorem dL_litres_10 : decode cL_litres 10 = .ok (.bipush (-11), 2) := by decide +kernel
theorem dL_litres_12 : decode cL_litres 12 = .ok (.ireturn, 1) := by decide +kernel
theorem dL_litres_13 : decode cL_litres 13 = .ok (.astore 4, 2) := by decide +kernel
theorem dL_litres_15 : decode cL_litres 15 = .ok (.bipush (-12), 2) := by decide +kernel
theorem dL_litres_17 : decode cL_litres 17 = .ok (.ireturn, 1) := by decide +kernel
theorem dL_litres_18 : decode cL_litres 18 = .ok (.astore 4, 2) := by decide +kernel
theorem dL_litres_20 : decode cL_litres 20 = .ok (.bipush (-13), 2) := by decide +kernel
theorem dL_litres_22 : decode cL_litres 22 = .ok (.ireturn, 1) := by decide +kernel
theorem dL_litres_23 : decode cL_litres 23 = .ok (.astore 4, 2) := by decide +kernel
theorem dL_litres_25 : decode cL_litres 25 = .ok (.bipush (-15), 2) := by decide +kernel
theorem dL_litres_27 : decode cL_litres 27 = .ok (.ireturn, 1) := by decide +kernel
theorem dL_byFormula_0 : decode cL_byFormula 0 = .ok (.aload_n 0, 1) := by decide +kernel
theorem dL_byFormula_1 : decode cL_byFormula 1 = .ok (.iload_n 1, 1) := by decide +kernel
theorem dL_byFormula_2 : decode cL_byFormula 2 = .ok (.iload_n 2, 1) := by decide +kernel
theorem dL_byFormula_3 : decode cL_byFormula 3 = .ok (.iload_n 3, 1) := by decide +kernel
theorem dL_byFormula_4 : decode cL_byFormula 4 = .ok (.invokevirtual 71, 3) := by decide +kernel
theorem dL_byFormula_7 : decode cL_byFormula 7 = .ok (.ireturn, 1) := by decide +kernel
theorem dL_byFormula_8 : decode cL_byFormula 8 = .ok (.astore 4, 2) := by decide +kernel
theorem dL_byFormula_10 : decode cL_byFormula 10 = .ok (.bipush (-11), 2) := by decide +kernel
theorem dL_byFormula_12 : decode cL_byFormula 12 = .ok (.ireturn, 1) := by decide +kernel
theorem dL_byFormula_13 : decode cL_byFormula 13 = .ok (.astore 4, 2) := by decide +kernel
theorem dL_byFormula_15 : decode cL_byFormula 15 = .ok (.bipush (-12), 2) := by decide +kernel
theorem dL_byFormula_17 : decode cL_byFormula 17 = .ok (.ireturn, 1) := by decide +kernel
theorem dL_byFormula_18 : decode cL_byFormula 18 = .ok (.astore 4, 2) := by decide +kernel
theorem dL_byFormula_20 : decode cL_byFormula 20 = .ok (.bipush (-13), 2) := by decide +kernel
theorem dL_byFormula_22 : decode cL_byFormula 22 = .ok (.ireturn, 1) := by decide +kernel
theorem dL_byFormula_23 : decode cL_byFormula 23 = .ok (.astore 4, 2) := by decide +kernel
theorem dL_byFormula_25 : decode cL_byFormula 25 = .ok (.bipush (-15), 2) := by decide +kernel
theorem dL_byFormula_27 : decode cL_byFormula 27 = .ok (.ireturn, 1) := by decide +kernel
theorem dL_isMember_0 : decode cL_isMember 0 = .ok (.aload_n 0, 1) := by decide +kernel
theorem dL_isMember_1 : decode cL_isMember 1 = .ok (.iload_n 1, 1) := by decide +kernel
theorem dL_isMember_2 : decode cL_isMember 2 = .ok (.invokevirtual 74, 3) := by decide +kernel
theorem dL_isMember_5 : decode cL_isMember 5 = .ok (.ifCond .eq 7, 3) := by decide +kernel
theorem dL_isMember_8 : decode cL_isMember 8 = .ok (.iconst 1, 1) := by decide +kernel
theorem dL_isMember_9 : decode cL_isMember 9 = .ok (.goto 4, 3) := by decide +kernel
theorem dL_isMember_12 : decode cL_isMember 12 = .ok (.iconst 0, 1) := by decide +kernel
theorem dL_isMember_13 : decode cL_isMember 13 = .ok (.ireturn, 1) := by decide +kernel
theorem dL_isMember_14 : decode cL_isMember 14 = .ok (.astore_n 2, 1) := by decide +kernel
theorem dL_isMember_15 : decode cL_isMember 15 = .ok (.bipush (-11), 2) := by decide +kernel
theorem dL_isMember_17 : decode cL_isMember 17 = .ok (.ireturn, 1) := by decide +kernel
theorem dL_warmest_0 : decode cL_warmest 0 = .ok (.aload_n 0, 1) := by decide +kernel
theorem dL_warmest_1 : decode cL_warmest 1 = .ok (.invokevirtual 77, 3) := by decide +kernel
theorem dL_warmest_4 : decode cL_warmest 4 = .ok (.ireturn, 1) := by decide +kernel
theorem dL_warmest_5 : decode cL_warmest 5 = .ok (.astore_n 1, 1) := by decide +kernel
theorem dL_warmest_6 : decode cL_warmest 6 = .ok (.bipush (-13), 2) := by decide +kernel
theorem dL_warmest_8 : decode cL_warmest 8 = .ok (.ireturn, 1) := by decide +kernel
theorem dL_coldest_0 : decode cL_coldest 0 = .ok (.aload_n 0, 1) := by decide +kernel
theorem dL_coldest_1 : decode cL_coldest 1 = .ok (.invokevirtual 80, 3) := by decide +kernel
theorem dL_coldest_4 : decode cL_coldest 4 = .ok (.ireturn, 1) := by decide +kernel
theorem dL_coldest_5 : decode cL_coldest 5 = .ok (.astore_n 1, 1) := by decide +kernel
theorem dL_coldest_6 : decode cL_coldest 6 = .ok (.bipush (-13), 2) := by decide +kernel
theorem dL_coldest_8 : decode cL_coldest 8 = .ok (.ireturn, 1) := by decide +kernel
theorem dL_shared_0 : decode cL_shared 0 = .ok (.aload_n 0, 1) := by decide +kernel
theorem dL_shared_1 : decode cL_shared 1 = .ok (.invokevirtual 83, 3) := by decide +kernel
theorem dL_shared_4 : decode cL_shared 4 = .ok (.ireturn, 1) := by decide +kernel
theorem dL_shared_5 : decode cL_shared 5 = .ok (.astore_n 1, 1) := by decide +kernel
theorem dL_shared_6 : decode cL_shared 6 = .ok (.bipush (-13), 2) := by decide +kernel
theorem dL_shared_8 : decode cL_shared 8 = .ok (.ireturn, 1) := by decide +kernel
theorem dL_until_0 : decode cL_until 0 = .ok (.aload_n 0, 1) := by decide +kernel
theorem dL_until_1 : decode cL_until 1 = .ok (.iload_n 1, 1) := by decide +kernel
theorem dL_until_2 : decode cL_until 2 = .ok (.invokevirtual 86, 3) := by decide +kernel
theorem dL_until_5 : decode cL_until 5 = .ok (.ireturn, 1) := by decide +kernel
theorem dL_until_6 : decode cL_until 6 = .ok (.astore_n 2, 1) := by decide +kernel
theorem dL_until_7 : decode cL_until 7 = .ok (.bipush (-11), 2) := by decide +kernel
theorem dL_until_9 : decode cL_until 9 = .ok (.ireturn, 1) := by decide +kernel
theorem dL_until_10 : decode cL_until 10 = .ok (.astore_n 2, 1) := by decide +kernel
theorem dL_until_11 : decode cL_until 11 = .ok (.bipush (-14), 2) := by decide +kernel
theorem dL_until_13 : decode cL_until 13 = .ok (.ireturn, 1) := by decide +kernel
theorem dL_until_14 : decode cL_until 14 = .ok (.astore_n 2, 1) := by decide +kernel
theorem dL_until_15 : decode cL_until 15 = .ok (.bipush (-13), 2) := by decide +kernel
theorem dL_until_17 : decode cL_until 17 = .ok (.ireturn, 1) := by decide +kernel
theorem dL_heatAfter_0 : decode cL_heatAfter 0 = .ok (.aload_n 0, 1) := by decide +kernel
theorem dL_heatAfter_1 : decode cL_heatAfter 1 = .ok (.iload_n 1, 1) := by decide +kernel
theorem dL_heatAfter_2 : decode cL_heatAfter 2 = .ok (.iload_n 2, 1) := by decide +kernel
theorem dL_heatAfter_3 : decode cL_heatAfter 3 = .ok (.invokevirtual 89, 3) := by decide +kernel
theorem dL_heatAfter_6 : decode cL_heatAfter 6 = .ok (.ireturn, 1) := by decide +kernel
theorem dL_heatAfter_7 : decode cL_heatAfter 7 = .ok (.astore_n 3, 1) := by decide +kernel
theorem dL_heatAfter_8 : decode cL_heatAfter 8 = .ok (.bipush (-11), 2) := by decide +kernel
theorem dL_heatAfter_10 : decode cL_heatAfter 10 = .ok (.ireturn, 1) := by decide +kernel
theorem dL_heatAfter_11 : decode cL_heatAfter 11 = .ok (.astore_n 3, 1) := by decide +kernel
theorem dL_heatAfter_12 : decode cL_heatAfter 12 = .ok (.bipush (-12), 2) := by decide +kernel
theorem dL_heatAfter_14 : decode cL_heatAfter 14 = .ok (.ireturn, 1) := by decide +kernel
theorem dL_observed_0 : decode cL_observed 0 = .ok (.aload_n 0, 1) := by decide +kernel
theorem dL_observed_1 : decode cL_observed 1 = .ok (.iload_n 1, 1) := by decide +kernel
theorem dL_observed_2 : decode cL_observed 2 = .ok (.invokevirtual 93, 3) := by decide +kernel
theorem dL_observed_5 : decode cL_observed 5 = .ok (.ireturn, 1) := by decide +kernel
theorem dL_observed_6 : decode cL_observed 6 = .ok (.astore_n 2, 1) := by decide +kernel
theorem dL_observed_7 : decode cL_observed 7 = .ok (.bipush (-11), 2) := by decide +kernel
theorem dL_observed_9 : decode cL_observed 9 = .ok (.ireturn, 1) := by decide +kernel
theorem dL_lower_0 : decode cL_lower 0 = .ok (.aload_n 0, 1) := by decide +kernel
theorem dL_lower_1 : decode cL_lower 1 = .ok (.iload_n 1, 1) := by decide +kernel
theorem dL_lower_2 : decode cL_lower 2 = .ok (.invokevirtual 96, 3) := by decide +kernel
theorem dL_lower_5 : decode cL_lower 5 = .ok (.ireturn, 1) := by decide +kernel
theorem dL_lower_6 : decode cL_lower 6 = .ok (.astore_n 2, 1) := by decide +kernel
theorem dL_lower_7 : decode cL_lower 7 = .ok (.bipush (-11), 2) := by decide +kernel
theorem dL_lower_9 : decode cL_lower 9 = .ok (.ireturn, 1) := by decide +kernel
theorem dL_upper_0 : decode cL_upper 0 = .ok (.aload_n 0, 1) := by decide +kernel
theorem dL_upper_1 : decode cL_upper 1 = .ok (.iload_n 1, 1) := by decide +kernel
theorem dL_upper_2 : decode cL_upper 2 = .ok (.invokevirtual 99, 3) := by decide +kernel
theorem dL_upper_5 : decode cL_upper 5 = .ok (.ireturn, 1) := by decide +kernel
theorem dL_upper_6 : decode cL_upper 6 = .ok (.astore_n 2, 1) := by decide +kernel
theorem dL_upper_7 : decode cL_upper 7 = .ok (.bipush (-11), 2) := by decide +kernel
theorem dL_upper_9 : decode cL_upper 9 = .ok (.ireturn, 1) := by decide +kernel
theorem dL_isContent_0 : decode cL_isContent 0 = .ok (.aload_n 0, 1) := by decide +kernel
theorem dL_isContent_1 : decode cL_isContent 1 = .ok (.iload_n 1, 1) := by decide +kernel
theorem dL_isContent_2 : decode cL_isContent 2 = .ok (.invokevirtual 102, 3) := by decide +kernel
theorem dL_isContent_5 : decode cL_isContent 5 = .ok (.ifCond .eq 7, 3) := by decide +kernel
theorem dL_isContent_8 : decode cL_isContent 8 = .ok (.iconst 1, 1) := by decide +kernel
theorem dL_isContent_9 : decode cL_isContent 9 = .ok (.goto 4, 3) := by decide +kernel
theorem dL_isContent_12 : decode cL_isContent 12 = .ok (.iconst 0, 1) := by decide +kernel
theorem dL_isContent_13 : decode cL_isContent 13 = .ok (.ireturn, 1) := by decide +kernel
theorem dL_isContent_14 : decode cL_isContent 14 = .ok (.astore_n 2, 1) := by decide +kernel
theorem dL_isContent_15 : decode cL_isContent 15 = .ok (.bipush (-11), 2) := by decide +kernel
theorem dL_isContent_17 : decode cL_isContent 17 = .ok (.ireturn, 1) := by decide +kernel
theorem dL_quacks_0 : decode cL_quacks 0 = .ok (.aload_n 0, 1) := by decide +kernel
theorem dL_quacks_1 : decode cL_quacks 1 = .ok (.iload_n 1, 1) := by decide +kernel
theorem dL_quacks_2 : decode cL_quacks 2 = .ok (.invokevirtual 105, 3) := by decide +kernel
theorem dL_quacks_5 : decode cL_quacks 5 = .ok (.ireturn, 1) := by decide +kernel
theorem dL_quacks_6 : decode cL_quacks 6 = .ok (.astore_n 2, 1) := by decide +kernel
theorem dL_quacks_7 : decode cL_quacks 7 = .ok (.bipush (-11), 2) := by decide +kernel
theorem dL_quacks_9 : decode cL_quacks 9 = .ok (.ireturn, 1) := by decide +kernel
theorem dL_byQuacks_0 : decode cL_byQuacks 0 = .ok (.aload_n 0, 1) := by decide +kernel
theorem dL_byQuacks_1 : decode cL_byQuacks 1 = .ok (.iload_n 1, 1) := by decide +kernel
theorem dL_byQuacks_2 : decode cL_byQuacks 2 = .ok (.invokevirtual 108, 3) := by decide +kernel
theorem dL_byQuacks_5 : decode cL_byQuacks 5 = .ok (.ireturn, 1) := by decide +kernel
theorem dL_byQuacks_6 : decode cL_byQuacks 6 = .ok (.astore_n 2, 1) := by decide +kernel
theorem dL_byQuacks_7 : decode cL_byQuacks 7 = .ok (.bipush (-13), 2) := by decide +kernel
theorem dL_byQuacks_9 : decode cL_byQuacks 9 = .ok (.ireturn, 1) := by decide +kernel
theorem dL_eventKind_0 : decode cL_eventKind 0 = .ok (.aload_n 0, 1) := by decide +kernel
theorem dL_eventKind_1 : decode cL_eventKind 1 = .ok (.iload_n 1, 1) := by decide +kernel
theorem dL_eventKind_2 : decode cL_eventKind 2 = .ok (.invokevirtual 111, 3) := by decide +kernel
theorem dL_eventKind_5 : decode cL_eventKind 5 = .ok (.ireturn, 1) := by decide +kernel
theorem dL_eventKind_6 : decode cL_eventKind 6 = .ok (.astore_n 2, 1) := by decide +kernel
theorem dL_eventKind_7 : decode cL_eventKind 7 = .ok (.bipush (-13), 2) := by decide +kernel
theorem dL_eventKind_9 : decode cL_eventKind 9 = .ok (.ireturn, 1) := by decide +kernel
theorem dL_eventBath_0 : decode cL_eventBath 0 = .ok (.aload_n 0, 1) := by decide +kernel
theorem dL_eventBath_1 : decode cL_eventBath 1 = .ok (.iload_n 1, 1) := by decide +kernel
theorem dL_eventBath_2 : decode cL_eventBath 2 = .ok (.invokevirtual 115, 3) := by decide +kernel
theorem dL_eventBath_5 : decode cL_eventBath 5 = .ok (.ireturn, 1) := by decide +kernel
theorem dL_eventBath_6 : decode cL_eventBath 6 = .ok (.astore_n 2, 1) := by decide +kernel
theorem dL_eventBath_7 : decode cL_eventBath 7 = .ok (.bipush (-13), 2) := by decide +kernel
theorem dL_eventBath_9 : decode cL_eventBath 9 = .ok (.ireturn, 1) := by decide +kernel
theorem dL_eventLitres_0 : decode cL_eventLitres 0 = .ok (.aload_n 0, 1) := by decide +kernel
theorem dL_eventLitres_1 : decode cL_eventLitres 1 = .ok (.iload_n 1, 1) := by decide +kernel
theorem dL_eventLitres_2 : decode cL_eventLitres 2 = .ok (.invokevirtual 118, 3) := by decide +kernel
theorem dL_eventLitres_5 : decode cL_eventLitres 5 = .ok (.ireturn, 1) := by decide +kernel
theorem dL_eventLitres_6 : decode cL_eventLitres 6 = .ok (.astore_n 2, 1) := by decide +kernel
theorem dL_eventLitres_7 : decode cL_eventLitres 7 = .ok (.bipush (-13), 2) := by decide +kernel
theorem dL_eventLitres_9 : decode cL_eventLitres 9 = .ok (.ireturn, 1) := by decide +kernel
theorem dL_renderBath_0 : decode cL_renderBath 0 = .ok (.aload_n 0, 1) := by decide +kernel
theorem dL_renderBath_1 : decode cL_renderBath 1 = .ok (.iload_n 1, 1) := by decide +kernel
theorem dL_renderBath_2 : decode cL_renderBath 2 = .ok (.invokevirtual 121, 3) := by decide +kernel
theorem dL_renderBath_5 : decode cL_renderBath 5 = .ok (.ireturn, 1) := by decide +kernel
theorem dL_renderBath_6 : decode cL_renderBath 6 = .ok (.astore_n 2, 1) := by decide +kernel
theorem dL_renderBath_7 : decode cL_renderBath 7 = .ok (.bipush (-11), 2) := by decide +kernel
theorem dL_renderBath_9 : decode cL_renderBath 9 = .ok (.ireturn, 1) := by decide +kernel
theorem dL_outputAt_0 : decode cL_outputAt 0 = .ok (.aload_n 0, 1) := by decide +kernel
theorem dL_outputAt_1 : decode cL_outputAt 1 = .ok (.iload_n 1, 1) := by decide +kernel
theorem dL_outputAt_2 : decode cL_outputAt 2 = .ok (.invokevirtual 124, 3) := by decide +kernel
theorem dL_outputAt_5 : decode cL_outputAt 5 = .ok (.ireturn, 1) := by decide +kernel
theorem dL_outputAt_6 : decode cL_outputAt 6 = .ok (.astore_n 2, 1) := by decide +kernel
theorem dL_outputAt_7 : decode cL_outputAt 7 = .ok (.bipush (-11), 2) := by decide +kernel
theorem dL_outputAt_9 : decode cL_outputAt 9 = .ok (.ireturn, 1) := by decide +kernel
theorem dL_type_0 : decode cL_type 0 = .ok (.aload_n 0, 1) := by decide +kernel
theorem dL_type_1 : decode cL_type 1 = .ok (.iload_n 1, 1) := by decide +kernel
theorem dL_type_2 : decode cL_type 2 = .ok (.invokevirtual 127, 3) := by decide +kernel
theorem dL_type_5 : decode cL_type 5 = .ok (.ireturn, 1) := by decide +kernel
theorem dL_type_6 : decode cL_type 6 = .ok (.astore_n 2, 1) := by decide +kernel
theorem dL_type_7 : decode cL_type 7 = .ok (.bipush (-12), 2) := by decide +kernel
theorem dL_type_9 : decode cL_type 9 = .ok (.ireturn, 1) := by decide +kernel
theorem dL_type_10 : decode cL_type 10 = .ok (.astore_n 2, 1) := by decide +kernel
theorem dL_type_11 : decode cL_type 11 = .ok (.bipush (-14), 2) := by decide +kernel
theorem dL_type_13 : decode cL_type 13 = .ok (.ireturn, 1) := by decide +kernel
theorem dL_runs_0 : decode cL_runs 0 = .ok (.aload_n 0, 1) := by decide +kernel
theorem dL_runs_1 : decode cL_runs 1 = .ok (.invokevirtual 131, 3) := by decide +kernel
theorem dL_runs_4 : decode cL_runs 4 = .ok (.ireturn, 1) := by decide +kernel
theorem dL_runs_5 : decode cL_runs 5 = .ok (.astore_n 1, 1) := by decide +kernel
theorem dL_runs_6 : decode cL_runs 6 = .ok (.iconst (-1), 1) := by decide +kernel
theorem dL_runs_7 : decode cL_runs 7 = .ok (.ireturn, 1) := by decide +kernel
theorem dL_runs_8 : decode cL_runs 8 = .ok (.astore_n 1, 1) := by decide +kernel
theorem dL_runs_9 : decode cL_runs 9 = .ok (.bipush (-2), 2) := by decide +kernel
theorem dL_runs_11 : decode cL_runs 11 = .ok (.ireturn, 1) := by decide +kernel
theorem dL_undo_0 : decode cL_undo 0 = .ok (.aload_n 0, 1) := by decide +kernel
theorem dL_undo_1 : decode cL_undo 1 = .ok (.invokevirtual 140, 3) := by decide +kernel
theorem dL_undo_4 : decode cL_undo 4 = .ok (.ireturn, 1) := by decide +kernel
theorem dL_undo_5 : decode cL_undo 5 = .ok (.astore_n 1, 1) := by decide +kernel
theorem dL_undo_6 : decode cL_undo 6 = .ok (.iconst (-1), 1) := by decide +kernel
theorem dL_undo_7 : decode cL_undo 7 = .ok (.ireturn, 1) := by decide +kernel
theorem dL_run_0 : decode cL_run 0 = .ok (.iconst 0, 1) := by decide +kernel
theorem dL_run_1 : decode cL_run 1 = .ok (.istore_n 2, 1) := by decide +kernel
theorem dL_run_2 : decode cL_run 2 = .ok (.iload_n 2, 1) := by decide +kernel
theorem dL_run_3 : decode cL_run 3 = .ok (.aload_n 1, 1) := by decide +kernel
theorem dL_run_4 : decode cL_run 4 = .ok (.invokevirtual 143, 3) := by decide +kernel
theorem dL_run_7 : decode cL_run 7 = .ok (.if_icmp .ge 27, 3) := by decide +kernel
theorem dL_run_10 : decode cL_run 10 = .ok (.aload_n 0, 1) := by decide +kernel
theorem dL_run_11 : decode cL_run 11 = .ok (.aload_n 1, 1) := by decide +kernel
theorem dL_run_12 : decode cL_run 12 = .ok (.iload_n 2, 1) := by decide +kernel
theorem dL_run_13 : decode cL_run 13 = .ok (.invokevirtual 148, 3) := by decide +kernel
theorem dL_run_16 : decode cL_run 16 = .ok (.invokestatic 151, 3) := by decide +kernel
theorem dL_run_19 : decode cL_run 19 = .ok (.iload_n 2, 1) := by decide +kernel
theorem dL_run_20 : decode cL_run 20 = .ok (.iconst 1, 1) := by decide +kernel
theorem dL_run_21 : decode cL_run 21 = .ok (.iadd, 1) := by decide +kernel
theorem dL_run_22 : decode cL_run 22 = .ok (.if_icmp .eq 6, 3) := by decide +kernel
theorem dL_run_25 : decode cL_run 25 = .ok (.bipush (-9), 2) := by decide +kernel
theorem dL_run_27 : decode cL_run 27 = .ok (.ireturn, 1) := by decide +kernel
theorem dL_run_28 : decode cL_run 28 = .ok (.iinc 2 1, 3) := by decide +kernel
theorem dL_run_31 : decode cL_run 31 = .ok (.goto (-29), 3) := by decide +kernel
theorem dL_run_34 : decode cL_run 34 = .ok (.aload_n 0, 1) := by decide +kernel
theorem dL_run_35 : decode cL_run 35 = .ok (.invokestatic 156, 3) := by decide +kernel
theorem dL_run_38 : decode cL_run 38 = .ok (.ireturn, 1) := by decide +kernel
theorem dL_drawn_0 : decode cL_drawn 0 = .ok (.new 9, 3) := by decide +kernel
theorem dL_drawn_3 : decode cL_drawn 3 = .ok (.dup, 1) := by decide +kernel
theorem dL_drawn_4 : decode cL_drawn 4 = .ok (.invokespecial 160, 3) := by decide +kernel
theorem dL_drawn_7 : decode cL_drawn 7 = .ok (.astore_n 1, 1) := by decide +kernel
theorem dL_drawn_8 : decode cL_drawn 8 = .ok (.aload_n 0, 1) := by decide +kernel
theorem dL_drawn_9 : decode cL_drawn 9 = .ok (.iconst 0, 1) := by decide +kernel
theorem dL_drawn_10 : decode cL_drawn 10 = .ok (.invokestatic 161, 3) := by decide +kernel
theorem dL_drawn_13 : decode cL_drawn 13 = .ok (.iconst 1, 1) := by decide +kernel
theorem dL_drawn_14 : decode cL_drawn 14 = .ok (.iushr, 1) := by decide +kernel
theorem dL_drawn_15 : decode cL_drawn 15 = .ok (.istore_n 2, 1) := by decide +kernel
theorem dL_drawn_16 : decode cL_drawn 16 = .ok (.iconst 2, 1) := by decide +kernel
theorem dL_drawn_17 : decode cL_drawn 17 = .ok (.iload_n 2, 1) := by decide +kernel
theorem dL_drawn_18 : decode cL_drawn 18 = .ok (.iconst 4, 1) := by decide +kernel
theorem dL_drawn_19 : decode cL_drawn 19 = .ok (.irem, 1) := by decide +kernel
theorem dL_drawn_20 : decode cL_drawn 20 = .ok (.iadd, 1) := by decide +kernel
theorem dL_drawn_21 : decode cL_drawn 21 = .ok (.istore_n 3, 1) := by decide +kernel
theorem dL_drawn_22 : decode cL_drawn 22 = .ok (.iconst 0, 1) := by decide +kernel
theorem dL_drawn_23 : decode cL_drawn 23 = .ok (.istore 4, 2) := by decide +kernel
theorem dL_drawn_25 : decode cL_drawn 25 = .ok (.iload 4, 2) := by decide +kernel
theorem dL_drawn_27 : decode cL_drawn 27 = .ok (.iload_n 3, 1) := by decide +kernel
theorem dL_drawn_28 : decode cL_drawn 28 = .ok (.if_icmp .ge 148, 3) := by decide +kernel
theorem dL_drawn_31 : decode cL_drawn 31 = .ok (.aload_n 0, 1) := by decide +kernel
theorem dL_drawn_32 : decode cL_drawn 32 = .ok (.iconst 1, 1) := by decide +kernel
theorem dL_drawn_33 : decode cL_drawn 33 = .ok (.iload 4, 2) := by decide +kernel
theorem dL_drawn_35 : decode cL_drawn 35 = .ok (.iadd, 1) := by decide +kernel
theorem dL_drawn_36 : decode cL_drawn 36 = .ok (.invokestatic 161, 3) := by decide +kernel
theorem dL_drawn_39 : decode cL_drawn 39 = .ok (.iconst 1, 1) := by decide +kernel
theorem dL_drawn_40 : decode cL_drawn 40 = .ok (.iushr, 1) := by decide +kernel
theorem dL_drawn_41 : decode cL_drawn 41 = .ok (.istore 5, 2) := by decide +kernel
theorem dL_drawn_43 : decode cL_drawn 43 = .ok (.iconst 1, 1) := by decide +kernel
theorem dL_drawn_44 : decode cL_drawn 44 = .ok (.iload 5, 2) := by decide +kernel
theorem dL_drawn_46 : decode cL_drawn 46 = .ok (.iconst 2, 1) := by decide +kernel
theorem dL_drawn_47 : decode cL_drawn 47 = .ok (.iushr, 1) := by decide +kernel
theorem dL_drawn_48 : decode cL_drawn 48 = .ok (.bipush 20, 2) := by decide +kernel
theorem dL_drawn_50 : decode cL_drawn 50 = .ok (.irem, 1) := by decide +kernel
theorem dL_drawn_51 : decode cL_drawn 51 = .ok (.iadd, 1) := by decide +kernel
theorem dL_drawn_52 : decode cL_drawn 52 = .ok (.istore 6, 2) := by decide +kernel
theorem dL_drawn_54 : decode cL_drawn 54 = .ok (.aload_n 1, 1) := by decide +kernel
theorem dL_drawn_55 : decode cL_drawn 55 = .ok (.invokestatic 165, 3) := by decide +kernel
theorem dL_drawn_58 : decode cL_drawn 58 = .ok (.iload 4, 2) := by decide +kernel
theorem dL_drawn_60 : decode cL_drawn 60 = .ok (.if_icmp .ne 66, 3) := by decide +kernel
theorem dL_drawn_63 : decode cL_drawn 63 = .ok (.iload 5, 2) := by decide +kernel
theorem dL_drawn_65 : decode cL_drawn 65 = .ok (.bipush 7, 2) := by decide +kernel
theorem dL_drawn_67 : decode cL_drawn 67 = .ok (.irem, 1) := by decide +kernel
theorem dL_drawn_68 : decode cL_drawn 68 = .ok (.ifCond .le 40, 3) := by decide +kernel
theorem dL_drawn_71 : decode cL_drawn 71 = .ok (.aload_n 1, 1) := by decide +kernel
theorem dL_drawn_72 : decode cL_drawn 72 = .ok (.iload 4, 2) := by decide +kernel
theorem dL_drawn_74 : decode cL_drawn 74 = .ok (.iconst 1, 1) := by decide +kernel
theorem dL_drawn_75 : decode cL_drawn 75 = .ok (.iload 6, 2) := by decide +kernel
theorem dL_drawn_77 : decode cL_drawn 77 = .ok (.invokestatic 167, 3) := by decide +kernel
theorem dL_drawn_80 : decode cL_drawn 80 = .ok (.iload 6, 2) := by decide +kernel
theorem dL_drawn_82 : decode cL_drawn 82 = .ok (.if_icmp .ne 44, 3) := by decide +kernel
theorem dL_drawn_85 : decode cL_drawn 85 = .ok (.aload_n 1, 1) := by decide +kernel
theorem dL_drawn_86 : decode cL_drawn 86 = .ok (.iload 4, 2) := by decide +kernel
theorem dL_drawn_88 : decode cL_drawn 88 = .ok (.iload 5, 2) := by decide +kernel
theorem dL_drawn_90 : decode cL_drawn 90 = .ok (.iconst 3, 1) := by decide +kernel
theorem dL_drawn_91 : decode cL_drawn 91 = .ok (.irem, 1) := by decide +kernel
theorem dL_drawn_92 : decode cL_drawn 92 = .ok (.iconst 1, 1) := by decide +kernel
theorem dL_drawn_93 : decode cL_drawn 93 = .ok (.iload 5, 2) := by decide +kernel
theorem dL_drawn_95 : decode cL_drawn 95 = .ok (.bipush 7, 2) := by decide +kernel
theorem dL_drawn_97 : decode cL_drawn 97 = .ok (.iushr, 1) := by decide +kernel
theorem dL_drawn_98 : decode cL_drawn 98 = .ok (.bipush 20, 2) := by decide +kernel
theorem dL_drawn_100 : decode cL_drawn 100 = .ok (.irem, 1) := by decide +kernel
theorem dL_drawn_101 : decode cL_drawn 101 = .ok (.iadd, 1) := by decide +kernel
theorem dL_drawn_102 : decode cL_drawn 102 = .ok (.invokestatic 167, 3) := by decide +kernel
theorem dL_drawn_105 : decode cL_drawn 105 = .ok (.ifCond .lt 21, 3) := by decide +kernel
theorem dL_drawn_108 : decode cL_drawn 108 = .ok (.iload 5, 2) := by decide +kernel
theorem dL_drawn_110 : decode cL_drawn 110 = .ok (.iconst 4, 1) := by decide +kernel
theorem dL_drawn_111 : decode cL_drawn 111 = .ok (.irem, 1) := by decide +kernel
theorem dL_drawn_112 : decode cL_drawn 112 = .ok (.ifCond .ne 16, 3) := by decide +kernel
theorem dL_drawn_115 : decode cL_drawn 115 = .ok (.aload_n 1, 1) := by decide +kernel
theorem dL_drawn_116 : decode cL_drawn 116 = .ok (.iload 4, 2) := by decide +kernel
theorem dL_drawn_118 : decode cL_drawn 118 = .ok (.iconst 0, 1) := by decide +kernel
theorem dL_drawn_119 : decode cL_drawn 119 = .ok (.invokestatic 170, 3) := by decide +kernel
theorem dL_drawn_122 : decode cL_drawn 122 = .ok (.iconst 1, 1) := by decide +kernel
theorem dL_drawn_123 : decode cL_drawn 123 = .ok (.if_icmp .eq 5, 3) := by decide +kernel
theorem dL_drawn_126 : decode cL_drawn 126 = .ok (.aconst_null, 1) := by decide +kernel
theorem dL_drawn_127 : decode cL_drawn 127 = .ok (.areturn, 1) := by decide +kernel
theorem dL_drawn_128 : decode cL_drawn 128 = .ok (.aload_n 1, 1) := by decide +kernel
theorem dL_drawn_129 : decode cL_drawn 129 = .ok (.iload 4, 2) := by decide +kernel
theorem dL_drawn_131 : decode cL_drawn 131 = .ok (.invokestatic 173, 3) := by decide +kernel
theorem dL_drawn_134 : decode cL_drawn 134 = .ok (.iconst (-1), 1) := by decide +kernel
theorem dL_drawn_135 : decode cL_drawn 135 = .ok (.if_icmp .eq 33, 3) := by decide +kernel
theorem dL_drawn_138 : decode cL_drawn 138 = .ok (.aload_n 1, 1) := by decide +kernel
theorem dL_drawn_139 : decode cL_drawn 139 = .ok (.iload 4, 2) := by decide +kernel
theorem dL_drawn_141 : decode cL_drawn 141 = .ok (.iload 5, 2) := by decide +kernel
theorem dL_drawn_143 : decode cL_drawn 143 = .ok (.bipush 9, 2) := by decide +kernel
theorem dL_drawn_145 : decode cL_drawn 145 = .ok (.iushr, 1) := by decide +kernel
theorem dL_drawn_146 : decode cL_drawn 146 = .ok (.bipush 40, 2) := by decide +kernel
theorem dL_drawn_148 : decode cL_drawn 148 = .ok (.irem, 1) := by decide +kernel
theorem dL_drawn_149 : decode cL_drawn 149 = .ok (.bipush 40, 2) := by decide +kernel
theorem dL_drawn_151 : decode cL_drawn 151 = .ok (.iload 5, 2) := by decide +kernel
theorem dL_drawn_153 : decode cL_drawn 153 = .ok (.bipush 12, 2) := by decide +kernel
theorem dL_drawn_155 : decode cL_drawn 155 = .ok (.iushr, 1) := by decide +kernel
theorem dL_drawn_156 : decode cL_drawn 156 = .ok (.bipush 20, 2) := by decide +kernel
theorem dL_drawn_158 : decode cL_drawn 158 = .ok (.irem, 1) := by decide +kernel
theorem dL_drawn_159 : decode cL_drawn 159 = .ok (.iadd, 1) := by decide +kernel
theorem dL_drawn_160 : decode cL_drawn 160 = .ok (.invokestatic 176, 3) := by decide +kernel
theorem dL_drawn_163 : decode cL_drawn 163 = .ok (.iload 4, 2) := by decide +kernel
theorem dL_drawn_165 : decode cL_drawn 165 = .ok (.if_icmp .eq 5, 3) := by decide +kernel
theorem dL_drawn_168 : decode cL_drawn 168 = .ok (.aconst_null, 1) := by decide +kernel
theorem dL_drawn_169 : decode cL_drawn 169 = .ok (.areturn, 1) := by decide +kernel
theorem dL_drawn_170 : decode cL_drawn 170 = .ok (.iinc 4 1, 3) := by decide +kernel
theorem dL_drawn_173 : decode cL_drawn 173 = .ok (.goto (-148), 3) := by decide +kernel
theorem dL_drawn_176 : decode cL_drawn 176 = .ok (.iconst 0, 1) := by decide +kernel
theorem dL_drawn_177 : decode cL_drawn 177 = .ok (.istore 4, 2) := by decide +kernel
theorem dL_drawn_179 : decode cL_drawn 179 = .ok (.iload 4, 2) := by decide +kernel
theorem dL_drawn_181 : decode cL_drawn 181 = .ok (.bipush 7, 2) := by decide +kernel
theorem dL_drawn_183 : decode cL_drawn 183 = .ok (.if_icmp .ge 136, 3) := by decide +kernel
theorem dL_drawn_186 : decode cL_drawn 186 = .ok (.aload_n 0, 1) := by decide +kernel
theorem dL_drawn_187 : decode cL_drawn 187 = .ok (.bipush 6, 2) := by decide +kernel
theorem dL_drawn_189 : decode cL_drawn 189 = .ok (.iload 4, 2) := by decide +kernel
theorem dL_drawn_191 : decode cL_drawn 191 = .ok (.iadd, 1) := by decide +kernel
theorem dL_drawn_192 : decode cL_drawn 192 = .ok (.invokestatic 161, 3) := by decide +kernel
theorem dL_drawn_195 : decode cL_drawn 195 = .ok (.iconst 1, 1) := by decide +kernel
theorem dL_drawn_196 : decode cL_drawn 196 = .ok (.iushr, 1) := by decide +kernel
theorem dL_drawn_197 : decode cL_drawn 197 = .ok (.istore 5, 2) := by decide +kernel
theorem dL_drawn_199 : decode cL_drawn 199 = .ok (.iload 5, 2) := by decide +kernel
theorem dL_drawn_201 : decode cL_drawn 201 = .ok (.iconst 3, 1) := by decide +kernel
theorem dL_drawn_202 : decode cL_drawn 202 = .ok (.iushr, 1) := by decide +kernel
theorem dL_drawn_203 : decode cL_drawn 203 = .ok (.iload_n 3, 1) := by decide +kernel
theorem dL_drawn_204 : decode cL_drawn 204 = .ok (.irem, 1) := by decide +kernel
theorem dL_drawn_205 : decode cL_drawn 205 = .ok (.istore 6, 2) := by decide +kernel
theorem dL_drawn_207 : decode cL_drawn 207 = .ok (.iload 5, 2) := by decide +kernel
theorem dL_drawn_209 : decode cL_drawn 209 = .ok (.iconst 4, 1) := by decide +kernel
theorem dL_drawn_210 : decode cL_drawn 210 = .ok (.irem, 1) := by decide +kernel
theorem dL_drawn_211 : decode cL_drawn 211 = .ok (.ifCond .ne 28, 3) := by decide +kernel
theorem dL_drawn_214 : decode cL_drawn 214 = .ok (.aload_n 1, 1) := by decide +kernel
theorem dL_drawn_215 : decode cL_drawn 215 = .ok (.iload 6, 2) := by decide +kernel
theorem dL_drawn_217 : decode cL_drawn 217 = .ok (.iload 6, 2) := by decide +kernel
theorem dL_drawn_219 : decode cL_drawn 219 = .ok (.iconst 1, 1) := by decide +kernel
theorem dL_drawn_220 : decode cL_drawn 220 = .ok (.iadd, 1) := by decide +kernel
theorem dL_drawn_221 : decode cL_drawn 221 = .ok (.iload_n 3, 1) := by decide +kernel
theorem dL_drawn_222 : decode cL_drawn 222 = .ok (.irem, 1) := by decide +kernel
theorem dL_drawn_223 : decode cL_drawn 223 = .ok (.iconst 1, 1) := by decide +kernel
theorem dL_drawn_224 : decode cL_drawn 224 = .ok (.iload 5, 2) := by decide +kernel
theorem dL_drawn_226 : decode cL_drawn 226 = .ok (.bipush 6, 2) := by decide +kernel
theorem dL_drawn_228 : decode cL_drawn 228 = .ok (.iushr, 1) := by decide +kernel
theorem dL_drawn_229 : decode cL_drawn 229 = .ok (.bipush 20, 2) := by decide +kernel
theorem dL_drawn_231 : decode cL_drawn 231 = .ok (.irem, 1) := by decide +kernel
theorem dL_drawn_232 : decode cL_drawn 232 = .ok (.iadd, 1) := by decide +kernel
theorem dL_drawn_233 : decode cL_drawn 233 = .ok (.invokestatic 178, 3) := by decide +kernel
theorem dL_drawn_236 : decode cL_drawn 236 = .ok (.goto 67, 3) := by decide +kernel
theorem dL_drawn_239 : decode cL_drawn 239 = .ok (.iload 5, 2) := by decide +kernel
theorem dL_drawn_241 : decode cL_drawn 241 = .ok (.iconst 4, 1) := by decide +kernel
theorem dL_drawn_242 : decode cL_drawn 242 = .ok (.irem, 1) := by decide +kernel
theorem dL_drawn_243 : decode cL_drawn 243 = .ok (.iconst 1, 1) := by decide +kernel
theorem dL_drawn_244 : decode cL_drawn 244 = .ok (.if_icmp .ne 29, 3) := by decide +kernel
theorem dL_drawn_247 : decode cL_drawn 247 = .ok (.aload_n 1, 1) := by decide +kernel
theorem dL_drawn_248 : decode cL_drawn 248 = .ok (.iload 6, 2) := by decide +kernel
theorem dL_drawn_250 : decode cL_drawn 250 = .ok (.iload 5, 2) := by decide +kernel
theorem dL_drawn_252 : decode cL_drawn 252 = .ok (.bipush 6, 2) := by decide +kernel
theorem dL_drawn_254 : decode cL_drawn 254 = .ok (.iushr, 1) := by decide +kernel
theorem dL_drawn_255 : decode cL_drawn 255 = .ok (.iconst 3, 1) := by decide +kernel
theorem dL_drawn_256 : decode cL_drawn 256 = .ok (.irem, 1) := by decide +kernel
theorem dL_drawn_257 : decode cL_drawn 257 = .ok (.iconst 1, 1) := by decide +kernel
theorem dL_drawn_258 : decode cL_drawn 258 = .ok (.iload 5, 2) := by decide +kernel
theorem dL_drawn_260 : decode cL_drawn 260 = .ok (.bipush 8, 2) := by decide +kernel
theorem dL_drawn_262 : decode cL_drawn 262 = .ok (.iushr, 1) := by decide +kernel
theorem dL_drawn_263 : decode cL_drawn 263 = .ok (.bipush 20, 2) := by decide +kernel
theorem dL_drawn_265 : decode cL_drawn 265 = .ok (.irem, 1) := by decide +kernel
theorem dL_drawn_266 : decode cL_drawn 266 = .ok (.iadd, 1) := by decide +kernel
theorem dL_drawn_267 : decode cL_drawn 267 = .ok (.invokestatic 167, 3) := by decide +kernel
theorem dL_drawn_270 : decode cL_drawn 270 = .ok (.goto 33, 3) := by decide +kernel
theorem dL_drawn_273 : decode cL_drawn 273 = .ok (.iload 5, 2) := by decide +kernel
theorem dL_drawn_275 : decode cL_drawn 275 = .ok (.iconst 4, 1) := by decide +kernel
theorem dL_drawn_276 : decode cL_drawn 276 = .ok (.irem, 1) := by decide +kernel
theorem dL_drawn_277 : decode cL_drawn 277 = .ok (.iconst 2, 1) := by decide +kernel
theorem dL_drawn_278 : decode cL_drawn 278 = .ok (.if_icmp .ne 12, 3) := by decide +kernel
theorem dL_drawn_281 : decode cL_drawn 281 = .ok (.aload_n 1, 1) := by decide +kernel
theorem dL_drawn_282 : decode cL_drawn 282 = .ok (.iload 6, 2) := by decide +kernel
theorem dL_drawn_284 : decode cL_drawn 284 = .ok (.invokestatic 173, 3) := by decide +kernel
theorem dL_drawn_287 : decode cL_drawn 287 = .ok (.goto 16, 3) := by decide +kernel
theorem dL_drawn_290 : decode cL_drawn 290 = .ok (.aload_n 1, 1) := by decide +kernel
theorem dL_drawn_291 : decode cL_drawn 291 = .ok (.iconst 1, 1) := by decide +kernel
theorem dL_drawn_292 : decode cL_drawn 292 = .ok (.iload 5, 2) := by decide +kernel
theorem dL_drawn_294 : decode cL_drawn 294 = .ok (.bipush 6, 2) := by decide +kernel
theorem dL_drawn_296 : decode cL_drawn 296 = .ok (.iushr, 1) := by decide +kernel
theorem dL_drawn_297 : decode cL_drawn 297 = .ok (.iconst 4, 1) := by decide +kernel
theorem dL_drawn_298 : decode cL_drawn 298 = .ok (.irem, 1) := by decide +kernel
theorem dL_drawn_299 : decode cL_drawn 299 = .ok (.iadd, 1) := by decide +kernel
theorem dL_drawn_300 : decode cL_drawn 300 = .ok (.invokestatic 180, 3) := by decide +kernel
theorem dL_drawn_303 : decode cL_drawn 303 = .ok (.istore 7, 2) := by decide +kernel
theorem dL_drawn_305 : decode cL_drawn 305 = .ok (.iload 7, 2) := by decide +kernel
theorem dL_drawn_307 : decode cL_drawn 307 = .ok (.iconst (-1), 1) := by decide +kernel
theorem dL_drawn_308 : decode cL_drawn 308 = .ok (.if_icmp .ne 5, 3) := by decide +kernel
theorem dL_drawn_311 : decode cL_drawn 311 = .ok (.aconst_null, 1) := by decide +kernel
theorem dL_drawn_312 : decode cL_drawn 312 = .ok (.areturn, 1) := by decide +kernel
theorem dL_drawn_313 : decode cL_drawn 313 = .ok (.iinc 4 1, 3) := by decide +kernel
theorem dL_drawn_316 : decode cL_drawn 316 = .ok (.goto (-137), 3) := by decide +kernel
theorem dL_drawn_319 : decode cL_drawn 319 = .ok (.aload_n 1, 1) := by decide +kernel
theorem dL_drawn_320 : decode cL_drawn 320 = .ok (.areturn, 1) := by decide +kernel
theorem dL_baths_0 : decode cL_baths 0 = .ok (.aload_n 0, 1) := by decide +kernel
theorem dL_baths_1 : decode cL_baths 1 = .ok (.invokevirtual 182, 3) := by decide +kernel
theorem dL_baths_4 : decode cL_baths 4 = .ok (.iconst 4, 1) := by decide +kernel
theorem dL_baths_5 : decode cL_baths 5 = .ok (.multianewarray 185 2, 4) := by decide +kernel
theorem dL_baths_9 : decode cL_baths 9 = .ok (.astore_n 1, 1) := by decide +kernel
theorem dL_baths_10 : decode cL_baths 10 = .ok (.iconst 0, 1) := by decide +kernel
theorem dL_baths_11 : decode cL_baths 11 = .ok (.istore_n 2, 1) := by decide +kernel
theorem dL_baths_12 : decode cL_baths 12 = .ok (.iload_n 2, 1) := by decide +kernel
theorem dL_baths_13 : decode cL_baths 13 = .ok (.aload_n 1, 1) := by decide +kernel
theorem dL_baths_14 : decode cL_baths 14 = .ok (.arraylength, 1) := by decide +kernel
theorem dL_baths_15 : decode cL_baths 15 = .ok (.if_icmp .ge 65, 3) := by decide +kernel
theorem dL_baths_18 : decode cL_baths 18 = .ok (.iconst 4, 1) := by decide +kernel
theorem dL_baths_19 : decode cL_baths 19 = .ok (.newarray .int, 2) := by decide +kernel
theorem dL_baths_21 : decode cL_baths 21 = .ok (.dup, 1) := by decide +kernel
theorem dL_baths_22 : decode cL_baths 22 = .ok (.iconst 0, 1) := by decide +kernel
theorem dL_baths_23 : decode cL_baths 23 = .ok (.aload_n 0, 1) := by decide +kernel
theorem dL_baths_24 : decode cL_baths 24 = .ok (.iload_n 2, 1) := by decide +kernel
theorem dL_baths_25 : decode cL_baths 25 = .ok (.invokevirtual 48, 3) := by decide +kernel
theorem dL_baths_28 : decode cL_baths 28 = .ok (.iastore, 1) := by decide +kernel
theorem dL_baths_29 : decode cL_baths 29 = .ok (.dup, 1) := by decide +kernel
theorem dL_baths_30 : decode cL_baths 30 = .ok (.iconst 1, 1) := by decide +kernel
theorem dL_baths_31 : decode cL_baths 31 = .ok (.aload_n 0, 1) := by decide +kernel
theorem dL_baths_32 : decode cL_baths 32 = .ok (.iload_n 2, 1) := by decide +kernel
theorem dL_baths_33 : decode cL_baths 33 = .ok (.invokevirtual 51, 3) := by decide +kernel
theorem dL_baths_36 : decode cL_baths 36 = .ok (.iastore, 1) := by decide +kernel
theorem dL_baths_37 : decode cL_baths 37 = .ok (.dup, 1) := by decide +kernel
theorem dL_baths_38 : decode cL_baths 38 = .ok (.iconst 2, 1) := by decide +kernel
theorem dL_baths_39 : decode cL_baths 39 = .ok (.aload_n 0, 1) := by decide +kernel
theorem dL_baths_40 : decode cL_baths 40 = .ok (.iload_n 2, 1) := by decide +kernel
theorem dL_baths_41 : decode cL_baths 41 = .ok (.invokevirtual 61, 3) := by decide +kernel
theorem dL_baths_44 : decode cL_baths 44 = .ok (.ifCond .eq 7, 3) := by decide +kernel
theorem dL_baths_47 : decode cL_baths 47 = .ok (.iconst 1, 1) := by decide +kernel
theorem dL_baths_48 : decode cL_baths 48 = .ok (.goto 4, 3) := by decide +kernel
theorem dL_baths_51 : decode cL_baths 51 = .ok (.iconst 0, 1) := by decide +kernel
theorem dL_baths_52 : decode cL_baths 52 = .ok (.iastore, 1) := by decide +kernel
theorem dL_baths_53 : decode cL_baths 53 = .ok (.dup, 1) := by decide +kernel
theorem dL_baths_54 : decode cL_baths 54 = .ok (.iconst 3, 1) := by decide +kernel
theorem dL_baths_55 : decode cL_baths 55 = .ok (.aload_n 0, 1) := by decide +kernel
theorem dL_baths_56 : decode cL_baths 56 = .ok (.iload_n 2, 1) := by decide +kernel
theorem dL_baths_57 : decode cL_baths 57 = .ok (.invokevirtual 74, 3) := by decide +kernel
theorem dL_baths_60 : decode cL_baths 60 = .ok (.ifCond .eq 7, 3) := by decide +kernel
theorem dL_baths_63 : decode cL_baths 63 = .ok (.iconst 1, 1) := by decide +kernel
theorem dL_baths_64 : decode cL_baths 64 = .ok (.goto 4, 3) := by decide +kernel
theorem dL_baths_67 : decode cL_baths 67 = .ok (.iconst 0, 1) := by decide +kernel
theorem dL_baths_68 : decode cL_baths 68 = .ok (.iastore, 1) := by decide +kernel
theorem dL_baths_69 : decode cL_baths 69 = .ok (.astore_n 3, 1) := by decide +kernel
theorem dL_baths_70 : decode cL_baths 70 = .ok (.aload_n 1, 1) := by decide +kernel
theorem dL_baths_71 : decode cL_baths 71 = .ok (.iload_n 2, 1) := by decide +kernel
theorem dL_baths_72 : decode cL_baths 72 = .ok (.aload_n 3, 1) := by decide +kernel
theorem dL_baths_73 : decode cL_baths 73 = .ok (.aastore, 1) := by decide +kernel
theorem dL_baths_74 : decode cL_baths 74 = .ok (.iinc 2 1, 3) := by decide +kernel
theorem dL_baths_77 : decode cL_baths 77 = .ok (.goto (-65), 3) := by decide +kernel
theorem dL_baths_80 : decode cL_baths 80 = .ok (.aload_n 1, 1) := by decide +kernel
theorem dL_baths_81 : decode cL_baths 81 = .ok (.areturn, 1) := by decide +kernel
theorem dL_warmer_0 : decode cL_warmer 0 = .ok (.aload_n 0, 1) := by decide +kernel
theorem dL_warmer_1 : decode cL_warmer 1 = .ok (.iconst 1, 1) := by decide +kernel
theorem dL_warmer_2 : decode cL_warmer 2 = .ok (.iaload, 1) := by decide +kernel
theorem dL_warmer_3 : decode cL_warmer 3 = .ok (.i2l, 1) := by decide +kernel
theorem dL_warmer_4 : decode cL_warmer 4 = .ok (.aload_n 1, 1) := by decide +kernel
theorem dL_warmer_5 : decode cL_warmer 5 = .ok (.iconst 0, 1) := by decide +kernel
theorem dL_warmer_6 : decode cL_warmer 6 = .ok (.iaload, 1) := by decide +kernel
theorem dL_warmer_7 : decode cL_warmer 7 = .ok (.i2l, 1) := by decide +kernel
theorem dL_warmer_8 : decode cL_warmer 8 = .ok (.lmul, 1) := by decide +kernel
theorem dL_warmer_9 : decode cL_warmer 9 = .ok (.aload_n 1, 1) := by decide +kernel
theorem dL_warmer_10 : decode cL_warmer 10 = .ok (.iconst 1, 1) := by decide +kernel
theorem dL_warmer_11 : decode cL_warmer 11 = .ok (.iaload, 1) := by decide +kernel
theorem dL_warmer_12 : decode cL_warmer 12 = .ok (.i2l, 1) := by decide +kernel
theorem dL_warmer_13 : decode cL_warmer 13 = .ok (.aload_n 0, 1) := by decide +kernel
theorem dL_warmer_14 : decode cL_warmer 14 = .ok (.iconst 0, 1) := by decide +kernel
theorem dL_warmer_15 : decode cL_warmer 15 = .ok (.iaload, 1) := by decide +kernel
theorem dL_warmer_16 : decode cL_warmer 16 = .ok (.i2l, 1) := by decide +kernel
theorem dL_warmer_17 : decode cL_warmer 17 = .ok (.lmul, 1) := by decide +kernel
theorem dL_warmer_18 : decode cL_warmer 18 = .ok (.lsub, 1) := by decide +kernel
theorem dL_warmer_19 : decode cL_warmer 19 = .ok (.lreturn, 1) := by decide +kernel
theorem dL_extreme_0 : decode cL_extreme 0 = .ok (.bipush (-13), 2) := by decide +kernel
theorem dL_extreme_2 : decode cL_extreme 2 = .ok (.istore_n 2, 1) := by decide +kernel
theorem dL_extreme_3 : decode cL_extreme 3 = .ok (.iconst 0, 1) := by decide +kernel
theorem dL_extreme_4 : decode cL_extreme 4 = .ok (.istore_n 3, 1) := by decide +kernel
theorem dL_extreme_5 : decode cL_extreme 5 = .ok (.iload_n 3, 1) := by decide +kernel
theorem dL_extreme_6 : decode cL_extreme 6 = .ok (.aload_n 0, 1) := by decide +kernel
theorem dL_extreme_7 : decode cL_extreme 7 = .ok (.arraylength, 1) := by decide +kernel
theorem dL_extreme_8 : decode cL_extreme 8 = .ok (.if_icmp .ge 78, 3) := by decide +kernel
theorem dL_extreme_11 : decode cL_extreme 11 = .ok (.aload_n 0, 1) := by decide +kernel
theorem dL_extreme_12 : decode cL_extreme 12 = .ok (.iload_n 3, 1) := by decide +kernel
theorem dL_extreme_13 : decode cL_extreme 13 = .ok (.aaload, 1) := by decide +kernel
theorem dL_extreme_14 : decode cL_extreme 14 = .ok (.iconst 3, 1) := by decide +kernel
theorem dL_extreme_15 : decode cL_extreme 15 = .ok (.iaload, 1) := by decide +kernel
theorem dL_extreme_16 : decode cL_extreme 16 = .ok (.iconst 1, 1) := by decide +kernel
theorem dL_extreme_17 : decode cL_extreme 17 = .ok (.if_icmp .ne 15, 3) := by decide +kernel
theorem dL_extreme_20 : decode cL_extreme 20 = .ok (.aload_n 0, 1) := by decide +kernel
theorem dL_extreme_21 : decode cL_extreme 21 = .ok (.iload_n 3, 1) := by decide +kernel
theorem dL_extreme_22 : decode cL_extreme 22 = .ok (.aaload, 1) := by decide +kernel
theorem dL_extreme_23 : decode cL_extreme 23 = .ok (.iconst 0, 1) := by decide +kernel
theorem dL_extreme_24 : decode cL_extreme 24 = .ok (.iaload, 1) := by decide +kernel
theorem dL_extreme_25 : decode cL_extreme 25 = .ok (.ifCond .le 7, 3) := by decide +kernel
theorem dL_extreme_28 : decode cL_extreme 28 = .ok (.iconst 1, 1) := by decide +kernel
theorem dL_extreme_29 : decode cL_extreme 29 = .ok (.goto 4, 3) := by decide +kernel
theorem dL_extreme_32 : decode cL_extreme 32 = .ok (.iconst 0, 1) := by decide +kernel
theorem dL_extreme_33 : decode cL_extreme 33 = .ok (.istore 4, 2) := by decide +kernel
theorem dL_extreme_35 : decode cL_extreme 35 = .ok (.iload 4, 2) := by decide +kernel
theorem dL_extreme_37 : decode cL_extreme 37 = .ok (.ifCond .eq 41, 3) := by decide +kernel
theorem dL_extreme_40 : decode cL_extreme 40 = .ok (.iload_n 2, 1) := by decide +kernel
theorem dL_extreme_41 : decode cL_extreme 41 = .ok (.ifCond .lt 33, 3) := by decide +kernel
theorem dL_extreme_44 : decode cL_extreme 44 = .ok (.iload_n 1, 1) := by decide +kernel
theorem dL_extreme_45 : decode cL_extreme 45 = .ok (.ifCond .eq 15, 3) := by decide +kernel
theorem dL_extreme_48 : decode cL_extreme 48 = .ok (.aload_n 0, 1) := by decide +kernel
theorem dL_extreme_49 : decode cL_extreme 49 = .ok (.iload_n 3, 1) := by decide +kernel
theorem dL_extreme_50 : decode cL_extreme 50 = .ok (.aaload, 1) := by decide +kernel
theorem dL_extreme_51 : decode cL_extreme 51 = .ok (.aload_n 0, 1) := by decide +kernel
theorem dL_extreme_52 : decode cL_extreme 52 = .ok (.iload_n 2, 1) := by decide +kernel
theorem dL_extreme_53 : decode cL_extreme 53 = .ok (.aaload, 1) := by decide +kernel
theorem dL_extreme_54 : decode cL_extreme 54 = .ok (.invokestatic 187, 3) := by decide +kernel
theorem dL_extreme_57 : decode cL_extreme 57 = .ok (.goto 12, 3) := by decide +kernel
theorem dL_extreme_60 : decode cL_extreme 60 = .ok (.aload_n 0, 1) := by decide +kernel
theorem dL_extreme_61 : decode cL_extreme 61 = .ok (.iload_n 2, 1) := by decide +kernel
theorem dL_extreme_62 : decode cL_extreme 62 = .ok (.aaload, 1) := by decide +kernel
theorem dL_extreme_63 : decode cL_extreme 63 = .ok (.aload_n 0, 1) := by decide +kernel
theorem dL_extreme_64 : decode cL_extreme 64 = .ok (.iload_n 3, 1) := by decide +kernel
theorem dL_extreme_65 : decode cL_extreme 65 = .ok (.aaload, 1) := by decide +kernel
theorem dL_extreme_66 : decode cL_extreme 66 = .ok (.invokestatic 187, 3) := by decide +kernel
theorem dL_extreme_69 : decode cL_extreme 69 = .ok (.lconst 0, 1) := by decide +kernel
theorem dL_extreme_70 : decode cL_extreme 70 = .ok (.lcmp, 1) := by decide +kernel
theorem dL_extreme_71 : decode cL_extreme 71 = .ok (.ifCond .le 7, 3) := by decide +kernel
theorem dL_extreme_74 : decode cL_extreme 74 = .ok (.iload_n 3, 1) := by decide +kernel
theorem dL_extreme_75 : decode cL_extreme 75 = .ok (.goto 4, 3) := by decide +kernel
theorem dL_extreme_78 : decode cL_extreme 78 = .ok (.iload_n 2, 1) := by decide +kernel
theorem dL_extreme_79 : decode cL_extreme 79 = .ok (.istore_n 2, 1) := by decide +kernel
theorem dL_extreme_80 : decode cL_extreme 80 = .ok (.iinc 3 1, 3) := by decide +kernel
theorem dL_extreme_83 : decode cL_extreme 83 = .ok (.goto (-78), 3) := by decide +kernel
theorem dL_extreme_86 : decode cL_extreme 86 = .ok (.iload_n 2, 1) := by decide +kernel
theorem dL_extreme_87 : decode cL_extreme 87 = .ok (.ireturn, 1) := by decide +kernel
theorem dL_wetMembers_0 : decode cL_wetMembers 0 = .ok (.iconst 0, 1) := by decide +kernel
theorem dL_wetMembers_1 : decode cL_wetMembers 1 = .ok (.istore_n 1, 1) := by decide +kernel
theorem dL_wetMembers_2 : decode cL_wetMembers 2 = .ok (.aload_n 0, 1) := by decide +kernel
theorem dL_wetMembers_3 : decode cL_wetMembers 3 = .ok (.astore_n 2, 1) := by decide +kernel
theorem dL_wetMembers_4 : decode cL_wetMembers 4 = .ok (.aload_n 2, 1) := by decide +kernel
theorem dL_wetMembers_5 : decode cL_wetMembers 5 = .ok (.arraylength, 1) := by decide +kernel
theorem dL_wetMembers_6 : decode cL_wetMembers 6 = .ok (.istore_n 3, 1) := by decide +kernel
theorem dL_wetMembers_7 : decode cL_wetMembers 7 = .ok (.iconst 0, 1) := by decide +kernel
theorem dL_wetMembers_8 : decode cL_wetMembers 8 = .ok (.istore 4, 2) := by decide +kernel
theorem dL_wetMembers_10 : decode cL_wetMembers 10 = .ok (.iload 4, 2) := by decide +kernel
theorem dL_wetMembers_12 : decode cL_wetMembers 12 = .ok (.iload_n 3, 1) := by decide +kernel
theorem dL_wetMembers_13 : decode cL_wetMembers 13 = .ok (.if_icmp .ge 38, 3) := by decide +kernel
theorem dL_wetMembers_16 : decode cL_wetMembers 16 = .ok (.aload_n 2, 1) := by decide +kernel
theorem dL_wetMembers_17 : decode cL_wetMembers 17 = .ok (.iload 4, 2) := by decide +kernel
theorem dL_wetMembers_19 : decode cL_wetMembers 19 = .ok (.aaload, 1) := by decide +kernel
theorem dL_wetMembers_20 : decode cL_wetMembers 20 = .ok (.astore 5, 2) := by decide +kernel
theorem dL_wetMembers_22 : decode cL_wetMembers 22 = .ok (.iload_n 1, 1) := by decide +kernel
theorem dL_wetMembers_23 : decode cL_wetMembers 23 = .ok (.aload 5, 2) := by decide +kernel
theorem dL_wetMembers_25 : decode cL_wetMembers 25 = .ok (.iconst 3, 1) := by decide +kernel
theorem dL_wetMembers_26 : decode cL_wetMembers 26 = .ok (.iaload, 1) := by decide +kernel
theorem dL_wetMembers_27 : decode cL_wetMembers 27 = .ok (.iconst 1, 1) := by decide +kernel
theorem dL_wetMembers_28 : decode cL_wetMembers 28 = .ok (.if_icmp .ne 14, 3) := by decide +kernel
theorem dL_wetMembers_31 : decode cL_wetMembers 31 = .ok (.aload 5, 2) := by decide +kernel
theorem dL_wetMembers_33 : decode cL_wetMembers 33 = .ok (.iconst 0, 1) := by decide +kernel
theorem dL_wetMembers_34 : decode cL_wetMembers 34 = .ok (.iaload, 1) := by decide +kernel
theorem dL_wetMembers_35 : decode cL_wetMembers 35 = .ok (.ifCond .le 7, 3) := by decide +kernel
theorem dL_wetMembers_38 : decode cL_wetMembers 38 = .ok (.iconst 1, 1) := by decide +kernel
theorem dL_wetMembers_39 : decode cL_wetMembers 39 = .ok (.goto 4, 3) := by decide +kernel
theorem dL_wetMembers_42 : decode cL_wetMembers 42 = .ok (.iconst 0, 1) := by decide +kernel
theorem dL_wetMembers_43 : decode cL_wetMembers 43 = .ok (.iadd, 1) := by decide +kernel
theorem dL_wetMembers_44 : decode cL_wetMembers 44 = .ok (.istore_n 1, 1) := by decide +kernel
theorem dL_wetMembers_45 : decode cL_wetMembers 45 = .ok (.iinc 4 1, 3) := by decide +kernel
theorem dL_wetMembers_48 : decode cL_wetMembers 48 = .ok (.goto (-38), 3) := by decide +kernel
theorem dL_wetMembers_51 : decode cL_wetMembers 51 = .ok (.iload_n 1, 1) := by decide +kernel
theorem dL_wetMembers_52 : decode cL_wetMembers 52 = .ok (.ireturn, 1) := by decide +kernel
theorem dL_share_0 : decode cL_share 0 = .ok (.aload_n 0, 1) := by decide +kernel
theorem dL_share_1 : decode cL_share 1 = .ok (.aload_n 0, 1) := by decide +kernel
theorem dL_share_2 : decode cL_share 2 = .ok (.iconst 1, 1) := by decide +kernel
theorem dL_share_3 : decode cL_share 3 = .ok (.invokestatic 191, 3) := by decide +kernel
theorem dL_share_6 : decode cL_share 6 = .ok (.aaload, 1) := by decide +kernel
theorem dL_share_7 : decode cL_share 7 = .ok (.astore_n 1, 1) := by decide +kernel
theorem dL_share_8 : decode cL_share 8 = .ok (.aload_n 0, 1) := by decide +kernel
theorem dL_share_9 : decode cL_share 9 = .ok (.aload_n 0, 1) := by decide +kernel
theorem dL_share_10 : decode cL_share 10 = .ok (.iconst 0, 1) := by decide +kernel
theorem dL_share_11 : decode cL_share 11 = .ok (.invokestatic 191, 3) := by decide +kernel
theorem dL_share_14 : decode cL_share 14 = .ok (.aaload, 1) := by decide +kernel
theorem dL_share_15 : decode cL_share 15 = .ok (.astore_n 2, 1) := by decide +kernel
