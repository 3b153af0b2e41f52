theorem dL_cell_0 : decode cL_cell 0 = .ok (.iload_n 1, 1) := by decide +kernel
theorem dL_cell_1 : decode cL_cell 1 = .ok (.aload_n 0, 1) := by decide +kernel
theorem dL_cell_2 : decode cL_cell 2 = .ok (.arraylength, 1) := by decide +kernel
theorem dL_cell_3 : decode cL_cell 3 = .ok (.if_icmp .ge 9, 3) := by decide +kernel
theorem dL_cell_6 : decode cL_cell 6 = .ok (.aload_n 0, 1) := by decide +kernel
theorem dL_cell_7 : decode cL_cell 7 = .ok (.iload_n 1, 1) := by decide +kernel
theorem dL_cell_8 : decode cL_cell 8 = .ok (.iaload, 1) := by decide +kernel
theorem dL_cell_9 : decode cL_cell 9 = .ok (.goto 7, 3) := by decide +kernel
theorem dL_cell_12 : decode cL_cell 12 = .ok (.ldc 7, 2) := by decide +kernel
theorem dL_cell_14 : decode cL_cell 14 = .ok (.iload_n 1, 1) := by decide +kernel
theorem dL_cell_15 : decode cL_cell 15 = .ok (.imul, 1) := by decide +kernel
theorem dL_cell_16 : decode cL_cell 16 = .ok (.ireturn, 1) := by decide +kernel
theorem dL_pick_0 : decode cL_pick 0 = .ok (.aload_n 0, 1) := by decide +kernel
theorem dL_pick_1 : decode cL_pick 1 = .ok (.iload_n 1, 1) := by decide +kernel
theorem dL_pick_2 : decode cL_pick 2 = .ok (.invokestatic 8, 3) := by decide +kernel
theorem dL_pick_5 : decode cL_pick 5 = .ok (.iconst 1, 1) := by decide +kernel
theorem dL_pick_6 : decode cL_pick 6 = .ok (.iushr, 1) := by decide +kernel
theorem dL_pick_7 : decode cL_pick 7 = .ok (.iload_n 2, 1) := by decide +kernel
theorem dL_pick_8 : decode cL_pick 8 = .ok (.irem, 1) := by decide +kernel
theorem dL_pick_9 : decode cL_pick 9 = .ok (.ireturn, 1) := by decide +kernel
theorem dL_addShop_0 : decode cL_addShop 0 = .ok (.aload_n 0, 1) := by decide +kernel
theorem dL_addShop_1 : decode cL_addShop 1 = .ok (.iload_n 1, 1) := by decide +kernel
theorem dL_addShop_2 : decode cL_addShop 2 = .ok (.invokevirtual 14, 3) := by decide +kernel
theorem dL_addShop_5 : decode cL_addShop 5 = .ok (.ireturn, 1) := by decide +kernel
theorem dL_addShop_6 : decode cL_addShop 6 = .ok (.astore_n 2, 1) := by decide +kernel
theorem dL_addShop_7 : decode cL_addShop 7 = .ok (.bipush (-78), 2) := by decide +kernel
theorem dL_addShop_9 : decode cL_addShop 9 = .ok (.ireturn, 1) := by decide +kernel
theorem dL_addShop_10 : decode cL_addShop 10 = .ok (.astore_n 2, 1) := by decide +kernel
theorem dL_addShop_11 : decode cL_addShop 11 = .ok (.bipush (-79), 2) := by decide +kernel
theorem dL_addShop_13 : decode cL_addShop 13 = .ok (.ireturn, 1) := by decide +kernel
theorem dL_addItem_0 : decode cL_addItem 0 = .ok (.aload_n 0, 1) := by decide +kernel
theorem dL_addItem_1 : decode cL_addItem 1 = .ok (.iload_n 1, 1) := by decide +kernel
theorem dL_addItem_2 : decode cL_addItem 2 = .ok (.iload_n 2, 1) := by decide +kernel
theorem dL_addItem_3 : decode cL_addItem 3 = .ok (.invokevirtual 24, 3) := by decide +kernel
theorem dL_addItem_6 : decode cL_addItem 6 = .ok (.ireturn, 1) := by decide +kernel
theorem dL_addItem_7 : decode cL_addItem 7 = .ok (.astore_n 3, 1) := by decide +kernel
theorem dL_addItem_8 : decode cL_addItem 8 = .ok (.bipush (-78), 2) := by decide +kernel
theorem dL_addItem_10 : decode cL_addItem 10 = .ok (.ireturn, 1) := by decide +kernel
theorem dL_addItem_11 : decode cL_addItem 11 = .ok (.astore_n 3, 1) := by decide +kernel
theorem dL_addItem_12 : decode cL_addItem 12 = .ok (.bipush (-79), 2) := by decide +kernel
theorem dL_addItem_14 : decode cL_addItem 14 = .ok (.ireturn, 1) := by decide +kernel
theorem dL_carry_0 : decode cL_carry 0 = .ok (.aload_n 0, 1) := by decide +kernel
theorem dL_carry_1 : decode cL_carry 1 = .ok (.iload_n 1, 1) := by decide +kernel
theorem dL_carry_2 : decode cL_carry 2 = .ok (.iload_n 2, 1) := by decide +kernel
theorem dL_carry_3 : decode cL_carry 3 = .ok (.iload_n 3, 1) := by decide +kernel
theorem dL_carry_4 : decode cL_carry 4 = .ok (.iload 4, 2) := by decide +kernel
theorem dL_carry_6 : decode cL_carry 6 = .ok (.invokevirtual 28, 3) := by decide +kernel
theorem dL_carry_9 : decode cL_carry 9 = .ok (.ireturn, 1) := by decide +kernel
theorem dL_carry_10 : decode cL_carry 10 = .ok (.astore 5, 2) := by decide +kernel
theorem dL_carry_12 : decode cL_carry 12 = .ok (.bipush (-77), 2) := by decide +kernel
theorem dL_carry_14 : decode cL_carry 14 = .ok (.ireturn, 1) := by decide +kernel
theorem dL_carry_15 : decode cL_carry 15 = .ok (.astore 5, 2) := by decide +kernel
theorem dL_carry_17 : decode cL_carry 17 = .ok (.bipush (-78), 2) := by decide +kernel
theorem dL_carry_19 : decode cL_carry 19 = .ok (.ireturn, 1) := by decide +kernel
theorem dL_carry_20 : decode cL_carry 20 = .ok (.astore 5, 2) := by decide +kernel
theorem dL_carry_22 : decode cL_carry 22 = .ok (.bipush (-79), 2) := by decide +kernel
theorem dL_carry_24 : decode cL_carry 24 = .ok (.ireturn, 1) := by decide +kernel
theorem dL_carries_0 : decode cL_carries 0 = .ok (.aload_n 0, 1) := by decide +kernel
theorem dL_carries_1 : decode cL_carries 1 = .ok (.iload_n 1, 1) := by decide +kernel
theorem dL_carries_2 : decode cL_carries 2 = .ok (.iload_n 2, 1) := by decide +kernel
theorem dL_carries_3 : decode cL_carries 3 = .ok (.invokevirtual 34, 3) := by decide +kernel
theorem dL_carries_6 : decode cL_carries 6 = .ok (.ifCond .eq 7, 3) := by decide +kernel
theorem dL_carries_9 : decode cL_carries 9 = .ok (.iconst 1, 1) := by decide +kernel
theorem dL_carries_10 : decode cL_carries 10 = .ok (.goto 4, 3) := by decide +kernel
theorem dL_carries_13 : decode cL_carries 13 = .ok (.iconst 0, 1) := by decide +kernel
theorem dL_carries_14 : decode cL_carries 14 = .ok (.ireturn, 1) := by decide +kernel
theorem dL_carries_15 : decode cL_carries 15 = .ok (.astore_n 3, 1) := by decide +kernel
theorem dL_carries_16 : decode cL_carries 16 = .ok (.bipush (-77), 2) := by decide +kernel
theorem dL_carries_18 : decode cL_carries 18 = .ok (.ireturn, 1) := by decide +kernel
theorem dL_supply_0 : decode cL_supply 0 = .ok (.aload_n 0, 1) := by decide +kernel
theorem dL_supply_1 : decode cL_supply 1 = .ok (.iload_n 1, 1) := by decide +kernel
theorem dL_supply_2 : decode cL_supply 2 = .ok (.iload_n 2, 1) := by decide +kernel
theorem dL_supply_3 : decode cL_supply 3 = .ok (.invokevirtual 38, 3) := by decide +kernel
theorem dL_supply_6 : decode cL_supply 6 = .ok (.ireturn, 1) := by decide +kernel
theorem dL_supply_7 : decode cL_supply 7 = .ok (.astore_n 3, 1) := by decide +kernel
theorem dL_supply_8 : decode cL_supply 8 = .ok (.bipush (-77), 2) := by decide +kernel
theorem dL_supply_10 : decode cL_supply 10 = .ok (.ireturn, 1) := by decide +kernel
theorem dL_supply_11 : decode cL_supply 11 = .ok (.astore_n 3, 1) := by decide +kernel
theorem dL_supply_12 : decode cL_supply 12 = .ok (.bipush (-78), 2) := by decide +kernel
theorem dL_supply_14 : decode cL_supply 14 = .ok (.ireturn, 1) := by decide +kernel
theorem dL_supply_15 : decode cL_supply 15 = .ok (.astore_n 3, 1) := by decide +kernel
theorem dL_supply_16 : decode cL_supply 16 = .ok (.bipush (-79), 2) := by decide +kernel
theorem dL_supply_18 : decode cL_supply 18 = .ok (.ireturn, 1) := by decide +kernel
theorem dL_setService_0 : decode cL_setService 0 = .ok (.aload_n 0, 1) := by decide +kernel
theorem dL_setService_1 : decode cL_setService 1 = .ok (.iload_n 1, 1) := by decide +kernel
theorem dL_setService_2 : decode cL_setService 2 = .ok (.invokevirtual 41, 3) := by decide +kernel
theorem dL_setService_5 : decode cL_setService 5 = .ok (.ireturn, 1) := by decide +kernel
theorem dL_setService_6 : decode cL_setService 6 = .ok (.astore_n 2, 1) := by decide +kernel
theorem dL_setService_7 : decode cL_setService 7 = .ok (.bipush (-78), 2) := by decide +kernel
theorem dL_setService_9 : decode cL_setService 9 = .ok (.ireturn, 1) := by decide +kernel
theorem dL_setRates_0 : decode cL_setRates 0 = .ok (.aload_n 0, 1) := by decide +kernel
theorem dL_setRates_1 : decode cL_setRates 1 = .ok (.iload_n 1, 1) := by decide +kernel
theorem dL_setRates_2 : decode cL_setRates 2 = .ok (.iload_n 2, 1) := by decide +kernel
theorem dL_setRates_3 : decode cL_setRates 3 = .ok (.invokevirtual 44, 3) := by decide +kernel
theorem dL_setRates_6 : decode cL_setRates 6 = .ok (.ireturn, 1) := by decide +kernel
theorem dL_setRates_7 : decode cL_setRates 7 = .ok (.astore_n 3, 1) := by decide +kernel
theorem dL_setRates_8 : decode cL_setRates 8 = .ok (.bipush (-78), 2) := by decide +kernel
theorem dL_setRates_10 : decode cL_setRates 10 = .ok (.ireturn, 1) := by decide +kernel
theorem dL_mark_0 : decode cL_mark 0 = .ok (.aload_n 0, 1) := by decide +kernel
theorem dL_mark_1 : decode cL_mark 1 = .ok (.iload_n 1, 1) := by decide +kernel
theorem dL_mark_2 : decode cL_mark 2 = .ok (.iload_n 2, 1) := by decide +kernel
theorem dL_mark_3 : decode cL_mark 3 = .ok (.invokevirtual 47, 3) := by decide +kernel
theorem dL_mark_6 : decode cL_mark 6 = .ok (.ifCond .eq 7, 3) := by decide +kernel
theorem dL_mark_9 : decode cL_mark 9 = .ok (.iconst 1, 1) := by decide +kernel
theorem dL_mark_10 : decode cL_mark 10 = .ok (.goto 4, 3) := by decide +kernel
theorem dL_mark_13 : decode cL_mark 13 = .ok (.iconst 0, 1) := by decide +kernel
theorem dL_mark_14 : decode cL_mark 14 = .ok (.ireturn, 1) := by decide +kernel
theorem dL_mark_15 : decode cL_mark 15 = .ok (.astore_n 3, 1) := by decide +kernel
theorem dL_mark_16 : decode cL_mark 16 = .ok (.bipush (-77), 2) := by decide +kernel
theorem dL_mark_18 : decode cL_mark 18 = .ok (.ireturn, 1) := by decide +kernel
theorem dL_mark_19 : decode cL_mark 19 = .ok (.astore_n 3, 1) := by decide +kernel
theorem dL_mark_20 : decode cL_mark 20 = .ok (.bipush (-78), 2) := by decide +kernel
theorem dL_mark_22 : decode cL_mark 22 = .ok (.ireturn, 1) := by decide +kernel
theorem dL_isMarked_0 : decode cL_isMarked 0 = .ok (.aload_n 0, 1) := by decide +kernel
theorem dL_isMarked_1 : decode cL_isMarked 1 = .ok (.iload_n 1, 1) := by decide +kernel
theorem dL_isMarked_2 : decode cL_isMarked 2 = .ok (.iload_n 2, 1) := by decide +kernel
theorem dL_isMarked_3 : decode cL_isMarked 3 = .ok (.invokevirtual 50, 3) := by decide +kernel
theorem dL_isMarked_6 : decode cL_isMarked 6 = .ok (.ifCond .eq 7, 3) := by decide +kernel
theorem dL_isMarked_9 : decode cL_isMarked 9 = .ok (.iconst 1, 1) := by decide +kernel
theorem dL_isMarked_10 : decode cL_isMarked 10 = .ok (.goto 4, 3) := by decide +kernel
theorem dL_isMarked_13 : decode cL_isMarked 13 = .ok (.iconst 0, 1) := by decide +kernel
theorem dL_isMarked_14 : decode cL_isMarked 14 = .ok (.ireturn, 1) := by decide +kernel
theorem dL_isMarked_15 : decode cL_isMarked 15 = .ok (.astore_n 3, 1) := by decide +kernel
theorem dL_isMarked_16 : decode cL_isMarked 16 = .ok (.bipush (-77), 2) := by decide +kernel
theorem dL_isMarked_18 : decode cL_isMarked 18 = .ok (.ireturn, 1) := by decide +kernel
theorem dL_isMarked_19 : decode cL_isMarked 19 = .ok (.astore_n 3, 1) := by decide +kernel
theorem dL_isMarked_20 : decode cL_isMarked 20 = .ok (.bipush (-78), 2) := by decide +kernel
theorem dL_isMarked_22 : decode cL_isMarked 22 = .ok (.ireturn, 1) := by decide +kernel
theorem dL_demand_0 : decode cL_demand 0 = .ok (.aload_n 0, 1) := by decide +kernel
theorem dL_demand_1 : decode cL_demand 1 = .ok (.iload_n 1, 1) := by decide +kernel
theorem dL_demand_2 : decode cL_demand 2 = .ok (.iload_n 2, 1) := by decide +kernel
theorem dL_demand_3 : decode cL_demand 3 = .ok (.iload_n 3, 1) := by decide +kernel
theorem dL_demand_4 : decode cL_demand 4 = .ok (.invokevirtual 53, 3) := by decide +kernel
theorem dL_demand_7 : decode cL_demand 7 = .ok (.ireturn, 1) := by decide +kernel
theorem dL_demand_8 : decode cL_demand 8 = .ok (.astore 4, 2) := by decide +kernel
theorem dL_demand_10 : decode cL_demand 10 = .ok (.bipush (-77), 2) := by decide +kernel
theorem dL_demand_12 : decode cL_demand 12 = .ok (.ireturn, 1) := by decide +kernel
theorem dL_demand_13 : decode cL_demand 13 = .ok (.astore 4, 2) := by decide +kernel
theorem dL_demand_15 : decode cL_demand 15 = .ok (.bipush (-75), 2) := by decide +kernel
theorem dL_demand_17 : decode cL_demand 17 = .ok (.ireturn, 1) := by decide +kernel
theorem dL_demand_18 : decode cL_demand 18 = .ok (.astore 4, 2) := by decide +kernel
theorem dL_demand_20 : decode cL_demand 20 = .ok (.bipush (-78), 2) := by decide +kernel
theorem dL_demand_22 : decode cL_demand 22 = .ok (.ireturn, 1) := by decide +kernel
theorem dL_demand_23 : decode cL_demand 23 = .ok (.astore 4, 2) := by decide +kernel
theorem dL_demand_25 : decode cL_demand 25 = .ok (.bipush (-76), 2) := by decide +kernel
theorem dL_demand_27 : decode cL_demand 27 = .ok (.ireturn, 1) := by decide +kernel
theorem dL_night_0 : decode cL_night 0 = .ok (.aload_n 0, 1) := by decide +kernel
theorem dL_night_1 : decode cL_night 1 = .ok (.invokevirtual 61, 3) := by decide +kernel
theorem dL_night_4 : decode cL_night 4 = .ok (.ireturn, 1) := by decide +kernel
theorem dL_night_5 : decode cL_night 5 = .ok (.astore_n 1, 1) := by decide +kernel
theorem dL_night_6 : decode cL_night 6 = .ok (.bipush (-79), 2) := by decide +kernel
theorem dL_night_8 : decode cL_night 8 = .ok (.ireturn, 1) := by decide +kernel
theorem dL_demandToday_0 : decode cL_demandToday 0 = .ok (.aload_n 0, 1) := by decide +kernel
theorem dL_demandToday_1 : decode cL_demandToday 1 = .ok (.iload_n 1, 1) := by decide +kernel
theorem dL_demandToday_2 : decode cL_demandToday 2 = .ok (.iload_n 2, 1) := by decide +kernel
theorem dL_demandToday_3 : decode cL_demandToday 3 = .ok (.invokevirtual 65, 3) := by decide +kernel
theorem dL_demandToday_6 : decode cL_demandToday 6 = .ok (.ireturn, 1) := by decide +kernel
theorem dL_demandToday_7 : decode cL_demandToday 7 = .ok (.astore_n 3, 1) := by decide +kernel
theorem dL_demandToday_8 : decode cL_demandToday 8 = .ok (.bipush (-77), 2) := by decide +kernel
theorem dL_demandToday_10 : decode cL_demandToday 10 = .ok (.ireturn, 1) := by decide +kernel
theorem dL_demandToday_11 : decode cL_demandToday 11 = .ok (.astore_n 3, 1) := by decide +kernel
theorem dL_demandToday_12 : decode cL_demandToday 12 = .ok (.bipush (-75), 2) := by decide +kernel
theorem dL_demandToday_14 : decode cL_demandToday 14 = .ok (.ireturn, 1) := by decide +kernel
theorem dL_level_0 : decode cL_level 0 = .ok (.aload_n 0, 1) := by decide +kernel
theorem dL_level_1 : decode cL_level 1 = .ok (.iload_n 1, 1) := by decide +kernel
theorem dL_level_2 : decode cL_level 2 = .ok (.iload_n 2, 1) := by decide +kernel
theorem dL_level_3 : decode cL_level 3 = .ok (.invokevirtual 68, 3) := by decide +kernel
theorem dL_level_6 : decode cL_level 6 = .ok (.ireturn, 1) := by decide +kernel
theorem dL_level_7 : decode cL_level 7 = .ok (.astore_n 3, 1) := by decide +kernel
theorem dL_level_8 : decode cL_level 8 = .ok (.bipush (-77), 2) := by decide +kernel
theorem dL_level_10 : decode cL_level 10 = .ok (.ireturn, 1) := by decide +kernel
theorem dL_level_11 : decode cL_level 11 = .ok (.astore_n 3, 1) := by decide +kernel
theorem dL_level_12 : decode cL_level 12 = .ok (.bipush (-75), 2) := by decide +kernel
theorem dL_level_14 : decode cL_level 14 = .ok (.ireturn, 1) := by decide +kernel
theorem dL_levelByDays_0 : decode cL_levelByDays 0 = .ok (.aload_n 0, 1) := by decide +kernel
theorem dL_levelByDays_1 : decode cL_levelByDays 1 = .ok (.iload_n 1, 1) := by decide +kernel
theorem dL_levelByDays_2 : decode cL_levelByDays 2 = .ok (.iload_n 2, 1) := by decide +kernel
theorem dL_levelByDays_3 : decode cL_levelByDays 3 = .ok (.invokevirtual 71, 3) := by decide +kernel
theorem dL_levelByDays_6 : decode cL_levelByDays 6 = .ok (.ireturn, 1) := by decide +kernel
theorem dL_levelByDays_7 : decode cL_levelByDays 7 = .ok (.astore_n 3, 1) := by decide +kernel
theorem dL_levelByDays_8 : decode cL_levelByDays 8 = .ok (.bipush (-77), 2) := by decide +kernel
theorem dL_levelByDays_10 : decode cL_levelByDays 10 = .ok (.ireturn, 1) := by decide +kernel
theorem dL_levelByDays_11 : decode cL_levelByDays 11 = .ok (.astore_n 3, 1) := by decide +kernel
theorem dL_levelByDays_12 : decode cL_levelByDays 12 = .ok (.bipush (-75), 2) := by decide +kernel
theorem dL_levelByDays_14 : decode cL_levelByDays 14 = .ok (.ireturn, 1) := by decide +kernel
theorem dL_season_0 : decode cL_season 0 = .ok (.aload_n 0, 1) := by decide +kernel
theorem dL_season_1 : decode cL_season 1 = .ok (.iload_n 1, 1) := by decide +kernel
theorem dL_season_2 : decode cL_season 2 = .ok (.iload_n 2, 1) := by decide +kernel
theorem dL_season_3 : decode cL_season 3 = .ok (.iload_n 3, 1) := by decide +kernel
theorem dL_season_4 : decode cL_season 4 = .ok (.invokevirtual 74, 3) := by decide +kernel
theorem dL_season_7 : decode cL_season 7 = .ok (.ireturn, 1) := by decide +kernel
theorem dL_season_8 : decode cL_season 8 = .ok (.astore 4, 2) := by decide +kernel
theorem dL_season_10 : decode cL_season 10 = .ok (.bipush (-77), 2) := by decide +kernel
theorem dL_season_12 : decode cL_season 12 = .ok (.ireturn, 1) := by decide +kernel
theorem dL_season_13 : decode cL_season 13 = .ok (.astore 4, 2) := by decide +kernel
theorem dL_season_15 : decode cL_season 15 = .ok (.bipush (-75), 2) := by decide +kernel
theorem dL_season_17 : decode cL_season 17 = .ok (.ireturn, 1) := by decide +kernel
theorem dL_season_18 : decode cL_season 18 = .ok (.astore 4, 2) := by decide +kernel
theorem dL_season_20 : decode cL_season 20 = .ok (.bipush (-78), 2) := by decide +kernel
theorem dL_season_22 : decode cL_season 22 = .ok (.ireturn, 1) := by decide +kernel
theorem dL_forecast_0 : decode cL_forecast 0 = .ok (.aload_n 0, 1) := by decide +kernel
theorem dL_forecast_1 : decode cL_forecast 1 = .ok (.iload_n 1, 1) := by decide +kernel
theorem dL_forecast_2 : decode cL_forecast 2 = .ok (.iload_n 2, 1) := by decide +kernel
theorem dL_forecast_3 : decode cL_forecast 3 = .ok (.iload_n 3, 1) := by decide +kernel
theorem dL_forecast_4 : decode cL_forecast 4 = .ok (.invokevirtual 77, 3) := by decide +kernel
theorem dL_forecast_7 : decode cL_forecast 7 = .ok (.ireturn, 1) := by decide +kernel
theorem dL_forecast_8 : decode cL_forecast 8 = .ok (.astore 4, 2) := by decide +kernel
theorem dL_forecast_10 : decode cL_forecast 10 = .ok (.bipush (-77), 2) := by decide +kernel
theorem dL_forecast_12 : decode cL_forecast 12 = .ok (.ireturn, 1) := by decide +kernel
theorem dL_forecast_13 : decode cL_forecast 13 = .ok (.astore 4, 2) := by decide +kernel
theorem dL_forecast_15 : decode cL_forecast 15 = .ok (.bipush (-75), 2) := by decide +kernel
theorem dL_forecast_17 : decode cL_forecast 17 = .ok (.ireturn, 1) := by decide +kernel
theorem dL_forecast_18 : decode cL_forecast 18 = .ok (.astore 4, 2) := by decide +kernel
theorem dL_forecast_20 : decode cL_forecast 20 = .ok (.bipush (-78), 2) := by decide +kernel
theorem dL_forecast_22 : decode cL_forecast 22 = .ok (.ireturn, 1) := by decide +kernel
theorem dL_errors_0 : decode cL_errors 0 = .ok (.aload_n 0, 1) := by decide +kernel
theorem dL_errors_1 : decode cL_errors 1 = .ok (.iload_n 1, 1) := by decide +kernel
theorem dL_errors_2 : decode cL_errors 2 = .ok (.iload_n 2, 1) := by decide +kernel
theorem dL_errors_3 : decode cL_errors 3 = .ok (.iload_n 3, 1) := by decide +kernel
theorem dL_errors_4 : decode cL_errors 4 = .ok (.invokevirtual 80, 3) := by decide +kernel
theorem dL_errors_7 : decode cL_errors 7 = .ok (.ireturn, 1) := by decide +kernel
theorem dL_errors_8 : decode cL_errors 8 = .ok (.astore 4, 2) := by decide +kernel
theorem dL_errors_10 : decode cL_errors 10 = .ok (.bipush (-77), 2) := by decide +kernel
theorem dL_errors_12 : decode cL_errors 12 = .ok (.ireturn, 1) := by decide +kernel
theorem dL_errors_13 : decode cL_errors 13 = .ok (.astore 4, 2) := by decide +kernel
theorem dL_errors_15 : decode cL_errors 15 = .ok (.bipush (-75), 2) := by decide +kernel
theorem dL_errors_17 : decode cL_errors 17 = .ok (.ireturn, 1) := by decide +kernel
theorem dL_errors_18 : decode cL_errors 18 = .ok (.astore 4, 2) := by decide +kernel
theorem dL_errors_20 : decode cL_errors 20 = .ok (.bipush (-78), 2) := by decide +kernel
theorem dL_errors_22 : decode cL_errors 22 = .ok (.ireturn, 1) := by decide +kernel
theorem dL_safety_0 : decode cL_safety 0 = .ok (.aload_n 0, 1) := by decide +kernel
theorem dL_safety_1 : decode cL_safety 1 = .ok (.iload_n 1, 1) := by decide +kernel
theorem dL_safety_2 : decode cL_safety 2 = .ok (.iload_n 2, 1) := by decide +kernel
theorem dL_safety_3 : decode cL_safety 3 = .ok (.invokevirtual 83, 3) := by decide +kernel
theorem dL_safety_6 : decode cL_safety 6 = .ok (.ireturn, 1) := by decide +kernel
theorem dL_safety_7 : decode cL_safety 7 = .ok (.astore_n 3, 1) := by decide +kernel
theorem dL_safety_8 : decode cL_safety 8 = .ok (.bipush (-77), 2) := by decide +kernel
theorem dL_safety_10 : decode cL_safety 10 = .ok (.ireturn, 1) := by decide +kernel
theorem dL_safety_11 : decode cL_safety 11 = .ok (.astore_n 3, 1) := by decide +kernel
theorem dL_safety_12 : decode cL_safety 12 = .ok (.bipush (-75), 2) := by decide +kernel
theorem dL_safety_14 : decode cL_safety 14 = .ok (.ireturn, 1) := by decide +kernel
theorem dL_stock_0 : decode cL_stock 0 = .ok (.aload_n 0, 1) := by decide +kernel
theorem dL_stock_1 : decode cL_stock 1 = .ok (.iload_n 1, 1) := by decide +kernel
theorem dL_stock_2 : decode cL_stock 2 = .ok (.iload_n 2, 1) := by decide +kernel
theorem dL_stock_3 : decode cL_stock 3 = .ok (.invokevirtual 86, 3) := by decide +kernel
theorem dL_stock_6 : decode cL_stock 6 = .ok (.ireturn, 1) := by decide +kernel
theorem dL_stock_7 : decode cL_stock 7 = .ok (.astore_n 3, 1) := by decide +kernel
theorem dL_stock_8 : decode cL_stock 8 = .ok (.bipush (-77), 2) := by decide +kernel
theorem dL_stock_10 : decode cL_stock 10 = .ok (.ireturn, 1) := by decide +kernel
theorem dL_stock_11 : decode cL_stock 11 = .ok (.astore_n 3, 1) := by decide +kernel
theorem dL_stock_12 : decode cL_stock 12 = .ok (.bipush (-75), 2) := by decide +kernel
theorem dL_stock_14 : decode cL_stock 14 = .ok (.ireturn, 1) := by decide +kernel
theorem dL_stockByJournal_0 : decode cL_stockByJournal 0 = .ok (.aload_n 0, 1) := by decide +kernel
theorem dL_stockByJournal_1 : decode cL_stockByJournal 1 = .ok (.iload_n 1, 1) := by decide +kernel
theorem dL_stockByJournal_2 : decode cL_stockByJournal 2 = .ok (.iload_n 2, 1) := by decide +kernel
theorem dL_stockByJournal_3 : decode cL_stockByJournal 3 = .ok (.invokevirtual 89, 3) := by decide +kernel
theorem dL_stockByJournal_6 : decode cL_stockByJournal 6 = .ok (.ireturn, 1) := by decide +kernel
theorem dL_stockByJournal_7 : decode cL_stockByJournal 7 = .ok (.astore_n 3, 1) := by decide +kernel
theorem dL_stockByJournal_8 : decode cL_stockByJournal 8 = .ok (.bipush (-77), 2) := by decide +kernel
theorem dL_stockByJournal_10 : decode cL_stockByJournal 10 = .ok (.ireturn, 1) := by decide +kernel
theorem dL_stockByJournal_11 : decode cL_stockByJournal 11 = .ok (.astore_n 3, 1) := by decide +kernel
theorem dL_stockByJournal_12 : decode cL_stockByJournal 12 = .ok (.bipush (-75), 2) := by decide +kernel
theorem dL_stockByJournal_14 : decode cL_stockByJournal 14 = .ok (.ireturn, 1) := by decide +kernel
theorem dL_onWay_0 : decode cL_onWay 0 = .ok (.aload_n 0, 1) := by decide +kernel
theorem dL_onWay_1 : decode cL_onWay 1 = .ok (.iload_n 1, 1) := by decide +kernel
theorem dL_onWay_2 : decode cL_onWay 2 = .ok (.iload_n 2, 1) := by decide +kernel
theorem dL_onWay_3 : decode cL_onWay 3 = .ok (.invokevirtual 92, 3) := by decide +kernel
theorem dL_onWay_6 : decode cL_onWay 6 = .ok (.ireturn, 1) := by decide +kernel
theorem dL_onWay_7 : decode cL_onWay 7 = .ok (.astore_n 3, 1) := by decide +kernel
theorem dL_onWay_8 : decode cL_onWay 8 = .ok (.bipush (-77), 2) := by decide +kernel
theorem dL_onWay_10 : decode cL_onWay 10 = .ok (.ireturn, 1) := by decide +kernel
theorem dL_onWay_11 : decode cL_onWay 11 = .ok (.astore_n 3, 1) := by decide +kernel
theorem dL_onWay_12 : decode cL_onWay 12 = .ok (.bipush (-75), 2) := by decide +kernel
theorem dL_onWay_14 : decode cL_onWay 14 = .ok (.ireturn, 1) := by decide +kernel
theorem dL_nextArrival_0 : decode cL_nextArrival 0 = .ok (.aload_n 0, 1) := by decide +kernel
theorem dL_nextArrival_1 : decode cL_nextArrival 1 = .ok (.iload_n 1, 1) := by decide +kernel
theorem dL_nextArrival_2 : decode cL_nextArrival 2 = .ok (.iload_n 2, 1) := by decide +kernel
theorem dL_nextArrival_3 : decode cL_nextArrival 3 = .ok (.invokevirtual 95, 3) := by decide +kernel
theorem dL_nextArrival_6 : decode cL_nextArrival 6 = .ok (.ireturn, 1) := by decide +kernel
theorem dL_nextArrival_7 : decode cL_nextArrival 7 = .ok (.astore_n 3, 1) := by decide +kernel
theorem dL_nextArrival_8 : decode cL_nextArrival 8 = .ok (.bipush (-77), 2) := by decide +kernel
theorem dL_nextArrival_10 : decode cL_nextArrival 10 = .ok (.ireturn, 1) := by decide +kernel
theorem dL_nextArrival_11 : decode cL_nextArrival 11 = .ok (.astore_n 3, 1) := by decide +kernel
theorem dL_nextArrival_12 : decode cL_nextArrival 12 = .ok (.bipush (-75), 2) := by decide +kernel
theorem dL_nextArrival_14 : decode cL_nextArrival 14 = .ok (.ireturn, 1) := by decide +kernel
theorem dL_need_0 : decode cL_need 0 = .ok (.aload_n 0, 1) := by decide +kernel
theorem dL_need_1 : decode cL_need 1 = .ok (.iload_n 1, 1) := by decide +kernel
theorem dL_need_2 : decode cL_need 2 = .ok (.iload_n 2, 1) := by decide +kernel
theorem dL_need_3 : decode cL_need 3 = .ok (.invokevirtual 98, 3) := by decide +kernel
theorem dL_need_6 : decode cL_need 6 = .ok (.ireturn, 1) := by decide +kernel
theorem dL_need_7 : decode cL_need 7 = .ok (.astore_n 3, 1) := by decide +kernel
theorem dL_need_8 : decode cL_need 8 = .ok (.bipush (-77), 2) := by decide +kernel
theorem dL_need_10 : decode cL_need 10 = .ok (.ireturn, 1) := by decide +kernel
theorem dL_need_11 : decode cL_need 11 = .ok (.astore_n 3, 1) := by decide +kernel
theorem dL_need_12 : decode cL_need 12 = .ok (.bipush (-75), 2) := by decide +kernel
theorem dL_need_14 : decode cL_need 14 = .ok (.ireturn, 1) := by decide +kernel
theorem dL_request_0 : decode cL_request 0 = .ok (.aload_n 0, 1) := by decide +kernel
theorem dL_request_1 : decode cL_request 1 = .ok (.iload_n 1, 1) := by decide +kernel
theorem dL_request_2 : decode cL_request 2 = .ok (.iload_n 2, 1) := by decide +kernel
theorem dL_request_3 : decode cL_request 3 = .ok (.invokevirtual 101, 3) := by decide +kernel
theorem dL_request_6 : decode cL_request 6 = .ok (.ireturn, 1) := by decide +kernel
theorem dL_request_7 : decode cL_request 7 = .ok (.astore_n 3, 1) := by decide +kernel
theorem dL_request_8 : decode cL_request 8 = .ok (.bipush (-77), 2) := by decide +kernel
theorem dL_request_10 : decode cL_request 10 = .ok (.ireturn, 1) := by decide +kernel
theorem dL_request_11 : decode cL_request 11 = .ok (.astore_n 3, 1) := by decide +kernel
theorem dL_request_12 : decode cL_request 12 = .ok (.bipush (-75), 2) := by decide +kernel
theorem dL_request_14 : decode cL_request 14 = .ok (.ireturn, 1) := by decide +kernel
theorem dL_share_0 : decode cL_share 0 = .ok (.aload_n 0, 1) := by decide +kernel
theorem dL_share_1 : decode cL_share 1 = .ok (.iload_n 1, 1) := by decide +kernel
theorem dL_share_2 : decode cL_share 2 = .ok (.iload_n 2, 1) := by decide +kernel
theorem dL_share_3 : decode cL_share 3 = .ok (.invokevirtual 104, 3) := by decide +kernel
theorem dL_share_6 : decode cL_share 6 = .ok (.ireturn, 1) := by decide +kernel
theorem dL_share_7 : decode cL_share 7 = .ok (.astore_n 3, 1) := by decide +kernel
theorem dL_share_8 : decode cL_share 8 = .ok (.bipush (-77), 2) := by decide +kernel
theorem dL_share_10 : decode cL_share 10 = .ok (.ireturn, 1) := by decide +kernel
theorem dL_share_11 : decode cL_share 11 = .ok (.astore_n 3, 1) := by decide +kernel
theorem dL_share_12 : decode cL_share 12 = .ok (.bipush (-75), 2) := by decide +kernel
theorem dL_share_14 : decode cL_share 14 = .ok (.ireturn, 1) := by decide +kernel
theorem dL_shareByPacks_0 : decode cL_shareByPacks 0 = .ok (.aload_n 0, 1) := by decide +kernel
theorem dL_shareByPacks_1 : decode cL_shareByPacks 1 = .ok (.iload_n 1, 1) := by decide +kernel
theorem dL_shareByPacks_2 : decode cL_shareByPacks 2 = .ok (.iload_n 2, 1) := by decide +kernel
theorem dL_shareByPacks_3 : decode cL_shareByPacks 3 = .ok (.invokevirtual 107, 3) := by decide +kernel
theorem dL_shareByPacks_6 : decode cL_shareByPacks 6 = .ok (.ireturn, 1) := by decide +kernel
theorem dL_shareByPacks_7 : decode cL_shareByPacks 7 = .ok (.astore_n 3, 1) := by decide +kernel
theorem dL_shareByPacks_8 : decode cL_shareByPacks 8 = .ok (.bipush (-77), 2) := by decide +kernel
theorem dL_shareByPacks_10 : decode cL_shareByPacks 10 = .ok (.ireturn, 1) := by decide +kernel
theorem dL_shareByPacks_11 : decode cL_shareByPacks 11 = .ok (.astore_n 3, 1) := by decide +kernel
theorem dL_shareByPacks_12 : decode cL_shareByPacks 12 = .ok (.bipush (-75), 2) := by decide +kernel
theorem dL_shareByPacks_14 : decode cL_shareByPacks 14 = .ok (.ireturn, 1) := by decide +kernel
theorem dL_centre_0 : decode cL_centre 0 = .ok (.aload_n 0, 1) := by decide +kernel
theorem dL_centre_1 : decode cL_centre 1 = .ok (.iload_n 1, 1) := by decide +kernel
theorem dL_centre_2 : decode cL_centre 2 = .ok (.invokevirtual 110, 3) := by decide +kernel
theorem dL_centre_5 : decode cL_centre 5 = .ok (.ireturn, 1) := by decide +kernel
theorem dL_centre_6 : decode cL_centre 6 = .ok (.astore_n 2, 1) := by decide +kernel
theorem dL_centre_7 : decode cL_centre 7 = .ok (.bipush (-77), 2) := by decide +kernel
theorem dL_centre_9 : decode cL_centre 9 = .ok (.ireturn, 1) := by decide +kernel
theorem dL_centreByJournal_0 : decode cL_centreByJournal 0 = .ok (.aload_n 0, 1) := by decide +kernel
theorem dL_centreByJournal_1 : decode cL_centreByJournal 1 = .ok (.iload_n 1, 1) := by decide +kernel
theorem dL_centreByJournal_2 : decode cL_centreByJournal 2 = .ok (.invokevirtual 113, 3) := by decide +kernel
theorem dL_centreByJournal_5 : decode cL_centreByJournal 5 = .ok (.ireturn, 1) := by decide +kernel
theorem dL_centreByJournal_6 : decode cL_centreByJournal 6 = .ok (.astore_n 2, 1) := by decide +kernel
theorem dL_centreByJournal_7 : decode cL_centreByJournal 7 = .ok (.bipush (-77), 2) := by decide +kernel
theorem dL_centreByJournal_9 : decode cL_centreByJournal 9 = .ok (.ireturn, 1) := by decide +kernel
theorem dL_lost_0 : decode cL_lost 0 = .ok (.aload_n 0, 1) := by decide +kernel
theorem dL_lost_1 : decode cL_lost 1 = .ok (.iload_n 1, 1) := by decide +kernel
theorem dL_lost_2 : decode cL_lost 2 = .ok (.iload_n 2, 1) := by decide +kernel
theorem dL_lost_3 : decode cL_lost 3 = .ok (.invokevirtual 116, 3) := by decide +kernel
theorem dL_lost_6 : decode cL_lost 6 = .ok (.ireturn, 1) := by decide +kernel
theorem dL_lost_7 : decode cL_lost 7 = .ok (.astore_n 3, 1) := by decide +kernel
theorem dL_lost_8 : decode cL_lost 8 = .ok (.bipush (-77), 2) := by decide +kernel
theorem dL_lost_10 : decode cL_lost 10 = .ok (.ireturn, 1) := by decide +kernel
theorem dL_lost_11 : decode cL_lost 11 = .ok (.astore_n 3, 1) := by decide +kernel
theorem dL_lost_12 : decode cL_lost 12 = .ok (.bipush (-75), 2) := by decide +kernel
theorem dL_lost_14 : decode cL_lost 14 = .ok (.ireturn, 1) := by decide +kernel
theorem dL_sum_0 : decode cL_sum 0 = .ok (.aload_n 0, 1) := by decide +kernel
theorem dL_sum_1 : decode cL_sum 1 = .ok (.invokevirtual 154, 3) := by decide +kernel
theorem dL_sum_4 : decode cL_sum 4 = .ok (.i2l, 1) := by decide +kernel
theorem dL_sum_5 : decode cL_sum 5 = .ok (.ldc2_w 187, 3) := by decide +kernel
theorem dL_sum_8 : decode cL_sum 8 = .ok (.aload_n 0, 1) := by decide +kernel
theorem dL_sum_9 : decode cL_sum 9 = .ok (.invokevirtual 179, 3) := by decide +kernel
theorem dL_sum_12 : decode cL_sum 12 = .ok (.lmul, 1) := by decide +kernel
theorem dL_sum_13 : decode cL_sum 13 = .ok (.ladd, 1) := by decide +kernel
theorem dL_sum_14 : decode cL_sum 14 = .ok (.lstore_n 1, 1) := by decide +kernel
theorem dL_sum_15 : decode cL_sum 15 = .ok (.iconst 0, 1) := by decide +kernel
theorem dL_sum_16 : decode cL_sum 16 = .ok (.istore_n 3, 1) := by decide +kernel
theorem dL_sum_17 : decode cL_sum 17 = .ok (.iload_n 3, 1) := by decide +kernel
theorem dL_sum_18 : decode cL_sum 18 = .ok (.bipush 6, 2) := by decide +kernel
theorem dL_sum_20 : decode cL_sum 20 = .ok (.if_icmp .ge 109, 3) := by decide +kernel
theorem dL_sum_23 : decode cL_sum 23 = .ok (.iload_n 3, 1) := by decide +kernel
theorem dL_sum_24 : decode cL_sum 24 = .ok (.iconst 2, 1) := by decide +kernel
theorem dL_sum_25 : decode cL_sum 25 = .ok (.idiv, 1) := by decide +kernel
theorem dL_sum_26 : decode cL_sum 26 = .ok (.istore 4, 2) := by decide +kernel
theorem dL_sum_28 : decode cL_sum 28 = .ok (.iload_n 3, 1) := by decide +kernel
theorem dL_sum_29 : decode cL_sum 29 = .ok (.iconst 2, 1) := by decide +kernel
theorem dL_sum_30 : decode cL_sum 30 = .ok (.irem, 1) := by decide +kernel
theorem dL_sum_31 : decode cL_sum 31 = .ok (.istore 5, 2) := by decide +kernel
theorem dL_sum_33 : decode cL_sum 33 = .ok (.ldc2_w 187, 3) := by decide +kernel
theorem dL_sum_36 : decode cL_sum 36 = .ok (.lload_n 1, 1) := by decide +kernel
theorem dL_sum_37 : decode cL_sum 37 = .ok (.lmul, 1) := by decide +kernel
theorem dL_sum_38 : decode cL_sum 38 = .ok (.aload_n 0, 1) := by decide +kernel
theorem dL_sum_39 : decode cL_sum 39 = .ok (.iload 4, 2) := by decide +kernel
theorem dL_sum_41 : decode cL_sum 41 = .ok (.iload 5, 2) := by decide +kernel
theorem dL_sum_43 : decode cL_sum 43 = .ok (.invokestatic 139, 3) := by decide +kernel
theorem dL_sum_46 : decode cL_sum 46 = .ok (.i2l, 1) := by decide +kernel
theorem dL_sum_47 : decode cL_sum 47 = .ok (.ladd, 1) := by decide +kernel
theorem dL_sum_48 : decode cL_sum 48 = .ok (.ldc2_w 189, 3) := by decide +kernel
theorem dL_sum_51 : decode cL_sum 51 = .ok (.aload_n 0, 1) := by decide +kernel
theorem dL_sum_52 : decode cL_sum 52 = .ok (.iload 4, 2) := by decide +kernel
theorem dL_sum_54 : decode cL_sum 54 = .ok (.iload 5, 2) := by decide +kernel
theorem dL_sum_56 : decode cL_sum 56 = .ok (.invokestatic 141, 3) := by decide +kernel
theorem dL_sum_59 : decode cL_sum 59 = .ok (.i2l, 1) := by decide +kernel
theorem dL_sum_60 : decode cL_sum 60 = .ok (.lmul, 1) := by decide +kernel
theorem dL_sum_61 : decode cL_sum 61 = .ok (.ladd, 1) := by decide +kernel
theorem dL_sum_62 : decode cL_sum 62 = .ok (.ldc2_w 191, 3) := by decide +kernel
theorem dL_sum_65 : decode cL_sum 65 = .ok (.aload_n 0, 1) := by decide +kernel
theorem dL_sum_66 : decode cL_sum 66 = .ok (.iload 4, 2) := by decide +kernel
theorem dL_sum_68 : decode cL_sum 68 = .ok (.iload 5, 2) := by decide +kernel
theorem dL_sum_70 : decode cL_sum 70 = .ok (.invokestatic 193, 3) := by decide +kernel
theorem dL_sum_73 : decode cL_sum 73 = .ok (.i2l, 1) := by decide +kernel
theorem dL_sum_74 : decode cL_sum 74 = .ok (.lmul, 1) := by decide +kernel
theorem dL_sum_75 : decode cL_sum 75 = .ok (.ladd, 1) := by decide +kernel
theorem dL_sum_76 : decode cL_sum 76 = .ok (.ldc2_w 195, 3) := by decide +kernel
theorem dL_sum_79 : decode cL_sum 79 = .ok (.aload_n 0, 1) := by decide +kernel
theorem dL_sum_80 : decode cL_sum 80 = .ok (.iload 4, 2) := by decide +kernel
theorem dL_sum_82 : decode cL_sum 82 = .ok (.iload 5, 2) := by decide +kernel
theorem dL_sum_84 : decode cL_sum 84 = .ok (.invokestatic 197, 3) := by decide +kernel
theorem dL_sum_87 : decode cL_sum 87 = .ok (.i2l, 1) := by decide +kernel
theorem dL_sum_88 : decode cL_sum 88 = .ok (.lmul, 1) := by decide +kernel
theorem dL_sum_89 : decode cL_sum 89 = .ok (.ladd, 1) := by decide +kernel
theorem dL_sum_90 : decode cL_sum 90 = .ok (.ldc2_w 199, 3) := by decide +kernel
theorem dL_sum_93 : decode cL_sum 93 = .ok (.aload_n 0, 1) := by decide +kernel
theorem dL_sum_94 : decode cL_sum 94 = .ok (.iload 4, 2) := by decide +kernel
theorem dL_sum_96 : decode cL_sum 96 = .ok (.iload 5, 2) := by decide +kernel
theorem dL_sum_98 : decode cL_sum 98 = .ok (.invokestatic 201, 3) := by decide +kernel
theorem dL_sum_101 : decode cL_sum 101 = .ok (.i2l, 1) := by decide +kernel
theorem dL_sum_102 : decode cL_sum 102 = .ok (.lmul, 1) := by decide +kernel
theorem dL_sum_103 : decode cL_sum 103 = .ok (.ladd, 1) := by decide +kernel
theorem dL_sum_104 : decode cL_sum 104 = .ok (.aload_n 0, 1) := by decide +kernel
theorem dL_sum_105 : decode cL_sum 105 = .ok (.iload 4, 2) := by decide +kernel
theorem dL_sum_107 : decode cL_sum 107 = .ok (.iload 5, 2) := by decide +kernel
theorem dL_sum_109 : decode cL_sum 109 = .ok (.invokestatic 161, 3) := by decide +kernel
theorem dL_sum_112 : decode cL_sum 112 = .ok (.i2l, 1) := by decide +kernel
theorem dL_sum_113 : decode cL_sum 113 = .ok (.ladd, 1) := by decide +kernel
theorem dL_sum_114 : decode cL_sum 114 = .ok (.aload_n 0, 1) := by decide +kernel
theorem dL_sum_115 : decode cL_sum 115 = .ok (.iload 5, 2) := by decide +kernel
theorem dL_sum_117 : decode cL_sum 117 = .ok (.invokestatic 148, 3) := by decide +kernel
theorem dL_sum_120 : decode cL_sum 120 = .ok (.i2l, 1) := by decide +kernel
theorem dL_sum_121 : decode cL_sum 121 = .ok (.ladd, 1) := by decide +kernel
theorem dL_sum_122 : decode cL_sum 122 = .ok (.lstore_n 1, 1) := by decide +kernel
theorem dL_sum_123 : decode cL_sum 123 = .ok (.iinc 3 1, 3) := by decide +kernel
theorem dL_sum_126 : decode cL_sum 126 = .ok (.goto (-109), 3) := by decide +kernel
theorem dL_sum_129 : decode cL_sum 129 = .ok (.lload_n 1, 1) := by decide +kernel
theorem dL_sum_130 : decode cL_sum 130 = .ok (.lreturn, 1) := by decide +kernel
theorem dL_areEven_0 : decode cL_areEven 0 = .ok (.iconst 1, 1) := by decide +kernel
theorem dL_areEven_1 : decode cL_areEven 1 = .ok (.istore_n 3, 1) := by decide +kernel
theorem dL_areEven_2 : decode cL_areEven 2 = .ok (.iconst 0, 1) := by decide +kernel
theorem dL_areEven_3 : decode cL_areEven 3 = .ok (.istore 4, 2) := by decide +kernel
theorem dL_areEven_5 : decode cL_areEven 5 = .ok (.iload 4, 2) := by decide +kernel
theorem dL_areEven_7 : decode cL_areEven 7 = .ok (.bipush 6, 2) := by decide +kernel
theorem dL_areEven_9 : decode cL_areEven 9 = .ok (.if_icmp .ge 83, 3) := by decide +kernel
theorem dL_areEven_12 : decode cL_areEven 12 = .ok (.aload_n 0, 1) := by decide +kernel
theorem dL_areEven_13 : decode cL_areEven 13 = .ok (.iload 4, 2) := by decide +kernel
theorem dL_areEven_15 : decode cL_areEven 15 = .ok (.iconst 2, 1) := by decide +kernel
theorem dL_areEven_16 : decode cL_areEven 16 = .ok (.idiv, 1) := by decide +kernel
theorem dL_areEven_17 : decode cL_areEven 17 = .ok (.iload 4, 2) := by decide +kernel
theorem dL_areEven_19 : decode cL_areEven 19 = .ok (.iconst 2, 1) := by decide +kernel
theorem dL_areEven_20 : decode cL_areEven 20 = .ok (.irem, 1) := by decide +kernel
theorem dL_areEven_21 : decode cL_areEven 21 = .ok (.invokestatic 161, 3) := by decide +kernel
theorem dL_areEven_24 : decode cL_areEven 24 = .ok (.istore 5, 2) := by decide +kernel
theorem dL_areEven_26 : decode cL_areEven 26 = .ok (.aload_n 0, 1) := by decide +kernel
theorem dL_areEven_27 : decode cL_areEven 27 = .ok (.iload 4, 2) := by decide +kernel
theorem dL_areEven_29 : decode cL_areEven 29 = .ok (.iconst 2, 1) := by decide +kernel
theorem dL_areEven_30 : decode cL_areEven 30 = .ok (.idiv, 1) := by decide +kernel
theorem dL_areEven_31 : decode cL_areEven 31 = .ok (.iload 4, 2) := by decide +kernel
theorem dL_areEven_33 : decode cL_areEven 33 = .ok (.iconst 2, 1) := by decide +kernel
theorem dL_areEven_34 : decode cL_areEven 34 = .ok (.irem, 1) := by decide +kernel
theorem dL_areEven_35 : decode cL_areEven 35 = .ok (.invokestatic 203, 3) := by decide +kernel
theorem dL_areEven_38 : decode cL_areEven 38 = .ok (.istore 6, 2) := by decide +kernel
theorem dL_areEven_40 : decode cL_areEven 40 = .ok (.iload_n 3, 1) := by decide +kernel
theorem dL_areEven_41 : decode cL_areEven 41 = .ok (.iload 5, 2) := by decide +kernel
theorem dL_areEven_43 : decode cL_areEven 43 = .ok (.ifCond .eq 10, 3) := by decide +kernel
theorem dL_areEven_46 : decode cL_areEven 46 = .ok (.iload 5, 2) := by decide +kernel
theorem dL_areEven_48 : decode cL_areEven 48 = .ok (.bipush (-75), 2) := by decide +kernel
theorem dL_areEven_50 : decode cL_areEven 50 = .ok (.if_icmp .ne 33, 3) := by decide +kernel
theorem dL_areEven_53 : decode cL_areEven 53 = .ok (.iload 6, 2) := by decide +kernel
theorem dL_areEven_55 : decode cL_areEven 55 = .ok (.bipush (-75), 2) := by decide +kernel
theorem dL_areEven_57 : decode cL_areEven 57 = .ok (.if_icmp .eq 22, 3) := by decide +kernel
theorem dL_areEven_60 : decode cL_areEven 60 = .ok (.iload 6, 2) := by decide +kernel
theorem dL_areEven_62 : decode cL_areEven 62 = .ok (.iload_n 2, 1) := by decide +kernel
theorem dL_areEven_63 : decode cL_areEven 63 = .ok (.if_icmp .le 20, 3) := by decide +kernel
theorem dL_areEven_66 : decode cL_areEven 66 = .ok (.iload 6, 2) := by decide +kernel
theorem dL_areEven_68 : decode cL_areEven 68 = .ok (.iload_n 2, 1) := by decide +kernel
theorem dL_areEven_69 : decode cL_areEven 69 = .ok (.aload_n 1, 1) := by decide +kernel
theorem dL_areEven_70 : decode cL_areEven 70 = .ok (.iload 4, 2) := by decide +kernel
theorem dL_areEven_72 : decode cL_areEven 72 = .ok (.iconst 2, 1) := by decide +kernel
theorem dL_areEven_73 : decode cL_areEven 73 = .ok (.idiv, 1) := by decide +kernel
theorem dL_areEven_74 : decode cL_areEven 74 = .ok (.iaload, 1) := by decide +kernel
theorem dL_areEven_75 : decode cL_areEven 75 = .ok (.iadd, 1) := by decide +kernel
theorem dL_areEven_76 : decode cL_areEven 76 = .ok (.if_icmp .gt 7, 3) := by decide +kernel
theorem dL_areEven_79 : decode cL_areEven 79 = .ok (.iconst 1, 1) := by decide +kernel
theorem dL_areEven_80 : decode cL_areEven 80 = .ok (.goto 4, 3) := by decide +kernel
theorem dL_areEven_83 : decode cL_areEven 83 = .ok (.iconst 0, 1) := by decide +kernel
theorem dL_areEven_84 : decode cL_areEven 84 = .ok (.iand, 1) := by decide +kernel
theorem dL_areEven_85 : decode cL_areEven 85 = .ok (.istore_n 3, 1) := by decide +kernel
theorem dL_areEven_86 : decode cL_areEven 86 = .ok (.iinc 4 1, 3) := by decide +kernel
theorem dL_areEven_89 : decode cL_areEven 89 = .ok (.goto (-84), 3) := by decide +kernel
theorem dL_areEven_92 : decode cL_areEven 92 = .ok (.iload_n 3, 1) := by decide +kernel
theorem dL_areEven_93 : decode cL_areEven 93 = .ok (.ireturn, 1) := by decide +kernel
theorem dL_areLines_0 : decode cL_areLines 0 = .ok (.iconst 1, 1) := by decide +kernel
theorem dL_areLines_1 : decode cL_areLines 1 = .ok (.istore 4, 2) := by decide +kernel
theorem dL_areLines_3 : decode cL_areLines 3 = .ok (.iconst 0, 1) := by decide +kernel
theorem dL_areLines_4 : decode cL_areLines 4 = .ok (.istore 5, 2) := by decide +kernel
theorem dL_areLines_6 : decode cL_areLines 6 = .ok (.iload 5, 2) := by decide +kernel
theorem dL_areLines_8 : decode cL_areLines 8 = .ok (.iconst 2, 1) := by decide +kernel
theorem dL_areLines_9 : decode cL_areLines 9 = .ok (.if_icmp .ge 299, 3) := by decide +kernel
theorem dL_areLines_12 : decode cL_areLines 12 = .ok (.iconst 0, 1) := by decide +kernel
theorem dL_areLines_13 : decode cL_areLines 13 = .ok (.istore 6, 2) := by decide +kernel
theorem dL_areLines_15 : decode cL_areLines 15 = .ok (.iconst 0, 1) := by decide +kernel
theorem dL_areLines_16 : decode cL_areLines 16 = .ok (.istore 7, 2) := by decide +kernel
theorem dL_areLines_18 : decode cL_areLines 18 = .ok (.iconst 0, 1) := by decide +kernel
theorem dL_areLines_19 : decode cL_areLines 19 = .ok (.istore 8, 2) := by decide +kernel
theorem dL_areLines_21 : decode cL_areLines 21 = .ok (.iload 8, 2) := by decide +kernel
theorem dL_areLines_23 : decode cL_areLines 23 = .ok (.iconst 3, 1) := by decide +kernel
theorem dL_areLines_24 : decode cL_areLines 24 = .ok (.if_icmp .ge 221, 3) := by decide +kernel
theorem dL_areLines_27 : decode cL_areLines 27 = .ok (.aload_n 3, 1) := by decide +kernel
theorem dL_areLines_28 : decode cL_areLines 28 = .ok (.iconst 2, 1) := by decide +kernel
theorem dL_areLines_29 : decode cL_areLines 29 = .ok (.iload 8, 2) := by decide +kernel
theorem dL_areLines_31 : decode cL_areLines 31 = .ok (.imul, 1) := by decide +kernel
theorem dL_areLines_32 : decode cL_areLines 32 = .ok (.iload 5, 2) := by decide +kernel
theorem dL_areLines_34 : decode cL_areLines 34 = .ok (.iadd, 1) := by decide +kernel
theorem dL_areLines_35 : decode cL_areLines 35 = .ok (.iaload, 1) := by decide +kernel
theorem dL_areLines_36 : decode cL_areLines 36 = .ok (.ifCond .lt 7, 3) := by decide +kernel
theorem dL_areLines_39 : decode cL_areLines 39 = .ok (.iconst 1, 1) := by decide +kernel
theorem dL_areLines_40 : decode cL_areLines 40 = .ok (.goto 4, 3) := by decide +kernel
theorem dL_areLines_43 : decode cL_areLines 43 = .ok (.iconst 0, 1) := by decide +kernel
theorem dL_areLines_44 : decode cL_areLines 44 = .ok (.istore 9, 2) := by decide +kernel
theorem dL_areLines_46 : decode cL_areLines 46 = .ok (.aload_n 0, 1) := by decide +kernel
theorem dL_areLines_47 : decode cL_areLines 47 = .ok (.iload 8, 2) := by decide +kernel
theorem dL_areLines_49 : decode cL_areLines 49 = .ok (.iload 5, 2) := by decide +kernel
theorem dL_areLines_51 : decode cL_areLines 51 = .ok (.invokestatic 193, 3) := by decide +kernel
theorem dL_areLines_54 : decode cL_areLines 54 = .ok (.istore 10, 2) := by decide +kernel
theorem dL_areLines_56 : decode cL_areLines 56 = .ok (.aload_n 0, 1) := by decide +kernel
theorem dL_areLines_57 : decode cL_areLines 57 = .ok (.iload 8, 2) := by decide +kernel
theorem dL_areLines_59 : decode cL_areLines 59 = .ok (.iload 5, 2) := by decide +kernel
theorem dL_areLines_61 : decode cL_areLines 61 = .ok (.invokestatic 205, 3) := by decide +kernel
theorem dL_areLines_64 : decode cL_areLines 64 = .ok (.istore 11, 2) := by decide +kernel
theorem dL_areLines_66 : decode cL_areLines 66 = .ok (.aload_n 0, 1) := by decide +kernel
theorem dL_areLines_67 : decode cL_areLines 67 = .ok (.iload 8, 2) := by decide +kernel
theorem dL_areLines_69 : decode cL_areLines 69 = .ok (.iload 5, 2) := by decide +kernel
theorem dL_areLines_71 : decode cL_areLines 71 = .ok (.invokestatic 197, 3) := by decide +kernel
theorem dL_areLines_74 : decode cL_areLines 74 = .ok (.istore 12, 2) := by decide +kernel
theorem dL_areLines_76 : decode cL_areLines 76 = .ok (.iload 4, 2) := by decide +kernel
theorem dL_areLines_78 : decode cL_areLines 78 = .ok (.aload_n 0, 1) := by decide +kernel
theorem dL_areLines_79 : decode cL_areLines 79 = .ok (.iload 8, 2) := by decide +kernel
theorem dL_areLines_81 : decode cL_areLines 81 = .ok (.iload 5, 2) := by decide +kernel
theorem dL_areLines_83 : decode cL_areLines 83 = .ok (.invokestatic 137, 3) := by decide +kernel
theorem dL_areLines_86 : decode cL_areLines 86 = .ok (.iload 9, 2) := by decide +kernel
theorem dL_areLines_88 : decode cL_areLines 88 = .ok (.ifCond .eq 7, 3) := by decide +kernel
theorem dL_areLines_91 : decode cL_areLines 91 = .ok (.iconst 1, 1) := by decide +kernel
theorem dL_areLines_92 : decode cL_areLines 92 = .ok (.goto 4, 3) := by decide +kernel
theorem dL_areLines_95 : decode cL_areLines 95 = .ok (.iconst 0, 1) := by decide +kernel
theorem dL_areLines_96 : decode cL_areLines 96 = .ok (.if_icmp .ne 22, 3) := by decide +kernel
theorem dL_areLines_99 : decode cL_areLines 99 = .ok (.iload 9, 2) := by decide +kernel
theorem dL_areLines_101 : decode cL_areLines 101 = .ok (.iload 10, 2) := by decide +kernel
theorem dL_areLines_103 : decode cL_areLines 103 = .ok (.ifCond .lt 7, 3) := by decide +kernel
theorem dL_areLines_106 : decode cL_areLines 106 = .ok (.iconst 1, 1) := by decide +kernel
theorem dL_areLines_107 : decode cL_areLines 107 = .ok (.goto 4, 3) := by decide +kernel
theorem dL_areLines_110 : decode cL_areLines 110 = .ok (.iconst 0, 1) := by decide +kernel
theorem dL_areLines_111 : decode cL_areLines 111 = .ok (.if_icmp .ne 7, 3) := by decide +kernel
theorem dL_areLines_114 : decode cL_areLines 114 = .ok (.iconst 1, 1) := by decide +kernel
theorem dL_areLines_115 : decode cL_areLines 115 = .ok (.goto 4, 3) := by decide +kernel
theorem dL_areLines_118 : decode cL_areLines 118 = .ok (.iconst 0, 1) := by decide +kernel
theorem dL_areLines_119 : decode cL_areLines 119 = .ok (.iand, 1) := by decide +kernel
theorem dL_areLines_120 : decode cL_areLines 120 = .ok (.istore 4, 2) := by decide +kernel
theorem dL_areLines_122 : decode cL_areLines 122 = .ok (.iload 9, 2) := by decide +kernel
theorem dL_areLines_124 : decode cL_areLines 124 = .ok (.ifCond .eq 115, 3) := by decide +kernel
theorem dL_areLines_127 : decode cL_areLines 127 = .ok (.iload 6, 2) := by decide +kernel
theorem dL_areLines_129 : decode cL_areLines 129 = .ok (.iload 10, 2) := by decide +kernel
theorem dL_areLines_131 : decode cL_areLines 131 = .ok (.iadd, 1) := by decide +kernel
theorem dL_areLines_132 : decode cL_areLines 132 = .ok (.istore 6, 2) := by decide +kernel
theorem dL_areLines_134 : decode cL_areLines 134 = .ok (.iload 7, 2) := by decide +kernel
theorem dL_areLines_136 : decode cL_areLines 136 = .ok (.iload 11, 2) := by decide +kernel
theorem dL_areLines_138 : decode cL_areLines 138 = .ok (.iload 10, 2) := by decide +kernel
theorem dL_areLines_140 : decode cL_areLines 140 = .ok (.isub, 1) := by decide +kernel
theorem dL_areLines_141 : decode cL_areLines 141 = .ok (.iadd, 1) := by decide +kernel
theorem dL_areLines_142 : decode cL_areLines 142 = .ok (.istore 7, 2) := by decide +kernel
theorem dL_areLines_144 : decode cL_areLines 144 = .ok (.iload 4, 2) := by decide +kernel
theorem dL_areLines_146 : decode cL_areLines 146 = .ok (.iload 10, 2) := by decide +kernel
theorem dL_areLines_148 : decode cL_areLines 148 = .ok (.aload_n 0, 1) := by decide +kernel
theorem dL_areLines_149 : decode cL_areLines 149 = .ok (.iload 8, 2) := by decide +kernel
theorem dL_areLines_151 : decode cL_areLines 151 = .ok (.iload 5, 2) := by decide +kernel
theorem dL_areLines_153 : decode cL_areLines 153 = .ok (.invokestatic 207, 3) := by decide +kernel
theorem dL_areLines_156 : decode cL_areLines 156 = .ok (.if_icmp .ne 79, 3) := by decide +kernel
theorem dL_areLines_159 : decode cL_areLines 159 = .ok (.iload 10, 2) := by decide +kernel
theorem dL_areLines_161 : decode cL_areLines 161 = .ok (.iload 11, 2) := by decide +kernel
theorem dL_areLines_163 : decode cL_areLines 163 = .ok (.if_icmp .gt 72, 3) := by decide +kernel
theorem dL_areLines_166 : decode cL_areLines 166 = .ok (.iload 12, 2) := by decide +kernel
theorem dL_areLines_168 : decode cL_areLines 168 = .ok (.ifCond .gt 11, 3) := by decide +kernel
theorem dL_areLines_171 : decode cL_areLines 171 = .ok (.iload 11, 2) := by decide +kernel
theorem dL_areLines_173 : decode cL_areLines 173 = .ok (.ifCond .ne 62, 3) := by decide +kernel
theorem dL_areLines_176 : decode cL_areLines 176 = .ok (.goto 29, 3) := by decide +kernel
theorem dL_areLines_179 : decode cL_areLines 179 = .ok (.iload 11, 2) := by decide +kernel
theorem dL_areLines_181 : decode cL_areLines 181 = .ok (.aload_n 1, 1) := by decide +kernel
theorem dL_areLines_182 : decode cL_areLines 182 = .ok (.iload 5, 2) := by decide +kernel
theorem dL_areLines_184 : decode cL_areLines 184 = .ok (.iaload, 1) := by decide +kernel
theorem dL_areLines_185 : decode cL_areLines 185 = .ok (.imul, 1) := by decide +kernel
theorem dL_areLines_186 : decode cL_areLines 186 = .ok (.iload 12, 2) := by decide +kernel
theorem dL_areLines_188 : decode cL_areLines 188 = .ok (.if_icmp .lt 47, 3) := by decide +kernel
theorem dL_areLines_191 : decode cL_areLines 191 = .ok (.iload 11, 2) := by decide +kernel
theorem dL_areLines_193 : decode cL_areLines 193 = .ok (.iconst 1, 1) := by decide +kernel
theorem dL_areLines_194 : decode cL_areLines 194 = .ok (.isub, 1) := by decide +kernel
theorem dL_areLines_195 : decode cL_areLines 195 = .ok (.aload_n 1, 1) := by decide +kernel
theorem dL_areLines_196 : decode cL_areLines 196 = .ok (.iload 5, 2) := by decide +kernel
theorem dL_areLines_198 : decode cL_areLines 198 = .ok (.iaload, 1) := by decide +kernel
theorem dL_areLines_199 : decode cL_areLines 199 = .ok (.imul, 1) := by decide +kernel
theorem dL_areLines_200 : decode cL_areLines 200 = .ok (.iload 12, 2) := by decide +kernel
theorem dL_areLines_202 : decode cL_areLines 202 = .ok (.if_icmp .ge 33, 3) := by decide +kernel
theorem dL_areLines_205 : decode cL_areLines 205 = .ok (.aload_n 0, 1) := by decide +kernel
theorem dL_areLines_206 : decode cL_areLines 206 = .ok (.iload 8, 2) := by decide +kernel
theorem dL_areLines_208 : decode cL_areLines 208 = .ok (.iload 5, 2) := by decide +kernel
theorem dL_areLines_210 : decode cL_areLines 210 = .ok (.aload_n 2, 1) := by decide +kernel
theorem dL_areLines_211 : decode cL_areLines 211 = .ok (.iload 8, 2) := by decide +kernel
theorem dL_areLines_213 : decode cL_areLines 213 = .ok (.iaload, 1) := by decide +kernel
theorem dL_areLines_214 : decode cL_areLines 214 = .ok (.aload_n 3, 1) := by decide +kernel
theorem dL_areLines_215 : decode cL_areLines 215 = .ok (.iconst 2, 1) := by decide +kernel
theorem dL_areLines_216 : decode cL_areLines 216 = .ok (.iload 8, 2) := by decide +kernel
theorem dL_areLines_218 : decode cL_areLines 218 = .ok (.imul, 1) := by decide +kernel
theorem dL_areLines_219 : decode cL_areLines 219 = .ok (.iload 5, 2) := by decide +kernel
theorem dL_areLines_221 : decode cL_areLines 221 = .ok (.iadd, 1) := by decide +kernel
theorem dL_areLines_222 : decode cL_areLines 222 = .ok (.iaload, 1) := by decide +kernel
theorem dL_areLines_223 : decode cL_areLines 223 = .ok (.iload 12, 2) := by decide +kernel
theorem dL_areLines_225 : decode cL_areLines 225 = .ok (.invokestatic 209, 3) := by decide +kernel
theorem dL_areLines_228 : decode cL_areLines 228 = .ok (.ifCond .eq 7, 3) := by decide +kernel
theorem dL_areLines_231 : decode cL_areLines 231 = .ok (.iconst 1, 1) := by decide +kernel
theorem dL_areLines_232 : decode cL_areLines 232 = .ok (.goto 4, 3) := by decide +kernel
theorem dL_areLines_235 : decode cL_areLines 235 = .ok (.iconst 0, 1) := by decide +kernel
theorem dL_areLines_236 : decode cL_areLines 236 = .ok (.iand, 1) := by decide +kernel
theorem dL_areLines_237 : decode cL_areLines 237 = .ok (.istore 4, 2) := by decide +kernel
theorem dL_areLines_239 : decode cL_areLines 239 = .ok (.iinc 8 1, 3) := by decide +kernel
theorem dL_areLines_242 : decode cL_areLines 242 = .ok (.goto (-221), 3) := by decide +kernel
theorem dL_areLines_245 : decode cL_areLines 245 = .ok (.aload_n 0, 1) := by decide +kernel
theorem dL_areLines_246 : decode cL_areLines 246 = .ok (.iload 5, 2) := by decide +kernel
theorem dL_areLines_248 : decode cL_areLines 248 = .ok (.invokestatic 148, 3) := by decide +kernel
theorem dL_areLines_251 : decode cL_areLines 251 = .ok (.aload_n 1, 1) := by decide +kernel
theorem dL_areLines_252 : decode cL_areLines 252 = .ok (.iload 5, 2) := by decide +kernel
theorem dL_areLines_254 : decode cL_areLines 254 = .ok (.iaload, 1) := by decide +kernel
theorem dL_areLines_255 : decode cL_areLines 255 = .ok (.idiv, 1) := by decide +kernel
theorem dL_areLines_256 : decode cL_areLines 256 = .ok (.istore 8, 2) := by decide +kernel
theorem dL_areLines_258 : decode cL_areLines 258 = .ok (.iload 4, 2) := by decide +kernel
theorem dL_areLines_260 : decode cL_areLines 260 = .ok (.iload 6, 2) := by decide +kernel
theorem dL_areLines_262 : decode cL_areLines 262 = .ok (.iload 8, 2) := by decide +kernel
theorem dL_areLines_264 : decode cL_areLines 264 = .ok (.if_icmp .gt 34, 3) := by decide +kernel
theorem dL_areLines_267 : decode cL_areLines 267 = .ok (.iload 7, 2) := by decide +kernel
theorem dL_areLines_269 : decode cL_areLines 269 = .ok (.ifCond .eq 10, 3) := by decide +kernel
theorem dL_areLines_272 : decode cL_areLines 272 = .ok (.iload 6, 2) := by decide +kernel
theorem dL_areLines_274 : decode cL_areLines 274 = .ok (.iload 8, 2) := by decide +kernel
theorem dL_areLines_276 : decode cL_areLines 276 = .ok (.if_icmp .ne 22, 3) := by decide +kernel
theorem dL_areLines_279 : decode cL_areLines 279 = .ok (.aload_n 0, 1) := by decide +kernel
theorem dL_areLines_280 : decode cL_areLines 280 = .ok (.iload 5, 2) := by decide +kernel
theorem dL_areLines_282 : decode cL_areLines 282 = .ok (.invokestatic 148, 3) := by decide +kernel
theorem dL_areLines_285 : decode cL_areLines 285 = .ok (.aload_n 0, 1) := by decide +kernel
theorem dL_areLines_286 : decode cL_areLines 286 = .ok (.iload 5, 2) := by decide +kernel
theorem dL_areLines_288 : decode cL_areLines 288 = .ok (.invokestatic 213, 3) := by decide +kernel
theorem dL_areLines_291 : decode cL_areLines 291 = .ok (.if_icmp .ne 7, 3) := by decide +kernel
theorem dL_areLines_294 : decode cL_areLines 294 = .ok (.iconst 1, 1) := by decide +kernel
theorem dL_areLines_295 : decode cL_areLines 295 = .ok (.goto 4, 3) := by decide +kernel
theorem dL_areLines_298 : decode cL_areLines 298 = .ok (.iconst 0, 1) := by decide +kernel
theorem dL_areLines_299 : decode cL_areLines 299 = .ok (.iand, 1) := by decide +kernel
theorem dL_areLines_300 : decode cL_areLines 300 = .ok (.istore 4, 2) := by decide +kernel
theorem dL_areLines_302 : decode cL_areLines 302 = .ok (.iinc 5 1, 3) := by decide +kernel
theorem dL_areLines_305 : decode cL_areLines 305 = .ok (.goto (-299), 3) := by decide +kernel
theorem dL_areLines_308 : decode cL_areLines 308 = .ok (.iload 4, 2) := by decide +kernel
theorem dL_areLines_310 : decode cL_areLines 310 = .ok (.ireturn, 1) := by decide +kernel
theorem dL_isLine_0 : decode cL_isLine 0 = .ok (.iconst 0, 1) := by decide +kernel
theorem dL_isLine_1 : decode cL_isLine 1 = .ok (.istore 6, 2) := by decide +kernel
theorem dL_isLine_3 : decode cL_isLine 3 = .ok (.iconst 0, 1) := by decide +kernel
theorem dL_isLine_4 : decode cL_isLine 4 = .ok (.istore 7, 2) := by decide +kernel
theorem dL_isLine_6 : decode cL_isLine 6 = .ok (.iconst 0, 1) := by decide +kernel
theorem dL_isLine_7 : decode cL_isLine 7 = .ok (.istore 8, 2) := by decide +kernel
theorem dL_isLine_9 : decode cL_isLine 9 = .ok (.aload_n 0, 1) := by decide +kernel
theorem dL_isLine_10 : decode cL_isLine 10 = .ok (.iload_n 1, 1) := by decide +kernel
theorem dL_isLine_11 : decode cL_isLine 11 = .ok (.iload_n 2, 1) := by decide +kernel
theorem dL_isLine_12 : decode cL_isLine 12 = .ok (.invokestatic 215, 3) := by decide +kernel
theorem dL_isLine_15 : decode cL_isLine 15 = .ok (.istore 9, 2) := by decide +kernel
theorem dL_isLine_17 : decode cL_isLine 17 = .ok (.aload_n 0, 1) := by decide +kernel
theorem dL_isLine_18 : decode cL_isLine 18 = .ok (.invokevirtual 154, 3) := by decide +kernel
theorem dL_isLine_21 : decode cL_isLine 21 = .ok (.istore 10, 2) := by decide +kernel
theorem dL_isLine_23 : decode cL_isLine 23 = .ok (.lconst 0, 1) := by decide +kernel
theorem dL_isLine_24 : decode cL_isLine 24 = .ok (.lstore 11, 2) := by decide +kernel
theorem dL_isLine_26 : decode cL_isLine 26 = .ok (.aload_n 0, 1) := by decide +kernel
theorem dL_isLine_27 : decode cL_isLine 27 = .ok (.iload_n 1, 1) := by decide +kernel
theorem dL_isLine_28 : decode cL_isLine 28 = .ok (.iload_n 2, 1) := by decide +kernel
theorem dL_isLine_29 : decode cL_isLine 29 = .ok (.invokestatic 139, 3) := by decide +kernel
theorem dL_isLine_32 : decode cL_isLine 32 = .ok (.aload_n 0, 1) := by decide +kernel
theorem dL_isLine_33 : decode cL_isLine 33 = .ok (.iload_n 1, 1) := by decide +kernel
theorem dL_isLine_34 : decode cL_isLine 34 = .ok (.iload_n 2, 1) := by decide +kernel
theorem dL_isLine_35 : decode cL_isLine 35 = .ok (.invokestatic 217, 3) := by decide +kernel
theorem dL_isLine_38 : decode cL_isLine 38 = .ok (.if_icmp .ne 55, 3) := by decide +kernel
theorem dL_isLine_41 : decode cL_isLine 41 = .ok (.aload_n 0, 1) := by decide +kernel
theorem dL_isLine_42 : decode cL_isLine 42 = .ok (.iload_n 1, 1) := by decide +kernel
theorem dL_isLine_43 : decode cL_isLine 43 = .ok (.iload_n 2, 1) := by decide +kernel
theorem dL_isLine_44 : decode cL_isLine 44 = .ok (.invokestatic 141, 3) := by decide +kernel
theorem dL_isLine_47 : decode cL_isLine 47 = .ok (.aload_n 0, 1) := by decide +kernel
theorem dL_isLine_48 : decode cL_isLine 48 = .ok (.iload_n 1, 1) := by decide +kernel
theorem dL_isLine_49 : decode cL_isLine 49 = .ok (.iload_n 2, 1) := by decide +kernel
theorem dL_isLine_50 : decode cL_isLine 50 = .ok (.invokestatic 219, 3) := by decide +kernel
theorem dL_isLine_53 : decode cL_isLine 53 = .ok (.if_icmp .ne 40, 3) := by decide +kernel
theorem dL_isLine_56 : decode cL_isLine 56 = .ok (.aload_n 0, 1) := by decide +kernel
theorem dL_isLine_57 : decode cL_isLine 57 = .ok (.iload_n 1, 1) := by decide +kernel
theorem dL_isLine_58 : decode cL_isLine 58 = .ok (.iload_n 2, 1) := by decide +kernel
theorem dL_isLine_59 : decode cL_isLine 59 = .ok (.invokestatic 201, 3) := by decide +kernel
theorem dL_isLine_62 : decode cL_isLine 62 = .ok (.ifCond .le 7, 3) := by decide +kernel
theorem dL_isLine_65 : decode cL_isLine 65 = .ok (.iconst 1, 1) := by decide +kernel
theorem dL_isLine_66 : decode cL_isLine 66 = .ok (.goto 4, 3) := by decide +kernel
theorem dL_isLine_69 : decode cL_isLine 69 = .ok (.iconst 0, 1) := by decide +kernel
theorem dL_isLine_70 : decode cL_isLine 70 = .ok (.aload_n 0, 1) := by decide +kernel
theorem dL_isLine_71 : decode cL_isLine 71 = .ok (.iload_n 1, 1) := by decide +kernel
theorem dL_isLine_72 : decode cL_isLine 72 = .ok (.iload_n 2, 1) := by decide +kernel
theorem dL_isLine_73 : decode cL_isLine 73 = .ok (.invokestatic 203, 3) := by decide +kernel
theorem dL_isLine_76 : decode cL_isLine 76 = .ok (.iload 10, 2) := by decide +kernel
theorem dL_isLine_78 : decode cL_isLine 78 = .ok (.if_icmp .le 7, 3) := by decide +kernel
theorem dL_isLine_81 : decode cL_isLine 81 = .ok (.iconst 1, 1) := by decide +kernel
theorem dL_isLine_82 : decode cL_isLine 82 = .ok (.goto 4, 3) := by decide +kernel
theorem dL_isLine_85 : decode cL_isLine 85 = .ok (.iconst 0, 1) := by decide +kernel
theorem dL_isLine_86 : decode cL_isLine 86 = .ok (.if_icmp .ne 7, 3) := by decide +kernel
theorem dL_isLine_89 : decode cL_isLine 89 = .ok (.iconst 1, 1) := by decide +kernel
theorem dL_isLine_90 : decode cL_isLine 90 = .ok (.goto 4, 3) := by decide +kernel
theorem dL_isLine_93 : decode cL_isLine 93 = .ok (.iconst 0, 1) := by decide +kernel
theorem dL_isLine_94 : decode cL_isLine 94 = .ok (.istore 13, 2) := by decide +kernel
theorem dL_isLine_96 : decode cL_isLine 96 = .ok (.iconst 0, 1) := by decide +kernel
theorem dL_isLine_97 : decode cL_isLine 97 = .ok (.istore 14, 2) := by decide +kernel
theorem dL_isLine_99 : decode cL_isLine 99 = .ok (.iload 14, 2) := by decide +kernel
theorem dL_isLine_101 : decode cL_isLine 101 = .ok (.bipush 21, 2) := by decide +kernel
theorem dL_isLine_103 : decode cL_isLine 103 = .ok (.if_icmp .ge 62, 3) := by decide +kernel
theorem dL_isLine_106 : decode cL_isLine 106 = .ok (.aload_n 0, 1) := by decide +kernel
theorem dL_isLine_107 : decode cL_isLine 107 = .ok (.iload_n 1, 1) := by decide +kernel
theorem dL_isLine_108 : decode cL_isLine 108 = .ok (.iload_n 2, 1) := by decide +kernel
theorem dL_isLine_109 : decode cL_isLine 109 = .ok (.iload 14, 2) := by decide +kernel
theorem dL_isLine_111 : decode cL_isLine 111 = .ok (.invokestatic 221, 3) := by decide +kernel
theorem dL_isLine_114 : decode cL_isLine 114 = .ok (.istore 15, 2) := by decide +kernel
theorem dL_isLine_116 : decode cL_isLine 116 = .ok (.iload 6, 2) := by decide +kernel
theorem dL_isLine_118 : decode cL_isLine 118 = .ok (.iload 15, 2) := by decide +kernel
theorem dL_isLine_120 : decode cL_isLine 120 = .ok (.iadd, 1) := by decide +kernel
theorem dL_isLine_121 : decode cL_isLine 121 = .ok (.istore 6, 2) := by decide +kernel
theorem dL_isLine_123 : decode cL_isLine 123 = .ok (.iload 7, 2) := by decide +kernel
theorem dL_isLine_125 : decode cL_isLine 125 = .ok (.iload 14, 2) := by decide +kernel
theorem dL_isLine_127 : decode cL_isLine 127 = .ok (.iload 9, 2) := by decide +kernel
theorem dL_isLine_129 : decode cL_isLine 129 = .ok (.if_icmp .gt 8, 3) := by decide +kernel
theorem dL_isLine_132 : decode cL_isLine 132 = .ok (.iload 15, 2) := by decide +kernel
theorem dL_isLine_134 : decode cL_isLine 134 = .ok (.goto 4, 3) := by decide +kernel
theorem dL_isLine_137 : decode cL_isLine 137 = .ok (.iconst 0, 1) := by decide +kernel
theorem dL_isLine_138 : decode cL_isLine 138 = .ok (.iadd, 1) := by decide +kernel
theorem dL_isLine_139 : decode cL_isLine 139 = .ok (.istore 7, 2) := by decide +kernel
theorem dL_isLine_141 : decode cL_isLine 141 = .ok (.iload 8, 2) := by decide +kernel
theorem dL_isLine_143 : decode cL_isLine 143 = .ok (.iload 14, 2) := by decide +kernel
theorem dL_isLine_145 : decode cL_isLine 145 = .ok (.iload 9, 2) := by decide +kernel
theorem dL_isLine_147 : decode cL_isLine 147 = .ok (.if_icmp .ge 8, 3) := by decide +kernel
theorem dL_isLine_150 : decode cL_isLine 150 = .ok (.iload 15, 2) := by decide +kernel
theorem dL_isLine_152 : decode cL_isLine 152 = .ok (.goto 4, 3) := by decide +kernel
theorem dL_isLine_155 : decode cL_isLine 155 = .ok (.iconst 0, 1) := by decide +kernel
theorem dL_isLine_156 : decode cL_isLine 156 = .ok (.iadd, 1) := by decide +kernel
theorem dL_isLine_157 : decode cL_isLine 157 = .ok (.istore 8, 2) := by decide +kernel
theorem dL_isLine_159 : decode cL_isLine 159 = .ok (.iinc 14 1, 3) := by decide +kernel
theorem dL_isLine_162 : decode cL_isLine 162 = .ok (.goto (-63), 3) := by decide +kernel
theorem dL_isLine_165 : decode cL_isLine 165 = .ok (.iload 10, 2) := by decide +kernel
theorem dL_isLine_167 : decode cL_isLine 167 = .ok (.istore 14, 2) := by decide +kernel
theorem dL_isLine_169 : decode cL_isLine 169 = .ok (.iload 14, 2) := by decide +kernel
theorem dL_isLine_171 : decode cL_isLine 171 = .ok (.iload 10, 2) := by decide +kernel
theorem dL_isLine_173 : decode cL_isLine 173 = .ok (.iload_n 3, 1) := by decide +kernel
theorem dL_isLine_174 : decode cL_isLine 174 = .ok (.iadd, 1) := by decide +kernel
theorem dL_isLine_175 : decode cL_isLine 175 = .ok (.if_icmp .gt 103, 3) := by decide +kernel
theorem dL_isLine_178 : decode cL_isLine 178 = .ok (.aload_n 0, 1) := by decide +kernel
theorem dL_isLine_179 : decode cL_isLine 179 = .ok (.iload_n 1, 1) := by decide +kernel
theorem dL_isLine_180 : decode cL_isLine 180 = .ok (.iload_n 2, 1) := by decide +kernel
theorem dL_isLine_181 : decode cL_isLine 181 = .ok (.iload 14, 2) := by decide +kernel
theorem dL_isLine_183 : decode cL_isLine 183 = .ok (.invokestatic 223, 3) := by decide +kernel
theorem dL_isLine_186 : decode cL_isLine 186 = .ok (.istore 15, 2) := by decide +kernel
theorem dL_isLine_188 : decode cL_isLine 188 = .ok (.aload_n 0, 1) := by decide +kernel
theorem dL_isLine_189 : decode cL_isLine 189 = .ok (.iload_n 1, 1) := by decide +kernel
theorem dL_isLine_190 : decode cL_isLine 190 = .ok (.iload_n 2, 1) := by decide +kernel
theorem dL_isLine_191 : decode cL_isLine 191 = .ok (.iload 14, 2) := by decide +kernel
theorem dL_isLine_193 : decode cL_isLine 193 = .ok (.bipush 7, 2) := by decide +kernel
theorem dL_isLine_195 : decode cL_isLine 195 = .ok (.irem, 1) := by decide +kernel
theorem dL_isLine_196 : decode cL_isLine 196 = .ok (.invokestatic 143, 3) := by decide +kernel
theorem dL_isLine_199 : decode cL_isLine 199 = .ok (.istore 16, 2) := by decide +kernel
theorem dL_isLine_201 : decode cL_isLine 201 = .ok (.lload 11, 2) := by decide +kernel
theorem dL_isLine_203 : decode cL_isLine 203 = .ok (.iload 15, 2) := by decide +kernel
theorem dL_isLine_205 : decode cL_isLine 205 = .ok (.i2l, 1) := by decide +kernel
theorem dL_isLine_206 : decode cL_isLine 206 = .ok (.ladd, 1) := by decide +kernel
theorem dL_isLine_207 : decode cL_isLine 207 = .ok (.lstore 11, 2) := by decide +kernel
theorem dL_isLine_209 : decode cL_isLine 209 = .ok (.iload 13, 2) := by decide +kernel
theorem dL_isLine_211 : decode cL_isLine 211 = .ok (.iload 15, 2) := by decide +kernel
theorem dL_isLine_213 : decode cL_isLine 213 = .ok (.i2l, 1) := by decide +kernel
theorem dL_isLine_214 : decode cL_isLine 214 = .ok (.aload_n 0, 1) := by decide +kernel
theorem dL_isLine_215 : decode cL_isLine 215 = .ok (.iload_n 1, 1) := by decide +kernel
theorem dL_isLine_216 : decode cL_isLine 216 = .ok (.iload_n 2, 1) := by decide +kernel
theorem dL_isLine_217 : decode cL_isLine 217 = .ok (.invokestatic 141, 3) := by decide +kernel
theorem dL_isLine_220 : decode cL_isLine 220 = .ok (.i2l, 1) := by decide +kernel
theorem dL_isLine_221 : decode cL_isLine 221 = .ok (.iload 16, 2) := by decide +kernel
theorem dL_isLine_223 : decode cL_isLine 223 = .ok (.i2l, 1) := by decide +kernel
theorem dL_isLine_224 : decode cL_isLine 224 = .ok (.lmul, 1) := by decide +kernel
theorem dL_isLine_225 : decode cL_isLine 225 = .ok (.ldc2_w 225, 3) := by decide +kernel
theorem dL_isLine_228 : decode cL_isLine 228 = .ok (.ldiv, 1) := by decide +kernel
theorem dL_isLine_229 : decode cL_isLine 229 = .ok (.lcmp, 1) := by decide +kernel
theorem dL_isLine_230 : decode cL_isLine 230 = .ok (.ifCond .ne 38, 3) := by decide +kernel
theorem dL_isLine_233 : decode cL_isLine 233 = .ok (.iload 16, 2) := by decide +kernel
theorem dL_isLine_235 : decode cL_isLine 235 = .ok (.bipush 100, 2) := by decide +kernel
theorem dL_isLine_237 : decode cL_isLine 237 = .ok (.if_icmp .lt 31, 3) := by decide +kernel
theorem dL_isLine_240 : decode cL_isLine 240 = .ok (.iload 16, 2) := by decide +kernel
theorem dL_isLine_242 : decode cL_isLine 242 = .ok (.sipush 5000, 3) := by decide +kernel
theorem dL_isLine_245 : decode cL_isLine 245 = .ok (.if_icmp .gt 23, 3) := by decide +kernel
theorem dL_isLine_248 : decode cL_isLine 248 = .ok (.iload 15, 2) := by decide +kernel
theorem dL_isLine_250 : decode cL_isLine 250 = .ok (.aload_n 0, 1) := by decide +kernel
theorem dL_isLine_251 : decode cL_isLine 251 = .ok (.iload_n 1, 1) := by decide +kernel
theorem dL_isLine_252 : decode cL_isLine 252 = .ok (.iload_n 2, 1) := by decide +kernel
theorem dL_isLine_253 : decode cL_isLine 253 = .ok (.iload 14, 2) := by decide +kernel
theorem dL_isLine_255 : decode cL_isLine 255 = .ok (.bipush 7, 2) := by decide +kernel
theorem dL_isLine_257 : decode cL_isLine 257 = .ok (.iadd, 1) := by decide +kernel
theorem dL_isLine_258 : decode cL_isLine 258 = .ok (.invokestatic 223, 3) := by decide +kernel
theorem dL_isLine_261 : decode cL_isLine 261 = .ok (.if_icmp .ne 7, 3) := by decide +kernel
theorem dL_isLine_264 : decode cL_isLine 264 = .ok (.iconst 1, 1) := by decide +kernel
theorem dL_isLine_265 : decode cL_isLine 265 = .ok (.goto 4, 3) := by decide +kernel
theorem dL_isLine_268 : decode cL_isLine 268 = .ok (.iconst 0, 1) := by decide +kernel
theorem dL_isLine_269 : decode cL_isLine 269 = .ok (.iand, 1) := by decide +kernel
theorem dL_isLine_270 : decode cL_isLine 270 = .ok (.istore 13, 2) := by decide +kernel
theorem dL_isLine_272 : decode cL_isLine 272 = .ok (.iinc 14 1, 3) := by decide +kernel
theorem dL_isLine_275 : decode cL_isLine 275 = .ok (.goto (-106), 3) := by decide +kernel
theorem dL_isLine_278 : decode cL_isLine 278 = .ok (.iload 13, 2) := by decide +kernel
theorem dL_isLine_280 : decode cL_isLine 280 = .ok (.iload 5, 2) := by decide +kernel
theorem dL_isLine_282 : decode cL_isLine 282 = .ok (.lload 11, 2) := by decide +kernel
theorem dL_isLine_284 : decode cL_isLine 284 = .ok (.ldc2_w 227, 3) := by decide +kernel
theorem dL_isLine_287 : decode cL_isLine 287 = .ok (.ladd, 1) := by decide +kernel
theorem dL_isLine_288 : decode cL_isLine 288 = .ok (.ldc2_w 225, 3) := by decide +kernel
theorem dL_isLine_291 : decode cL_isLine 291 = .ok (.ldiv, 1) := by decide +kernel
theorem dL_isLine_292 : decode cL_isLine 292 = .ok (.l2i, 1) := by decide +kernel
theorem dL_isLine_293 : decode cL_isLine 293 = .ok (.iload 9, 2) := by decide +kernel
theorem dL_isLine_295 : decode cL_isLine 295 = .ok (.iadd, 1) := by decide +kernel
theorem dL_isLine_296 : decode cL_isLine 296 = .ok (.aload_n 0, 1) := by decide +kernel
theorem dL_isLine_297 : decode cL_isLine 297 = .ok (.iload_n 1, 1) := by decide +kernel
theorem dL_isLine_298 : decode cL_isLine 298 = .ok (.iload_n 2, 1) := by decide +kernel
theorem dL_isLine_299 : decode cL_isLine 299 = .ok (.invokestatic 139, 3) := by decide +kernel
theorem dL_isLine_302 : decode cL_isLine 302 = .ok (.isub, 1) := by decide +kernel
theorem dL_isLine_303 : decode cL_isLine 303 = .ok (.aload_n 0, 1) := by decide +kernel
theorem dL_isLine_304 : decode cL_isLine 304 = .ok (.iload_n 1, 1) := by decide +kernel
theorem dL_isLine_305 : decode cL_isLine 305 = .ok (.iload_n 2, 1) := by decide +kernel
theorem dL_isLine_306 : decode cL_isLine 306 = .ok (.invokestatic 201, 3) := by decide +kernel
theorem dL_isLine_309 : decode cL_isLine 309 = .ok (.isub, 1) := by decide +kernel
theorem dL_isLine_310 : decode cL_isLine 310 = .ok (.if_icmp .ne 7, 3) := by decide +kernel
theorem dL_isLine_313 : decode cL_isLine 313 = .ok (.iconst 1, 1) := by decide +kernel
theorem dL_isLine_314 : decode cL_isLine 314 = .ok (.goto 4, 3) := by decide +kernel
theorem dL_isLine_317 : decode cL_isLine 317 = .ok (.iconst 0, 1) := by decide +kernel
theorem dL_isLine_318 : decode cL_isLine 318 = .ok (.iand, 1) := by decide +kernel
theorem dL_isLine_319 : decode cL_isLine 319 = .ok (.istore 13, 2) := by decide +kernel
theorem dL_isLine_321 : decode cL_isLine 321 = .ok (.iload 13, 2) := by decide +kernel
theorem dL_isLine_323 : decode cL_isLine 323 = .ok (.ifCond .eq 39, 3) := by decide +kernel
theorem dL_isLine_326 : decode cL_isLine 326 = .ok (.iload 6, 2) := by decide +kernel
theorem dL_isLine_328 : decode cL_isLine 328 = .ok (.iload 4, 2) := by decide +kernel
theorem dL_isLine_330 : decode cL_isLine 330 = .ok (.if_icmp .ne 32, 3) := by decide +kernel
theorem dL_isLine_333 : decode cL_isLine 333 = .ok (.iload 6, 2) := by decide +kernel
theorem dL_isLine_335 : decode cL_isLine 335 = .ok (.ifCond .ne 11, 3) := by decide +kernel
theorem dL_isLine_338 : decode cL_isLine 338 = .ok (.iload 9, 2) := by decide +kernel
theorem dL_isLine_340 : decode cL_isLine 340 = .ok (.ifCond .ne 22, 3) := by decide +kernel
theorem dL_isLine_343 : decode cL_isLine 343 = .ok (.goto 15, 3) := by decide +kernel
theorem dL_isLine_346 : decode cL_isLine 346 = .ok (.iload 7, 2) := by decide +kernel
theorem dL_isLine_348 : decode cL_isLine 348 = .ok (.iload 8, 2) := by decide +kernel
theorem dL_isLine_350 : decode cL_isLine 350 = .ok (.if_icmp .lt 12, 3) := by decide +kernel
theorem dL_isLine_353 : decode cL_isLine 353 = .ok (.iload 7, 2) := by decide +kernel
theorem dL_isLine_355 : decode cL_isLine 355 = .ok (.ifCond .le 7, 3) := by decide +kernel
theorem dL_isLine_358 : decode cL_isLine 358 = .ok (.iconst 1, 1) := by decide +kernel
theorem dL_isLine_359 : decode cL_isLine 359 = .ok (.goto 4, 3) := by decide +kernel
theorem dL_isLine_362 : decode cL_isLine 362 = .ok (.iconst 0, 1) := by decide +kernel
theorem dL_isLine_363 : decode cL_isLine 363 = .ok (.ireturn, 1) := by decide +kernel
