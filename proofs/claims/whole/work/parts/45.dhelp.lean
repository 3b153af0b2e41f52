theorem dL_addShop_0 : decode cL_addShop 0 = .ok (.aload_n 2, 1) := by decide +kernel
theorem dL_addShop_1 : decode cL_addShop 1 = .ok (.iconst 0, 1) := by decide +kernel
theorem dL_addShop_2 : decode cL_addShop 2 = .ok (.aload_n 0, 1) := by decide +kernel
theorem dL_addShop_3 : decode cL_addShop 3 = .ok (.iload_n 1, 1) := by decide +kernel
theorem dL_addShop_4 : decode cL_addShop 4 = .ok (.invokevirtual 7, 3) := by decide +kernel
theorem dL_addShop_7 : decode cL_addShop 7 = .ok (.i2l, 1) := by decide +kernel
theorem dL_addShop_8 : decode cL_addShop 8 = .ok (.lastore, 1) := by decide +kernel
theorem dL_addShop_9 : decode cL_addShop 9 = .ok (.goto 9, 3) := by decide +kernel
theorem dL_addShop_12 : decode cL_addShop 12 = .ok (.astore_n 3, 1) := by decide +kernel
theorem dL_addShop_13 : decode cL_addShop 13 = .ok (.iconst 1, 1) := by decide +kernel
theorem dL_addShop_14 : decode cL_addShop 14 = .ok (.ireturn, 1) := by decide +kernel
theorem dL_addShop_15 : decode cL_addShop 15 = .ok (.astore_n 3, 1) := by decide +kernel
theorem dL_addShop_16 : decode cL_addShop 16 = .ok (.iconst 2, 1) := by decide +kernel
theorem dL_addShop_17 : decode cL_addShop 17 = .ok (.ireturn, 1) := by decide +kernel
theorem dL_addShop_18 : decode cL_addShop 18 = .ok (.iconst 0, 1) := by decide +kernel
theorem dL_addShop_19 : decode cL_addShop 19 = .ok (.ireturn, 1) := by decide +kernel
theorem dL_addItem_0 : decode cL_addItem 0 = .ok (.aload_n 3, 1) := by decide +kernel
theorem dL_addItem_1 : decode cL_addItem 1 = .ok (.iconst 0, 1) := by decide +kernel
theorem dL_addItem_2 : decode cL_addItem 2 = .ok (.aload_n 0, 1) := by decide +kernel
theorem dL_addItem_3 : decode cL_addItem 3 = .ok (.iload_n 1, 1) := by decide +kernel
theorem dL_addItem_4 : decode cL_addItem 4 = .ok (.iload_n 2, 1) := by decide +kernel
theorem dL_addItem_5 : decode cL_addItem 5 = .ok (.invokevirtual 17, 3) := by decide +kernel
theorem dL_addItem_8 : decode cL_addItem 8 = .ok (.i2l, 1) := by decide +kernel
theorem dL_addItem_9 : decode cL_addItem 9 = .ok (.lastore, 1) := by decide +kernel
theorem dL_addItem_10 : decode cL_addItem 10 = .ok (.goto 11, 3) := by decide +kernel
theorem dL_addItem_13 : decode cL_addItem 13 = .ok (.astore 4, 2) := by decide +kernel
theorem dL_addItem_15 : decode cL_addItem 15 = .ok (.iconst 1, 1) := by decide +kernel
theorem dL_addItem_16 : decode cL_addItem 16 = .ok (.ireturn, 1) := by decide +kernel
theorem dL_addItem_17 : decode cL_addItem 17 = .ok (.astore 4, 2) := by decide +kernel
theorem dL_addItem_19 : decode cL_addItem 19 = .ok (.iconst 2, 1) := by decide +kernel
theorem dL_addItem_20 : decode cL_addItem 20 = .ok (.ireturn, 1) := by decide +kernel
theorem dL_addItem_21 : decode cL_addItem 21 = .ok (.iconst 0, 1) := by decide +kernel
theorem dL_addItem_22 : decode cL_addItem 22 = .ok (.ireturn, 1) := by decide +kernel
theorem dL_carry_0 : decode cL_carry 0 = .ok (.aload 5, 2) := by decide +kernel
theorem dL_carry_2 : decode cL_carry 2 = .ok (.iconst 0, 1) := by decide +kernel
theorem dL_carry_3 : decode cL_carry 3 = .ok (.aload_n 0, 1) := by decide +kernel
theorem dL_carry_4 : decode cL_carry 4 = .ok (.iload_n 1, 1) := by decide +kernel
theorem dL_carry_5 : decode cL_carry 5 = .ok (.iload_n 2, 1) := by decide +kernel
theorem dL_carry_6 : decode cL_carry 6 = .ok (.iload_n 3, 1) := by decide +kernel
theorem dL_carry_7 : decode cL_carry 7 = .ok (.iload 4, 2) := by decide +kernel
theorem dL_carry_9 : decode cL_carry 9 = .ok (.invokevirtual 21, 3) := by decide +kernel
theorem dL_carry_12 : decode cL_carry 12 = .ok (.i2l, 1) := by decide +kernel
theorem dL_carry_13 : decode cL_carry 13 = .ok (.lastore, 1) := by decide +kernel
theorem dL_carry_14 : decode cL_carry 14 = .ok (.goto 15, 3) := by decide +kernel
theorem dL_carry_17 : decode cL_carry 17 = .ok (.astore 6, 2) := by decide +kernel
theorem dL_carry_19 : decode cL_carry 19 = .ok (.iconst 1, 1) := by decide +kernel
theorem dL_carry_20 : decode cL_carry 20 = .ok (.ireturn, 1) := by decide +kernel
theorem dL_carry_21 : decode cL_carry 21 = .ok (.astore 6, 2) := by decide +kernel
theorem dL_carry_23 : decode cL_carry 23 = .ok (.iconst 2, 1) := by decide +kernel
theorem dL_carry_24 : decode cL_carry 24 = .ok (.ireturn, 1) := by decide +kernel
theorem dL_carry_25 : decode cL_carry 25 = .ok (.astore 6, 2) := by decide +kernel
theorem dL_carry_27 : decode cL_carry 27 = .ok (.iconst 3, 1) := by decide +kernel
theorem dL_carry_28 : decode cL_carry 28 = .ok (.ireturn, 1) := by decide +kernel
theorem dL_carry_29 : decode cL_carry 29 = .ok (.iconst 0, 1) := by decide +kernel
theorem dL_carry_30 : decode cL_carry 30 = .ok (.ireturn, 1) := by decide +kernel
theorem dL_carries_0 : decode cL_carries 0 = .ok (.aload_n 3, 1) := by decide +kernel
theorem dL_carries_1 : decode cL_carries 1 = .ok (.iconst 0, 1) := by decide +kernel
theorem dL_carries_2 : decode cL_carries 2 = .ok (.aload_n 0, 1) := by decide +kernel
theorem dL_carries_3 : decode cL_carries 3 = .ok (.iload_n 1, 1) := by decide +kernel
theorem dL_carries_4 : decode cL_carries 4 = .ok (.iload_n 2, 1) := by decide +kernel
theorem dL_carries_5 : decode cL_carries 5 = .ok (.invokevirtual 27, 3) := by decide +kernel
theorem dL_carries_8 : decode cL_carries 8 = .ok (.ifCond .eq 7, 3) := by decide +kernel
theorem dL_carries_11 : decode cL_carries 11 = .ok (.lconst 1, 1) := by decide +kernel
theorem dL_carries_12 : decode cL_carries 12 = .ok (.goto 4, 3) := by decide +kernel
theorem dL_carries_15 : decode cL_carries 15 = .ok (.lconst 0, 1) := by decide +kernel
theorem dL_carries_16 : decode cL_carries 16 = .ok (.lastore, 1) := by decide +kernel
theorem dL_carries_17 : decode cL_carries 17 = .ok (.goto 7, 3) := by decide +kernel
theorem dL_carries_20 : decode cL_carries 20 = .ok (.astore 4, 2) := by decide +kernel
theorem dL_carries_22 : decode cL_carries 22 = .ok (.iconst 1, 1) := by decide +kernel
theorem dL_carries_23 : decode cL_carries 23 = .ok (.ireturn, 1) := by decide +kernel
theorem dL_carries_24 : decode cL_carries 24 = .ok (.iconst 0, 1) := by decide +kernel
theorem dL_carries_25 : decode cL_carries 25 = .ok (.ireturn, 1) := by decide +kernel
theorem dL_supply_0 : decode cL_supply 0 = .ok (.aload_n 3, 1) := by decide +kernel
theorem dL_supply_1 : decode cL_supply 1 = .ok (.iconst 0, 1) := by decide +kernel
theorem dL_supply_2 : decode cL_supply 2 = .ok (.aload_n 0, 1) := by decide +kernel
theorem dL_supply_3 : decode cL_supply 3 = .ok (.iload_n 1, 1) := by decide +kernel
theorem dL_supply_4 : decode cL_supply 4 = .ok (.iload_n 2, 1) := by decide +kernel
theorem dL_supply_5 : decode cL_supply 5 = .ok (.invokevirtual 31, 3) := by decide +kernel
theorem dL_supply_8 : decode cL_supply 8 = .ok (.i2l, 1) := by decide +kernel
theorem dL_supply_9 : decode cL_supply 9 = .ok (.lastore, 1) := by decide +kernel
theorem dL_supply_10 : decode cL_supply 10 = .ok (.goto 15, 3) := by decide +kernel
theorem dL_supply_13 : decode cL_supply 13 = .ok (.astore 4, 2) := by decide +kernel
theorem dL_supply_15 : decode cL_supply 15 = .ok (.iconst 1, 1) := by decide +kernel
theorem dL_supply_16 : decode cL_supply 16 = .ok (.ireturn, 1) := by decide +kernel
theorem dL_supply_17 : decode cL_supply 17 = .ok (.astore 4, 2) := by decide +kernel
theorem dL_supply_19 : decode cL_supply 19 = .ok (.iconst 2, 1) := by decide +kernel
theorem dL_supply_20 : decode cL_supply 20 = .ok (.ireturn, 1) := by decide +kernel
theorem dL_supply_21 : decode cL_supply 21 = .ok (.astore 4, 2) := by decide +kernel
theorem dL_supply_23 : decode cL_supply 23 = .ok (.iconst 3, 1) := by decide +kernel
theorem dL_supply_24 : decode cL_supply 24 = .ok (.ireturn, 1) := by decide +kernel
theorem dL_supply_25 : decode cL_supply 25 = .ok (.iconst 0, 1) := by decide +kernel
theorem dL_supply_26 : decode cL_supply 26 = .ok (.ireturn, 1) := by decide +kernel
theorem dL_setService_0 : decode cL_setService 0 = .ok (.aload_n 2, 1) := by decide +kernel
theorem dL_setService_1 : decode cL_setService 1 = .ok (.iconst 0, 1) := by decide +kernel
theorem dL_setService_2 : decode cL_setService 2 = .ok (.aload_n 0, 1) := by decide +kernel
theorem dL_setService_3 : decode cL_setService 3 = .ok (.iload_n 1, 1) := by decide +kernel
theorem dL_setService_4 : decode cL_setService 4 = .ok (.invokevirtual 34, 3) := by decide +kernel
theorem dL_setService_7 : decode cL_setService 7 = .ok (.i2l, 1) := by decide +kernel
theorem dL_setService_8 : decode cL_setService 8 = .ok (.lastore, 1) := by decide +kernel
theorem dL_setService_9 : decode cL_setService 9 = .ok (.goto 6, 3) := by decide +kernel
theorem dL_setService_12 : decode cL_setService 12 = .ok (.astore_n 3, 1) := by decide +kernel
theorem dL_setService_13 : decode cL_setService 13 = .ok (.iconst 1, 1) := by decide +kernel
theorem dL_setService_14 : decode cL_setService 14 = .ok (.ireturn, 1) := by decide +kernel
theorem dL_setService_15 : decode cL_setService 15 = .ok (.iconst 0, 1) := by decide +kernel
theorem dL_setService_16 : decode cL_setService 16 = .ok (.ireturn, 1) := by decide +kernel
theorem dL_setRates_0 : decode cL_setRates 0 = .ok (.aload_n 3, 1) := by decide +kernel
theorem dL_setRates_1 : decode cL_setRates 1 = .ok (.iconst 0, 1) := by decide +kernel
theorem dL_setRates_2 : decode cL_setRates 2 = .ok (.aload_n 0, 1) := by decide +kernel
theorem dL_setRates_3 : decode cL_setRates 3 = .ok (.iload_n 1, 1) := by decide +kernel
theorem dL_setRates_4 : decode cL_setRates 4 = .ok (.iload_n 2, 1) := by decide +kernel
theorem dL_setRates_5 : decode cL_setRates 5 = .ok (.invokevirtual 37, 3) := by decide +kernel
theorem dL_setRates_8 : decode cL_setRates 8 = .ok (.i2l, 1) := by decide +kernel
theorem dL_setRates_9 : decode cL_setRates 9 = .ok (.lastore, 1) := by decide +kernel
theorem dL_setRates_10 : decode cL_setRates 10 = .ok (.goto 7, 3) := by decide +kernel
theorem dL_setRates_13 : decode cL_setRates 13 = .ok (.astore 4, 2) := by decide +kernel
theorem dL_setRates_15 : decode cL_setRates 15 = .ok (.iconst 1, 1) := by decide +kernel
theorem dL_setRates_16 : decode cL_setRates 16 = .ok (.ireturn, 1) := by decide +kernel
theorem dL_setRates_17 : decode cL_setRates 17 = .ok (.iconst 0, 1) := by decide +kernel
theorem dL_setRates_18 : decode cL_setRates 18 = .ok (.ireturn, 1) := by decide +kernel
theorem dL_mark_0 : decode cL_mark 0 = .ok (.aload_n 3, 1) := by decide +kernel
theorem dL_mark_1 : decode cL_mark 1 = .ok (.iconst 0, 1) := by decide +kernel
theorem dL_mark_2 : decode cL_mark 2 = .ok (.aload_n 0, 1) := by decide +kernel
theorem dL_mark_3 : decode cL_mark 3 = .ok (.iload_n 1, 1) := by decide +kernel
theorem dL_mark_4 : decode cL_mark 4 = .ok (.iload_n 2, 1) := by decide +kernel
theorem dL_mark_5 : decode cL_mark 5 = .ok (.invokevirtual 40, 3) := by decide +kernel
theorem dL_mark_8 : decode cL_mark 8 = .ok (.ifCond .eq 7, 3) := by decide +kernel
theorem dL_mark_11 : decode cL_mark 11 = .ok (.lconst 1, 1) := by decide +kernel
theorem dL_mark_12 : decode cL_mark 12 = .ok (.goto 4, 3) := by decide +kernel
theorem dL_mark_15 : decode cL_mark 15 = .ok (.lconst 0, 1) := by decide +kernel
theorem dL_mark_16 : decode cL_mark 16 = .ok (.lastore, 1) := by decide +kernel
theorem dL_mark_17 : decode cL_mark 17 = .ok (.goto 11, 3) := by decide +kernel
theorem dL_mark_20 : decode cL_mark 20 = .ok (.astore 4, 2) := by decide +kernel
theorem dL_mark_22 : decode cL_mark 22 = .ok (.iconst 1, 1) := by decide +kernel
theorem dL_mark_23 : decode cL_mark 23 = .ok (.ireturn, 1) := by decide +kernel
theorem dL_mark_24 : decode cL_mark 24 = .ok (.astore 4, 2) := by decide +kernel
theorem dL_mark_26 : decode cL_mark 26 = .ok (.iconst 2, 1) := by decide +kernel
theorem dL_mark_27 : decode cL_mark 27 = .ok (.ireturn, 1) := by decide +kernel
theorem dL_mark_28 : decode cL_mark 28 = .ok (.iconst 0, 1) := by decide +kernel
theorem dL_mark_29 : decode cL_mark 29 = .ok (.ireturn, 1) := by decide +kernel
theorem dL_isMarked_0 : decode cL_isMarked 0 = .ok (.aload_n 3, 1) := by decide +kernel
theorem dL_isMarked_1 : decode cL_isMarked 1 = .ok (.iconst 0, 1) := by decide +kernel
theorem dL_isMarked_2 : decode cL_isMarked 2 = .ok (.aload_n 0, 1) := by decide +kernel
theorem dL_isMarked_3 : decode cL_isMarked 3 = .ok (.iload_n 1, 1) := by decide +kernel
theorem dL_isMarked_4 : decode cL_isMarked 4 = .ok (.iload_n 2, 1) := by decide +kernel
theorem dL_isMarked_5 : decode cL_isMarked 5 = .ok (.invokevirtual 43, 3) := by decide +kernel
theorem dL_isMarked_8 : decode cL_isMarked 8 = .ok (.ifCond .eq 7, 3) := by decide +kernel
theorem dL_isMarked_11 : decode cL_isMarked 11 = .ok (.lconst 1, 1) := by decide +kernel
theorem dL_isMarked_12 : decode cL_isMarked 12 = .ok (.goto 4, 3) := by decide +kernel
theorem dL_isMarked_15 : decode cL_isMarked 15 = .ok (.lconst 0, 1) := by decide +kernel
theorem dL_isMarked_16 : decode cL_isMarked 16 = .ok (.lastore, 1) := by decide +kernel
theorem dL_isMarked_17 : decode cL_isMarked 17 = .ok (.goto 11, 3) := by decide +kernel
theorem dL_isMarked_20 : decode cL_isMarked 20 = .ok (.astore 4, 2) := by decide +kernel
theorem dL_isMarked_22 : decode cL_isMarked 22 = .ok (.iconst 1, 1) := by decide +kernel
theorem dL_isMarked_23 : decode cL_isMarked 23 = .ok (.ireturn, 1) := by decide +kernel
theorem dL_isMarked_24 : decode cL_isMarked 24 = .ok (.astore 4, 2) := by decide +kernel
theorem dL_isMarked_26 : decode cL_isMarked 26 = .ok (.iconst 2, 1) := by decide +kernel
theorem dL_isMarked_27 : decode cL_isMarked 27 = .ok (.ireturn, 1) := by decide +kernel
theorem dL_isMarked_28 : decode cL_isMarked 28 = .ok (.iconst 0, 1) := by decide +kernel
theorem dL_isMarked_29 : decode cL_isMarked 29 = .ok (.ireturn, 1) := by decide +kernel
theorem dL_demand_0 : decode cL_demand 0 = .ok (.aload 4, 2) := by decide +kernel
theorem dL_demand_2 : decode cL_demand 2 = .ok (.iconst 0, 1) := by decide +kernel
theorem dL_demand_3 : decode cL_demand 3 = .ok (.aload_n 0, 1) := by decide +kernel
theorem dL_demand_4 : decode cL_demand 4 = .ok (.iload_n 1, 1) := by decide +kernel
theorem dL_demand_5 : decode cL_demand 5 = .ok (.iload_n 2, 1) := by decide +kernel
theorem dL_demand_6 : decode cL_demand 6 = .ok (.iload_n 3, 1) := by decide +kernel
theorem dL_demand_7 : decode cL_demand 7 = .ok (.invokevirtual 46, 3) := by decide +kernel
theorem dL_demand_10 : decode cL_demand 10 = .ok (.i2l, 1) := by decide +kernel
theorem dL_demand_11 : decode cL_demand 11 = .ok (.lastore, 1) := by decide +kernel
theorem dL_demand_12 : decode cL_demand 12 = .ok (.goto 19, 3) := by decide +kernel
theorem dL_demand_15 : decode cL_demand 15 = .ok (.astore 5, 2) := by decide +kernel
theorem dL_demand_17 : decode cL_demand 17 = .ok (.iconst 1, 1) := by decide +kernel
theorem dL_demand_18 : decode cL_demand 18 = .ok (.ireturn, 1) := by decide +kernel
theorem dL_demand_19 : decode cL_demand 19 = .ok (.astore 5, 2) := by decide +kernel
theorem dL_demand_21 : decode cL_demand 21 = .ok (.iconst 2, 1) := by decide +kernel
theorem dL_demand_22 : decode cL_demand 22 = .ok (.ireturn, 1) := by decide +kernel
theorem dL_demand_23 : decode cL_demand 23 = .ok (.astore 5, 2) := by decide +kernel
theorem dL_demand_25 : decode cL_demand 25 = .ok (.iconst 3, 1) := by decide +kernel
theorem dL_demand_26 : decode cL_demand 26 = .ok (.ireturn, 1) := by decide +kernel
theorem dL_demand_27 : decode cL_demand 27 = .ok (.astore 5, 2) := by decide +kernel
theorem dL_demand_29 : decode cL_demand 29 = .ok (.iconst 4, 1) := by decide +kernel
theorem dL_demand_30 : decode cL_demand 30 = .ok (.ireturn, 1) := by decide +kernel
theorem dL_demand_31 : decode cL_demand 31 = .ok (.iconst 0, 1) := by decide +kernel
theorem dL_demand_32 : decode cL_demand 32 = .ok (.ireturn, 1) := by decide +kernel
theorem dL_night_0 : decode cL_night 0 = .ok (.aload_n 1, 1) := by decide +kernel
theorem dL_night_1 : decode cL_night 1 = .ok (.iconst 0, 1) := by decide +kernel
theorem dL_night_2 : decode cL_night 2 = .ok (.aload_n 0, 1) := by decide +kernel
theorem dL_night_3 : decode cL_night 3 = .ok (.invokevirtual 54, 3) := by decide +kernel
theorem dL_night_6 : decode cL_night 6 = .ok (.i2l, 1) := by decide +kernel
theorem dL_night_7 : decode cL_night 7 = .ok (.lastore, 1) := by decide +kernel
theorem dL_night_8 : decode cL_night 8 = .ok (.goto 6, 3) := by decide +kernel
theorem dL_night_11 : decode cL_night 11 = .ok (.astore_n 2, 1) := by decide +kernel
theorem dL_night_12 : decode cL_night 12 = .ok (.iconst 1, 1) := by decide +kernel
theorem dL_night_13 : decode cL_night 13 = .ok (.ireturn, 1) := by decide +kernel
theorem dL_night_14 : decode cL_night 14 = .ok (.iconst 0, 1) := by decide +kernel
theorem dL_night_15 : decode cL_night 15 = .ok (.ireturn, 1) := by decide +kernel
theorem dL_demandToday_0 : decode cL_demandToday 0 = .ok (.aload_n 3, 1) := by decide +kernel
theorem dL_demandToday_1 : decode cL_demandToday 1 = .ok (.iconst 0, 1) := by decide +kernel
theorem dL_demandToday_2 : decode cL_demandToday 2 = .ok (.aload_n 0, 1) := by decide +kernel
theorem dL_demandToday_3 : decode cL_demandToday 3 = .ok (.iload_n 1, 1) := by decide +kernel
theorem dL_demandToday_4 : decode cL_demandToday 4 = .ok (.iload_n 2, 1) := by decide +kernel
theorem dL_demandToday_5 : decode cL_demandToday 5 = .ok (.invokevirtual 58, 3) := by decide +kernel
theorem dL_demandToday_8 : decode cL_demandToday 8 = .ok (.i2l, 1) := by decide +kernel
theorem dL_demandToday_9 : decode cL_demandToday 9 = .ok (.lastore, 1) := by decide +kernel
theorem dL_demandToday_10 : decode cL_demandToday 10 = .ok (.goto 11, 3) := by decide +kernel
theorem dL_demandToday_13 : decode cL_demandToday 13 = .ok (.astore 4, 2) := by decide +kernel
theorem dL_demandToday_15 : decode cL_demandToday 15 = .ok (.iconst 1, 1) := by decide +kernel
theorem dL_demandToday_16 : decode cL_demandToday 16 = .ok (.ireturn, 1) := by decide +kernel
theorem dL_demandToday_17 : decode cL_demandToday 17 = .ok (.astore 4, 2) := by decide +kernel
theorem dL_demandToday_19 : decode cL_demandToday 19 = .ok (.iconst 2, 1) := by decide +kernel
theorem dL_demandToday_20 : decode cL_demandToday 20 = .ok (.ireturn, 1) := by decide +kernel
theorem dL_demandToday_21 : decode cL_demandToday 21 = .ok (.iconst 0, 1) := by decide +kernel
theorem dL_demandToday_22 : decode cL_demandToday 22 = .ok (.ireturn, 1) := by decide +kernel
theorem dL_level_0 : decode cL_level 0 = .ok (.aload_n 3, 1) := by decide +kernel
theorem dL_level_1 : decode cL_level 1 = .ok (.iconst 0, 1) := by decide +kernel
theorem dL_level_2 : decode cL_level 2 = .ok (.aload_n 0, 1) := by decide +kernel
theorem dL_level_3 : decode cL_level 3 = .ok (.iload_n 1, 1) := by decide +kernel
theorem dL_level_4 : decode cL_level 4 = .ok (.iload_n 2, 1) := by decide +kernel
theorem dL_level_5 : decode cL_level 5 = .ok (.invokevirtual 61, 3) := by decide +kernel
theorem dL_level_8 : decode cL_level 8 = .ok (.i2l, 1) := by decide +kernel
theorem dL_level_9 : decode cL_level 9 = .ok (.lastore, 1) := by decide +kernel
theorem dL_level_10 : decode cL_level 10 = .ok (.goto 11, 3) := by decide +kernel
theorem dL_level_13 : decode cL_level 13 = .ok (.astore 4, 2) := by decide +kernel
theorem dL_level_15 : decode cL_level 15 = .ok (.iconst 1, 1) := by decide +kernel
theorem dL_level_16 : decode cL_level 16 = .ok (.ireturn, 1) := by decide +kernel
theorem dL_level_17 : decode cL_level 17 = .ok (.astore 4, 2) := by decide +kernel
theorem dL_level_19 : decode cL_level 19 = .ok (.iconst 2, 1) := by decide +kernel
theorem dL_level_20 : decode cL_level 20 = .ok (.ireturn, 1) := by decide +kernel
theorem dL_level_21 : decode cL_level 21 = .ok (.iconst 0, 1) := by decide +kernel
theorem dL_level_22 : decode cL_level 22 = .ok (.ireturn, 1) := by decide +kernel
theorem dL_levelByDays_0 : decode cL_levelByDays 0 = .ok (.aload_n 3, 1) := by decide +kernel
theorem dL_levelByDays_1 : decode cL_levelByDays 1 = .ok (.iconst 0, 1) := by decide +kernel
theorem dL_levelByDays_2 : decode cL_levelByDays 2 = .ok (.aload_n 0, 1) := by decide +kernel
theorem dL_levelByDays_3 : decode cL_levelByDays 3 = .ok (.iload_n 1, 1) := by decide +kernel
theorem dL_levelByDays_4 : decode cL_levelByDays 4 = .ok (.iload_n 2, 1) := by decide +kernel
theorem dL_levelByDays_5 : decode cL_levelByDays 5 = .ok (.invokevirtual 64, 3) := by decide +kernel
theorem dL_levelByDays_8 : decode cL_levelByDays 8 = .ok (.i2l, 1) := by decide +kernel
theorem dL_levelByDays_9 : decode cL_levelByDays 9 = .ok (.lastore, 1) := by decide +kernel
theorem dL_levelByDays_10 : decode cL_levelByDays 10 = .ok (.goto 11, 3) := by decide +kernel
theorem dL_levelByDays_13 : decode cL_levelByDays 13 = .ok (.astore 4, 2) := by decide +kernel
theorem dL_levelByDays_15 : decode cL_levelByDays 15 = .ok (.iconst 1, 1) := by decide +kernel
theorem dL_levelByDays_16 : decode cL_levelByDays 16 = .ok (.ireturn, 1) := by decide +kernel
theorem dL_levelByDays_17 : decode cL_levelByDays 17 = .ok (.astore 4, 2) := by decide +kernel
theorem dL_levelByDays_19 : decode cL_levelByDays 19 = .ok (.iconst 2, 1) := by decide +kernel
theorem dL_levelByDays_20 : decode cL_levelByDays 20 = .ok (.ireturn, 1) := by decide +kernel
theorem dL_levelByDays_21 : decode cL_levelByDays 21 = .ok (.iconst 0, 1) := by decide +kernel
theorem dL_levelByDays_22 : decode cL_levelByDays 22 = .ok (.ireturn, 1) := by decide +kernel
theorem dL_season_0 : decode cL_season 0 = .ok (.aload 4, 2) := by decide +kernel
theorem dL_season_2 : decode cL_season 2 = .ok (.iconst 0, 1) := by decide +kernel
theorem dL_season_3 : decode cL_season 3 = .ok (.aload_n 0, 1) := by decide +kernel
theorem dL_season_4 : decode cL_season 4 = .ok (.iload_n 1, 1) := by decide +kernel
theorem dL_season_5 : decode cL_season 5 = .ok (.iload_n 2, 1) := by decide +kernel
theorem dL_season_6 : decode cL_season 6 = .ok (.iload_n 3, 1) := by decide +kernel
theorem dL_season_7 : decode cL_season 7 = .ok (.invokevirtual 67, 3) := by decide +kernel
theorem dL_season_10 : decode cL_season 10 = .ok (.i2l, 1) := by decide +kernel
theorem dL_season_11 : decode cL_season 11 = .ok (.lastore, 1) := by decide +kernel
theorem dL_season_12 : decode cL_season 12 = .ok (.goto 15, 3) := by decide +kernel
theorem dL_season_15 : decode cL_season 15 = .ok (.astore 5, 2) := by decide +kernel
theorem dL_season_17 : decode cL_season 17 = .ok (.iconst 1, 1) := by decide +kernel
theorem dL_season_18 : decode cL_season 18 = .ok (.ireturn, 1) := by decide +kernel
theorem dL_season_19 : decode cL_season 19 = .ok (.astore 5, 2) := by decide +kernel
theorem dL_season_21 : decode cL_season 21 = .ok (.iconst 2, 1) := by decide +kernel
theorem dL_season_22 : decode cL_season 22 = .ok (.ireturn, 1) := by decide +kernel
theorem dL_season_23 : decode cL_season 23 = .ok (.astore 5, 2) := by decide +kernel
theorem dL_season_25 : decode cL_season 25 = .ok (.iconst 3, 1) := by decide +kernel
theorem dL_season_26 : decode cL_season 26 = .ok (.ireturn, 1) := by decide +kernel
theorem dL_season_27 : decode cL_season 27 = .ok (.iconst 0, 1) := by decide +kernel
theorem dL_season_28 : decode cL_season 28 = .ok (.ireturn, 1) := by decide +kernel
theorem dL_forecast_0 : decode cL_forecast 0 = .ok (.aload 4, 2) := by decide +kernel
theorem dL_forecast_2 : decode cL_forecast 2 = .ok (.iconst 0, 1) := by decide +kernel
theorem dL_forecast_3 : decode cL_forecast 3 = .ok (.aload_n 0, 1) := by decide +kernel
theorem dL_forecast_4 : decode cL_forecast 4 = .ok (.iload_n 1, 1) := by decide +kernel
theorem dL_forecast_5 : decode cL_forecast 5 = .ok (.iload_n 2, 1) := by decide +kernel
theorem dL_forecast_6 : decode cL_forecast 6 = .ok (.iload_n 3, 1) := by decide +kernel
theorem dL_forecast_7 : decode cL_forecast 7 = .ok (.invokevirtual 70, 3) := by decide +kernel
theorem dL_forecast_10 : decode cL_forecast 10 = .ok (.i2l, 1) := by decide +kernel
theorem dL_forecast_11 : decode cL_forecast 11 = .ok (.lastore, 1) := by decide +kernel
theorem dL_forecast_12 : decode cL_forecast 12 = .ok (.goto 15, 3) := by decide +kernel
theorem dL_forecast_15 : decode cL_forecast 15 = .ok (.astore 5, 2) := by decide +kernel
theorem dL_forecast_17 : decode cL_forecast 17 = .ok (.iconst 1, 1) := by decide +kernel
theorem dL_forecast_18 : decode cL_forecast 18 = .ok (.ireturn, 1) := by decide +kernel
theorem dL_forecast_19 : decode cL_forecast 19 = .ok (.astore 5, 2) := by decide +kernel
theorem dL_forecast_21 : decode cL_forecast 21 = .ok (.iconst 2, 1) := by decide +kernel
theorem dL_forecast_22 : decode cL_forecast 22 = .ok (.ireturn, 1) := by decide +kernel
theorem dL_forecast_23 : decode cL_forecast 23 = .ok (.astore 5, 2) := by decide +kernel
theorem dL_forecast_25 : decode cL_forecast 25 = .ok (.iconst 3, 1) := by decide +kernel
theorem dL_forecast_26 : decode cL_forecast 26 = .ok (.ireturn, 1) := by decide +kernel
theorem dL_forecast_27 : decode cL_forecast 27 = .ok (.iconst 0, 1) := by decide +kernel
theorem dL_forecast_28 : decode cL_forecast 28 = .ok (.ireturn, 1) := by decide +kernel
theorem dL_errors_0 : decode cL_errors 0 = .ok (.aload 4, 2) := by decide +kernel
theorem dL_errors_2 : decode cL_errors 2 = .ok (.iconst 0, 1) := by decide +kernel
theorem dL_errors_3 : decode cL_errors 3 = .ok (.aload_n 0, 1) := by decide +kernel
theorem dL_errors_4 : decode cL_errors 4 = .ok (.iload_n 1, 1) := by decide +kernel
theorem dL_errors_5 : decode cL_errors 5 = .ok (.iload_n 2, 1) := by decide +kernel
theorem dL_errors_6 : decode cL_errors 6 = .ok (.iload_n 3, 1) := by decide +kernel
theorem dL_errors_7 : decode cL_errors 7 = .ok (.invokevirtual 73, 3) := by decide +kernel
theorem dL_errors_10 : decode cL_errors 10 = .ok (.i2l, 1) := by decide +kernel
theorem dL_errors_11 : decode cL_errors 11 = .ok (.lastore, 1) := by decide +kernel
theorem dL_errors_12 : decode cL_errors 12 = .ok (.goto 15, 3) := by decide +kernel
theorem dL_errors_15 : decode cL_errors 15 = .ok (.astore 5, 2) := by decide +kernel
theorem dL_errors_17 : decode cL_errors 17 = .ok (.iconst 1, 1) := by decide +kernel
theorem dL_errors_18 : decode cL_errors 18 = .ok (.ireturn, 1) := by decide +kernel
theorem dL_errors_19 : decode cL_errors 19 = .ok (.astore 5, 2) := by decide +kernel
theorem dL_errors_21 : decode cL_errors 21 = .ok (.iconst 2, 1) := by decide +kernel
theorem dL_errors_22 : decode cL_errors 22 = .ok (.ireturn, 1) := by decide +kernel
theorem dL_errors_23 : decode cL_errors 23 = .ok (.astore 5, 2) := by decide +kernel
theorem dL_errors_25 : decode cL_errors 25 = .ok (.iconst 3, 1) := by decide +kernel
theorem dL_errors_26 : decode cL_errors 26 = .ok (.ireturn, 1) := by decide +kernel
theorem dL_errors_27 : decode cL_errors 27 = .ok (.iconst 0, 1) := by decide +kernel
theorem dL_errors_28 : decode cL_errors 28 = .ok (.ireturn, 1) := by decide +kernel
theorem dL_safety_0 : decode cL_safety 0 = .ok (.aload_n 3, 1) := by decide +kernel
theorem dL_safety_1 : decode cL_safety 1 = .ok (.iconst 0, 1) := by decide +kernel
theorem dL_safety_2 : decode cL_safety 2 = .ok (.aload_n 0, 1) := by decide +kernel
theorem dL_safety_3 : decode cL_safety 3 = .ok (.iload_n 1, 1) := by decide +kernel
theorem dL_safety_4 : decode cL_safety 4 = .ok (.iload_n 2, 1) := by decide +kernel
theorem dL_safety_5 : decode cL_safety 5 = .ok (.invokevirtual 76, 3) := by decide +kernel
theorem dL_safety_8 : decode cL_safety 8 = .ok (.i2l, 1) := by decide +kernel
theorem dL_safety_9 : decode cL_safety 9 = .ok (.lastore, 1) := by decide +kernel
theorem dL_safety_10 : decode cL_safety 10 = .ok (.goto 11, 3) := by decide +kernel
theorem dL_safety_13 : decode cL_safety 13 = .ok (.astore 4, 2) := by decide +kernel
theorem dL_safety_15 : decode cL_safety 15 = .ok (.iconst 1, 1) := by decide +kernel
theorem dL_safety_16 : decode cL_safety 16 = .ok (.ireturn, 1) := by decide +kernel
theorem dL_safety_17 : decode cL_safety 17 = .ok (.astore 4, 2) := by decide +kernel
theorem dL_safety_19 : decode cL_safety 19 = .ok (.iconst 2, 1) := by decide +kernel
theorem dL_safety_20 : decode cL_safety 20 = .ok (.ireturn, 1) := by decide +kernel
theorem dL_safety_21 : decode cL_safety 21 = .ok (.iconst 0, 1) := by decide +kernel
theorem dL_safety_22 : decode cL_safety 22 = .ok (.ireturn, 1) := by decide +kernel
theorem dL_stock_0 : decode cL_stock 0 = .ok (.aload_n 3, 1) := by decide +kernel
theorem dL_stock_1 : decode cL_stock 1 = .ok (.iconst 0, 1) := by decide +kernel
theorem dL_stock_2 : decode cL_stock 2 = .ok (.aload_n 0, 1) := by decide +kernel
theorem dL_stock_3 : decode cL_stock 3 = .ok (.iload_n 1, 1) := by decide +kernel
theorem dL_stock_4 : decode cL_stock 4 = .ok (.iload_n 2, 1) := by decide +kernel
theorem dL_stock_5 : decode cL_stock 5 = .ok (.invokevirtual 79, 3) := by decide +kernel
theorem dL_stock_8 : decode cL_stock 8 = .ok (.i2l, 1) := by decide +kernel
theorem dL_stock_9 : decode cL_stock 9 = .ok (.lastore, 1) := by decide +kernel
theorem dL_stock_10 : decode cL_stock 10 = .ok (.goto 11, 3) := by decide +kernel
theorem dL_stock_13 : decode cL_stock 13 = .ok (.astore 4, 2) := by decide +kernel
theorem dL_stock_15 : decode cL_stock 15 = .ok (.iconst 1, 1) := by decide +kernel
theorem dL_stock_16 : decode cL_stock 16 = .ok (.ireturn, 1) := by decide +kernel
theorem dL_stock_17 : decode cL_stock 17 = .ok (.astore 4, 2) := by decide +kernel
theorem dL_stock_19 : decode cL_stock 19 = .ok (.iconst 2, 1) := by decide +kernel
theorem dL_stock_20 : decode cL_stock 20 = .ok (.ireturn, 1) := by decide +kernel
theorem dL_stock_21 : decode cL_stock 21 = .ok (.iconst 0, 1) := by decide +kernel
theorem dL_stock_22 : decode cL_stock 22 = .ok (.ireturn, 1) := by decide +kernel
theorem dL_stockByJournal_0 : decode cL_stockByJournal 0 = .ok (.aload_n 3, 1) := by decide +kernel
theorem dL_stockByJournal_1 : decode cL_stockByJournal 1 = .ok (.iconst 0, 1) := by decide +kernel
theorem dL_stockByJournal_2 : decode cL_stockByJournal 2 = .ok (.aload_n 0, 1) := by decide +kernel
theorem dL_stockByJournal_3 : decode cL_stockByJournal 3 = .ok (.iload_n 1, 1) := by decide +kernel
theorem dL_stockByJournal_4 : decode cL_stockByJournal 4 = .ok (.iload_n 2, 1) := by decide +kernel
theorem dL_stockByJournal_5 : decode cL_stockByJournal 5 = .ok (.invokevirtual 82, 3) := by decide +kernel
theorem dL_stockByJournal_8 : decode cL_stockByJournal 8 = .ok (.i2l, 1) := by decide +kernel
theorem dL_stockByJournal_9 : decode cL_stockByJournal 9 = .ok (.lastore, 1) := by decide +kernel
theorem dL_stockByJournal_10 : decode cL_stockByJournal 10 = .ok (.goto 11, 3) := by decide +kernel
theorem dL_stockByJournal_13 : decode cL_stockByJournal 13 = .ok (.astore 4, 2) := by decide +kernel
theorem dL_stockByJournal_15 : decode cL_stockByJournal 15 = .ok (.iconst 1, 1) := by decide +kernel
theorem dL_stockByJournal_16 : decode cL_stockByJournal 16 = .ok (.ireturn, 1) := by decide +kernel
theorem dL_stockByJournal_17 : decode cL_stockByJournal 17 = .ok (.astore 4, 2) := by decide +kernel
theorem dL_stockByJournal_19 : decode cL_stockByJournal 19 = .ok (.iconst 2, 1) := by decide +kernel
theorem dL_stockByJournal_20 : decode cL_stockByJournal 20 = .ok (.ireturn, 1) := by decide +kernel
theorem dL_stockByJournal_21 : decode cL_stockByJournal 21 = .ok (.iconst 0, 1) := by decide +kernel
theorem dL_stockByJournal_22 : decode cL_stockByJournal 22 = .ok (.ireturn, 1) := by decide +kernel
theorem dL_onWay_0 : decode cL_onWay 0 = .ok (.aload_n 3, 1) := by decide +kernel
theorem dL_onWay_1 : decode cL_onWay 1 = .ok (.iconst 0, 1) := by decide +kernel
theorem dL_onWay_2 : decode cL_onWay 2 = .ok (.aload_n 0, 1) := by decide +kernel
theorem dL_onWay_3 : decode cL_onWay 3 = .ok (.iload_n 1, 1) := by decide +kernel
theorem dL_onWay_4 : decode cL_onWay 4 = .ok (.iload_n 2, 1) := by decide +kernel
theorem dL_onWay_5 : decode cL_onWay 5 = .ok (.invokevirtual 85, 3) := by decide +kernel
theorem dL_onWay_8 : decode cL_onWay 8 = .ok (.i2l, 1) := by decide +kernel
theorem dL_onWay_9 : decode cL_onWay 9 = .ok (.lastore, 1) := by decide +kernel
theorem dL_onWay_10 : decode cL_onWay 10 = .ok (.goto 11, 3) := by decide +kernel
theorem dL_onWay_13 : decode cL_onWay 13 = .ok (.astore 4, 2) := by decide +kernel
theorem dL_onWay_15 : decode cL_onWay 15 = .ok (.iconst 1, 1) := by decide +kernel
theorem dL_onWay_16 : decode cL_onWay 16 = .ok (.ireturn, 1) := by decide +kernel
theorem dL_onWay_17 : decode cL_onWay 17 = .ok (.astore 4, 2) := by decide +kernel
theorem dL_onWay_19 : decode cL_onWay 19 = .ok (.iconst 2, 1) := by decide +kernel
theorem dL_onWay_20 : decode cL_onWay 20 = .ok (.ireturn, 1) := by decide +kernel
theorem dL_onWay_21 : decode cL_onWay 21 = .ok (.iconst 0, 1) := by decide +kernel
theorem dL_onWay_22 : decode cL_onWay 22 = .ok (.ireturn, 1) := by decide +kernel
theorem dL_nextArrival_0 : decode cL_nextArrival 0 = .ok (.aload_n 3, 1) := by decide +kernel
theorem dL_nextArrival_1 : decode cL_nextArrival 1 = .ok (.iconst 0, 1) := by decide +kernel
theorem dL_nextArrival_2 : decode cL_nextArrival 2 = .ok (.aload_n 0, 1) := by decide +kernel
theorem dL_nextArrival_3 : decode cL_nextArrival 3 = .ok (.iload_n 1, 1) := by decide +kernel
theorem dL_nextArrival_4 : decode cL_nextArrival 4 = .ok (.iload_n 2, 1) := by decide +kernel
theorem dL_nextArrival_5 : decode cL_nextArrival 5 = .ok (.invokevirtual 88, 3) := by decide +kernel
theorem dL_nextArrival_8 : decode cL_nextArrival 8 = .ok (.i2l, 1) := by decide +kernel
theorem dL_nextArrival_9 : decode cL_nextArrival 9 = .ok (.lastore, 1) := by decide +kernel
theorem dL_nextArrival_10 : decode cL_nextArrival 10 = .ok (.goto 11, 3) := by decide +kernel
theorem dL_nextArrival_13 : decode cL_nextArrival 13 = .ok (.astore 4, 2) := by decide +kernel
theorem dL_nextArrival_15 : decode cL_nextArrival 15 = .ok (.iconst 1, 1) := by decide +kernel
theorem dL_nextArrival_16 : decode cL_nextArrival 16 = .ok (.ireturn, 1) := by decide +kernel
theorem dL_nextArrival_17 : decode cL_nextArrival 17 = .ok (.astore 4, 2) := by decide +kernel
theorem dL_nextArrival_19 : decode cL_nextArrival 19 = .ok (.iconst 2, 1) := by decide +kernel
theorem dL_nextArrival_20 : decode cL_nextArrival 20 = .ok (.ireturn, 1) := by decide +kernel
theorem dL_nextArrival_21 : decode cL_nextArrival 21 = .ok (.iconst 0, 1) := by decide +kernel
theorem dL_nextArrival_22 : decode cL_nextArrival 22 = .ok (.ireturn, 1) := by decide +kernel
theorem dL_need_0 : decode cL_need 0 = .ok (.aload_n 3, 1) := by decide +kernel
theorem dL_need_1 : decode cL_need 1 = .ok (.iconst 0, 1) := by decide +kernel
theorem dL_need_2 : decode cL_need 2 = .ok (.aload_n 0, 1) := by decide +kernel
theorem dL_need_3 : decode cL_need 3 = .ok (.iload_n 1, 1) := by decide +kernel
theorem dL_need_4 : decode cL_need 4 = .ok (.iload_n 2, 1) := by decide +kernel
theorem dL_need_5 : decode cL_need 5 = .ok (.invokevirtual 91, 3) := by decide +kernel
theorem dL_need_8 : decode cL_need 8 = .ok (.i2l, 1) := by decide +kernel
theorem dL_need_9 : decode cL_need 9 = .ok (.lastore, 1) := by decide +kernel
theorem dL_need_10 : decode cL_need 10 = .ok (.goto 11, 3) := by decide +kernel
theorem dL_need_13 : decode cL_need 13 = .ok (.astore 4, 2) := by decide +kernel
theorem dL_need_15 : decode cL_need 15 = .ok (.iconst 1, 1) := by decide +kernel
theorem dL_need_16 : decode cL_need 16 = .ok (.ireturn, 1) := by decide +kernel
theorem dL_need_17 : decode cL_need 17 = .ok (.astore 4, 2) := by decide +kernel
theorem dL_need_19 : decode cL_need 19 = .ok (.iconst 2, 1) := by decide +kernel
theorem dL_need_20 : decode cL_need 20 = .ok (.ireturn, 1) := by decide +kernel
theorem dL_need_21 : decode cL_need 21 = .ok (.iconst 0, 1) := by decide +kernel
theorem dL_need_22 : decode cL_need 22 = .ok (.ireturn, 1) := by decide +kernel
theorem dL_request_0 : decode cL_request 0 = .ok (.aload_n 3, 1) := by decide +kernel
theorem dL_request_1 : decode cL_request 1 = .ok (.iconst 0, 1) := by decide +kernel
theorem dL_request_2 : decode cL_request 2 = .ok (.aload_n 0, 1) := by decide +kernel
theorem dL_request_3 : decode cL_request 3 = .ok (.iload_n 1, 1) := by decide +kernel
theorem dL_request_4 : decode cL_request 4 = .ok (.iload_n 2, 1) := by decide +kernel
theorem dL_request_5 : decode cL_request 5 = .ok (.invokevirtual 94, 3) := by decide +kernel
theorem dL_request_8 : decode cL_request 8 = .ok (.i2l, 1) := by decide +kernel
theorem dL_request_9 : decode cL_request 9 = .ok (.lastore, 1) := by decide +kernel
theorem dL_request_10 : decode cL_request 10 = .ok (.goto 11, 3) := by decide +kernel
theorem dL_request_13 : decode cL_request 13 = .ok (.astore 4, 2) := by decide +kernel
theorem dL_request_15 : decode cL_request 15 = .ok (.iconst 1, 1) := by decide +kernel
theorem dL_request_16 : decode cL_request 16 = .ok (.ireturn, 1) := by decide +kernel
theorem dL_request_17 : decode cL_request 17 = .ok (.astore 4, 2) := by decide +kernel
theorem dL_request_19 : decode cL_request 19 = .ok (.iconst 2, 1) := by decide +kernel
theorem dL_request_20 : decode cL_request 20 = .ok (.ireturn, 1) := by decide +kernel
theorem dL_request_21 : decode cL_request 21 = .ok (.iconst 0, 1) := by decide +kernel
theorem dL_request_22 : decode cL_request 22 = .ok (.ireturn, 1) := by decide +kernel
theorem dL_share_0 : decode cL_share 0 = .ok (.aload_n 3, 1) := by decide +kernel
theorem dL_share_1 : decode cL_share 1 = .ok (.iconst 0, 1) := by decide +kernel
theorem dL_share_2 : decode cL_share 2 = .ok (.aload_n 0, 1) := by decide +kernel
theorem dL_share_3 : decode cL_share 3 = .ok (.iload_n 1, 1) := by decide +kernel
theorem dL_share_4 : decode cL_share 4 = .ok (.iload_n 2, 1) := by decide +kernel
theorem dL_share_5 : decode cL_share 5 = .ok (.invokevirtual 97, 3) := by decide +kernel
theorem dL_share_8 : decode cL_share 8 = .ok (.i2l, 1) := by decide +kernel
theorem dL_share_9 : decode cL_share 9 = .ok (.lastore, 1) := by decide +kernel
theorem dL_share_10 : decode cL_share 10 = .ok (.goto 11, 3) := by decide +kernel
theorem dL_share_13 : decode cL_share 13 = .ok (.astore 4, 2) := by decide +kernel
theorem dL_share_15 : decode cL_share 15 = .ok (.iconst 1, 1) := by decide +kernel
theorem dL_share_16 : decode cL_share 16 = .ok (.ireturn, 1) := by decide +kernel
theorem dL_share_17 : decode cL_share 17 = .ok (.astore 4, 2) := by decide +kernel
theorem dL_share_19 : decode cL_share 19 = .ok (.iconst 2, 1) := by decide +kernel
theorem dL_share_20 : decode cL_share 20 = .ok (.ireturn, 1) := by decide +kernel
theorem dL_share_21 : decode cL_share 21 = .ok (.iconst 0, 1) := by decide +kernel
theorem dL_share_22 : decode cL_share 22 = .ok (.ireturn, 1) := by decide +kernel
theorem dL_shareByPacks_0 : decode cL_shareByPacks 0 = .ok (.aload_n 3, 1) := by decide +kernel
theorem dL_shareByPacks_1 : decode cL_shareByPacks 1 = .ok (.iconst 0, 1) := by decide +kernel
theorem dL_shareByPacks_2 : decode cL_shareByPacks 2 = .ok (.aload_n 0, 1) := by decide +kernel
theorem dL_shareByPacks_3 : decode cL_shareByPacks 3 = .ok (.iload_n 1, 1) := by decide +kernel
theorem dL_shareByPacks_4 : decode cL_shareByPacks 4 = .ok (.iload_n 2, 1) := by decide +kernel
theorem dL_shareByPacks_5 : decode cL_shareByPacks 5 = .ok (.invokevirtual 100, 3) := by decide +kernel
theorem dL_shareByPacks_8 : decode cL_shareByPacks 8 = .ok (.i2l, 1) := by decide +kernel
theorem dL_shareByPacks_9 : decode cL_shareByPacks 9 = .ok (.lastore, 1) := by decide +kernel
theorem dL_shareByPacks_10 : decode cL_shareByPacks 10 = .ok (.goto 11, 3) := by decide +kernel
theorem dL_shareByPacks_13 : decode cL_shareByPacks 13 = .ok (.astore 4, 2) := by decide +kernel
theorem dL_shareByPacks_15 : decode cL_shareByPacks 15 = .ok (.iconst 1, 1) := by decide +kernel
theorem dL_shareByPacks_16 : decode cL_shareByPacks 16 = .ok (.ireturn, 1) := by decide +kernel
theorem dL_shareByPacks_17 : decode cL_shareByPacks 17 = .ok (.astore 4, 2) := by decide +kernel
theorem dL_shareByPacks_19 : decode cL_shareByPacks 19 = .ok (.iconst 2, 1) := by decide +kernel
theorem dL_shareByPacks_20 : decode cL_shareByPacks 20 = .ok (.ireturn, 1) := by decide +kernel
theorem dL_shareByPacks_21 : decode cL_shareByPacks 21 = .ok (.iconst 0, 1) := by decide +kernel
theorem dL_shareByPacks_22 : decode cL_shareByPacks 22 = .ok (.ireturn, 1) := by decide +kernel
theorem dL_centre_0 : decode cL_centre 0 = .ok (.aload_n 2, 1) := by decide +kernel
theorem dL_centre_1 : decode cL_centre 1 = .ok (.iconst 0, 1) := by decide +kernel
theorem dL_centre_2 : decode cL_centre 2 = .ok (.aload_n 0, 1) := by decide +kernel
theorem dL_centre_3 : decode cL_centre 3 = .ok (.iload_n 1, 1) := by decide +kernel
theorem dL_centre_4 : decode cL_centre 4 = .ok (.invokevirtual 103, 3) := by decide +kernel
theorem dL_centre_7 : decode cL_centre 7 = .ok (.i2l, 1) := by decide +kernel
theorem dL_centre_8 : decode cL_centre 8 = .ok (.lastore, 1) := by decide +kernel
theorem dL_centre_9 : decode cL_centre 9 = .ok (.goto 6, 3) := by decide +kernel
theorem dL_centre_12 : decode cL_centre 12 = .ok (.astore_n 3, 1) := by decide +kernel
theorem dL_centre_13 : decode cL_centre 13 = .ok (.iconst 1, 1) := by decide +kernel
theorem dL_centre_14 : decode cL_centre 14 = .ok (.ireturn, 1) := by decide +kernel
theorem dL_centre_15 : decode cL_centre 15 = .ok (.iconst 0, 1) := by decide +kernel
theorem dL_centre_16 : decode cL_centre 16 = .ok (.ireturn, 1) := by decide +kernel
theorem dL_centreByJournal_0 : decode cL_centreByJournal 0 = .ok (.aload_n 2, 1) := by decide +kernel
theorem dL_centreByJournal_1 : decode cL_centreByJournal 1 = .ok (.iconst 0, 1) := by decide +kernel
theorem dL_centreByJournal_2 : decode cL_centreByJournal 2 = .ok (.aload_n 0, 1) := by decide +kernel
theorem dL_centreByJournal_3 : decode cL_centreByJournal 3 = .ok (.iload_n 1, 1) := by decide +kernel
theorem dL_centreByJournal_4 : decode cL_centreByJournal 4 = .ok (.invokevirtual 106, 3) := by decide +kernel
theorem dL_centreByJournal_7 : decode cL_centreByJournal 7 = .ok (.i2l, 1) := by decide +kernel
theorem dL_centreByJournal_8 : decode cL_centreByJournal 8 = .ok (.lastore, 1) := by decide +kernel
theorem dL_centreByJournal_9 : decode cL_centreByJournal 9 = .ok (.goto 6, 3) := by decide +kernel
theorem dL_centreByJournal_12 : decode cL_centreByJournal 12 = .ok (.astore_n 3, 1) := by decide +kernel
theorem dL_centreByJournal_13 : decode cL_centreByJournal 13 = .ok (.iconst 1, 1) := by decide +kernel
theorem dL_centreByJournal_14 : decode cL_centreByJournal 14 = .ok (.ireturn, 1) := by decide +kernel
theorem dL_centreByJournal_15 : decode cL_centreByJournal 15 = .ok (.iconst 0, 1) := by decide +kernel
theorem dL_centreByJournal_16 : decode cL_centreByJournal 16 = .ok (.ireturn, 1) := by decide +kernel
theorem dL_sold_0 : decode cL_sold 0 = .ok (.aload_n 3, 1) := by decide +kernel
theorem dL_sold_1 : decode cL_sold 1 = .ok (.iconst 0, 1) := by decide +kernel
theorem dL_sold_2 : decode cL_sold 2 = .ok (.aload_n 0, 1) := by decide +kernel
theorem dL_sold_3 : decode cL_sold 3 = .ok (.iload_n 1, 1) := by decide +kernel
theorem dL_sold_4 : decode cL_sold 4 = .ok (.iload_n 2, 1) := by decide +kernel
theorem dL_sold_5 : decode cL_sold 5 = .ok (.invokevirtual 109, 3) := by decide +kernel
theorem dL_sold_8 : decode cL_sold 8 = .ok (.i2l, 1) := by decide +kernel
theorem dL_sold_9 : decode cL_sold 9 = .ok (.lastore, 1) := by decide +kernel
theorem dL_sold_10 : decode cL_sold 10 = .ok (.goto 11, 3) := by decide +kernel
theorem dL_sold_13 : decode cL_sold 13 = .ok (.astore 4, 2) := by decide +kernel
theorem dL_sold_15 : decode cL_sold 15 = .ok (.iconst 1, 1) := by decide +kernel
theorem dL_sold_16 : decode cL_sold 16 = .ok (.ireturn, 1) := by decide +kernel
theorem dL_sold_17 : decode cL_sold 17 = .ok (.astore 4, 2) := by decide +kernel
theorem dL_sold_19 : decode cL_sold 19 = .ok (.iconst 2, 1) := by decide +kernel
theorem dL_sold_20 : decode cL_sold 20 = .ok (.ireturn, 1) := by decide +kernel
theorem dL_sold_21 : decode cL_sold 21 = .ok (.iconst 0, 1) := by decide +kernel
theorem dL_sold_22 : decode cL_sold 22 = .ok (.ireturn, 1) := by decide +kernel
theorem dL_lost_0 : decode cL_lost 0 = .ok (.aload_n 3, 1) := by decide +kernel
theorem dL_lost_1 : decode cL_lost 1 = .ok (.iconst 0, 1) := by decide +kernel
theorem dL_lost_2 : decode cL_lost 2 = .ok (.aload_n 0, 1) := by decide +kernel
theorem dL_lost_3 : decode cL_lost 3 = .ok (.iload_n 1, 1) := by decide +kernel
theorem dL_lost_4 : decode cL_lost 4 = .ok (.iload_n 2, 1) := by decide +kernel
theorem dL_lost_5 : decode cL_lost 5 = .ok (.invokevirtual 112, 3) := by decide +kernel
theorem dL_lost_8 : decode cL_lost 8 = .ok (.i2l, 1) := by decide +kernel
theorem dL_lost_9 : decode cL_lost 9 = .ok (.lastore, 1) := by decide +kernel
theorem dL_lost_10 : decode cL_lost 10 = .ok (.goto 11, 3) := by decide +kernel
theorem dL_lost_13 : decode cL_lost 13 = .ok (.astore 4, 2) := by decide +kernel
theorem dL_lost_15 : decode cL_lost 15 = .ok (.iconst 1, 1) := by decide +kernel
theorem dL_lost_16 : decode cL_lost 16 = .ok (.ireturn, 1) := by decide +kernel
theorem dL_lost_17 : decode cL_lost 17 = .ok (.astore 4, 2) := by decide +kernel
theorem dL_lost_19 : decode cL_lost 19 = .ok (.iconst 2, 1) := by decide +kernel
theorem dL_lost_20 : decode cL_lost 20 = .ok (.ireturn, 1) := by decide +kernel
theorem dL_lost_21 : decode cL_lost 21 = .ok (.iconst 0, 1) := by decide +kernel
theorem dL_lost_22 : decode cL_lost 22 = .ok (.ireturn, 1) := by decide +kernel
theorem dL_service_0 : decode cL_service 0 = .ok (.aload_n 2, 1) := by decide +kernel
theorem dL_service_1 : decode cL_service 1 = .ok (.iconst 0, 1) := by decide +kernel
theorem dL_service_2 : decode cL_service 2 = .ok (.aload_n 0, 1) := by decide +kernel
theorem dL_service_3 : decode cL_service 3 = .ok (.iload_n 1, 1) := by decide +kernel
theorem dL_service_4 : decode cL_service 4 = .ok (.invokevirtual 115, 3) := by decide +kernel
theorem dL_service_7 : decode cL_service 7 = .ok (.f2d, 1) := by decide +kernel
theorem dL_service_8 : decode cL_service 8 = .ok (.dastore, 1) := by decide +kernel
theorem dL_service_9 : decode cL_service 9 = .ok (.goto 9, 3) := by decide +kernel
theorem dL_service_12 : decode cL_service 12 = .ok (.astore_n 3, 1) := by decide +kernel
theorem dL_service_13 : decode cL_service 13 = .ok (.iconst 1, 1) := by decide +kernel
theorem dL_service_14 : decode cL_service 14 = .ok (.ireturn, 1) := by decide +kernel
theorem dL_service_15 : decode cL_service 15 = .ok (.astore_n 3, 1) := by decide +kernel
theorem dL_service_16 : decode cL_service 16 = .ok (.iconst 2, 1) := by decide +kernel
theorem dL_service_17 : decode cL_service 17 = .ok (.ireturn, 1) := by decide +kernel
theorem dL_service_18 : decode cL_service 18 = .ok (.iconst 0, 1) := by decide +kernel
theorem dL_service_19 : decode cL_service 19 = .ok (.ireturn, 1) := by decide +kernel
