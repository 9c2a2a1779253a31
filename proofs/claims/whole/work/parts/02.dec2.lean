theorem dX11_shelfByCheese_12 : decode cX11_shelfByCheese 12 = .ok (.iload_n 2, 1) := by decide +kernel
theorem dX11_shelfByCheese_13 : decode cX11_shelfByCheese 13 = .ok (.iconst (-1), 1) := by decide +kernel
theorem dX11_shelfByCheese_14 : decode cX11_shelfByCheese 14 = .ok (.if_icmp .ne 13, 3) := by decide +kernel
theorem dX11_shelfByCheese_17 : decode cX11_shelfByCheese 17 = .ok (.new 129, 3) := by decide +kernel
theorem dX11_shelfByCheese_20 : decode cX11_shelfByCheese 20 = .ok (.dup, 1) := by decide +kernel
theorem dX11_shelfByCheese_21 : decode cX11_shelfByCheese 21 = .ok (.ldc 146, 2) := by decide +kernel
theorem dX11_shelfByCheese_23 : decode cX11_shelfByCheese 23 = .ok (.invokespecial 133, 3) := by decide +kernel
theorem dX11_shelfByCheese_26 : decode cX11_shelfByCheese 26 = .ok (.athrow, 1) := by decide +kernel
theorem dX11_shelfByCheese_27 : decode cX11_shelfByCheese 27 = .ok (.iload_n 2, 1) := by decide +kernel
theorem dX11_shelfByCheese_28 : decode cX11_shelfByCheese 28 = .ok (.ireturn, 1) := by decide +kernel
theorem dX11_addStop_0 : decode cX11_addStop 0 = .ok (.aload_n 0, 1) := by decide +kernel
theorem dX11_addStop_1 : decode cX11_addStop 1 = .ok (.getstatic 148, 3) := by decide +kernel
theorem dX11_addStop_4 : decode cX11_addStop 4 = .ok (.iload_n 1, 1) := by decide +kernel
theorem dX11_addStop_5 : decode cX11_addStop 5 = .ok (.iconst 0, 1) := by decide +kernel
theorem dX11_addStop_6 : decode cX11_addStop 6 = .ok (.invokevirtual 66, 3) := by decide +kernel
theorem dX11_addStop_9 : decode cX11_addStop 9 = .ok (.ireturn, 1) := by decide +kernel
theorem dX11_removeStop_0 : decode cX11_removeStop 0 = .ok (.aload_n 0, 1) := by decide +kernel
theorem dX11_removeStop_1 : decode cX11_removeStop 1 = .ok (.getstatic 151, 3) := by decide +kernel
theorem dX11_removeStop_4 : decode cX11_removeStop 4 = .ok (.iload_n 1, 1) := by decide +kernel
theorem dX11_removeStop_5 : decode cX11_removeStop 5 = .ok (.iconst 0, 1) := by decide +kernel
theorem dX11_removeStop_6 : decode cX11_removeStop 6 = .ok (.invokevirtual 66, 3) := by decide +kernel
theorem dX11_removeStop_9 : decode cX11_removeStop 9 = .ok (.ireturn, 1) := by decide +kernel
theorem dX11_stopCount_0 : decode cX11_stopCount 0 = .ok (.aload_n 0, 1) := by decide +kernel
theorem dX11_stopCount_1 : decode cX11_stopCount 1 = .ok (.getfield 10, 3) := by decide +kernel
theorem dX11_stopCount_4 : decode cX11_stopCount 4 = .ok (.getfield 154, 3) := by decide +kernel
theorem dX11_stopCount_7 : decode cX11_stopCount 7 = .ok (.getfield 158, 3) := by decide +kernel
theorem dX11_stopCount_10 : decode cX11_stopCount 10 = .ok (.ireturn, 1) := by decide +kernel
theorem dX11_shelfOfStop_0 : decode cX11_shelfOfStop 0 = .ok (.aload_n 0, 1) := by decide +kernel
theorem dX11_shelfOfStop_1 : decode cX11_shelfOfStop 1 = .ok (.getfield 10, 3) := by decide +kernel
theorem dX11_shelfOfStop_4 : decode cX11_shelfOfStop 4 = .ok (.getfield 154, 3) := by decide +kernel
theorem dX11_shelfOfStop_7 : decode cX11_shelfOfStop 7 = .ok (.iload_n 1, 1) := by decide +kernel
theorem dX11_shelfOfStop_8 : decode cX11_shelfOfStop 8 = .ok (.invokevirtual 161, 3) := by decide +kernel
theorem dX11_shelfOfStop_11 : decode cX11_shelfOfStop 11 = .ok (.ifCond .ne 13, 3) := by decide +kernel
theorem dX11_shelfOfStop_14 : decode cX11_shelfOfStop 14 = .ok (.new 165, 3) := by decide +kernel
theorem dX11_shelfOfStop_17 : decode cX11_shelfOfStop 17 = .ok (.dup, 1) := by decide +kernel
theorem dX11_shelfOfStop_18 : decode cX11_shelfOfStop 18 = .ok (.ldc 167, 2) := by decide +kernel
theorem dX11_shelfOfStop_20 : decode cX11_shelfOfStop 20 = .ok (.invokespecial 169, 3) := by decide +kernel
theorem dX11_shelfOfStop_23 : decode cX11_shelfOfStop 23 = .ok (.athrow, 1) := by decide +kernel
theorem dX11_shelfOfStop_24 : decode cX11_shelfOfStop 24 = .ok (.aload_n 0, 1) := by decide +kernel
theorem dX11_shelfOfStop_25 : decode cX11_shelfOfStop 25 = .ok (.getfield 10, 3) := by decide +kernel
theorem dX11_shelfOfStop_28 : decode cX11_shelfOfStop 28 = .ok (.getfield 154, 3) := by decide +kernel
theorem dX11_shelfOfStop_31 : decode cX11_shelfOfStop 31 = .ok (.getfield 170, 3) := by decide +kernel
theorem dX11_shelfOfStop_34 : decode cX11_shelfOfStop 34 = .ok (.iload_n 1, 1) := by decide +kernel
theorem dX11_shelfOfStop_35 : decode cX11_shelfOfStop 35 = .ok (.invokestatic 105, 3) := by decide +kernel
theorem dX11_shelfOfStop_38 : decode cX11_shelfOfStop 38 = .ok (.ireturn, 1) := by decide +kernel
theorem dX11_catShelf_0 : decode cX11_catShelf 0 = .ok (.aload_n 0, 1) := by decide +kernel
theorem dX11_catShelf_1 : decode cX11_catShelf 1 = .ok (.invokevirtual 173, 3) := by decide +kernel
theorem dX11_catShelf_4 : decode cX11_catShelf 4 = .ok (.aload_n 0, 1) := by decide +kernel
theorem dX11_catShelf_5 : decode cX11_catShelf 5 = .ok (.getfield 10, 3) := by decide +kernel
theorem dX11_catShelf_8 : decode cX11_catShelf 8 = .ok (.getfield 154, 3) := by decide +kernel
theorem dX11_catShelf_11 : decode cX11_catShelf 11 = .ok (.getfield 176, 3) := by decide +kernel
theorem dX11_catShelf_14 : decode cX11_catShelf 14 = .ok (.ireturn, 1) := by decide +kernel
theorem dX11_goal_0 : decode cX11_goal 0 = .ok (.aload_n 0, 1) := by decide +kernel
theorem dX11_goal_1 : decode cX11_goal 1 = .ok (.getfield 10, 3) := by decide +kernel
theorem dX11_goal_4 : decode cX11_goal 4 = .ok (.getfield 154, 3) := by decide +kernel
theorem dX11_goal_7 : decode cX11_goal 7 = .ok (.getfield 158, 3) := by decide +kernel
theorem dX11_goal_10 : decode cX11_goal 10 = .ok (.ifCond .ne 13, 3) := by decide +kernel
theorem dX11_goal_13 : decode cX11_goal 13 = .ok (.new 129, 3) := by decide +kernel
theorem dX11_goal_16 : decode cX11_goal 16 = .ok (.dup, 1) := by decide +kernel
theorem dX11_goal_17 : decode cX11_goal 17 = .ok (.ldc 179, 2) := by decide +kernel
theorem dX11_goal_19 : decode cX11_goal 19 = .ok (.invokespecial 133, 3) := by decide +kernel
theorem dX11_goal_22 : decode cX11_goal 22 = .ok (.athrow, 1) := by decide +kernel
theorem dX11_goal_23 : decode cX11_goal 23 = .ok (.aload_n 0, 1) := by decide +kernel
theorem dX11_goal_24 : decode cX11_goal 24 = .ok (.getfield 10, 3) := by decide +kernel
theorem dX11_goal_27 : decode cX11_goal 27 = .ok (.getfield 154, 3) := by decide +kernel
theorem dX11_goal_30 : decode cX11_goal 30 = .ok (.getfield 181, 3) := by decide +kernel
theorem dX11_goal_33 : decode cX11_goal 33 = .ok (.ireturn, 1) := by decide +kernel
theorem dX11_nextShelf_0 : decode cX11_nextShelf 0 = .ok (.aload_n 0, 1) := by decide +kernel
theorem dX11_nextShelf_1 : decode cX11_nextShelf 1 = .ok (.invokevirtual 173, 3) := by decide +kernel
theorem dX11_nextShelf_4 : decode cX11_nextShelf 4 = .ok (.aload_n 0, 1) := by decide +kernel
theorem dX11_nextShelf_5 : decode cX11_nextShelf 5 = .ok (.getfield 10, 3) := by decide +kernel
theorem dX11_nextShelf_8 : decode cX11_nextShelf 8 = .ok (.invokevirtual 184, 3) := by decide +kernel
theorem dX11_nextShelf_11 : decode cX11_nextShelf 11 = .ok (.ireturn, 1) := by decide +kernel
theorem dX11_lapLength_0 : decode cX11_lapLength 0 = .ok (.aload_n 0, 1) := by decide +kernel
theorem dX11_lapLength_1 : decode cX11_lapLength 1 = .ok (.getfield 10, 3) := by decide +kernel
theorem dX11_lapLength_4 : decode cX11_lapLength 4 = .ok (.invokevirtual 187, 3) := by decide +kernel
theorem dX11_lapLength_7 : decode cX11_lapLength 7 = .ok (.istore_n 1, 1) := by decide +kernel
theorem dX11_lapLength_8 : decode cX11_lapLength 8 = .ok (.iload_n 1, 1) := by decide +kernel
theorem dX11_lapLength_9 : decode cX11_lapLength 9 = .ok (.iconst (-1), 1) := by decide +kernel
theorem dX11_lapLength_10 : decode cX11_lapLength 10 = .ok (.if_icmp .ne 13, 3) := by decide +kernel
theorem dX11_lapLength_13 : decode cX11_lapLength 13 = .ok (.new 129, 3) := by decide +kernel
theorem dX11_lapLength_16 : decode cX11_lapLength 16 = .ok (.dup, 1) := by decide +kernel
theorem dX11_lapLength_17 : decode cX11_lapLength 17 = .ok (.ldc 190, 2) := by decide +kernel
theorem dX11_lapLength_19 : decode cX11_lapLength 19 = .ok (.invokespecial 133, 3) := by decide +kernel
theorem dX11_lapLength_22 : decode cX11_lapLength 22 = .ok (.athrow, 1) := by decide +kernel
theorem dX11_lapLength_23 : decode cX11_lapLength 23 = .ok (.iload_n 1, 1) := by decide +kernel
theorem dX11_lapLength_24 : decode cX11_lapLength 24 = .ok (.ireturn, 1) := by decide +kernel
theorem dX11_pass_0 : decode cX11_pass 0 = .ok (.aload_n 0, 1) := by decide +kernel
theorem dX11_pass_1 : decode cX11_pass 1 = .ok (.getstatic 192, 3) := by decide +kernel
theorem dX11_pass_4 : decode cX11_pass 4 = .ok (.iload_n 1, 1) := by decide +kernel
theorem dX11_pass_5 : decode cX11_pass 5 = .ok (.iconst 0, 1) := by decide +kernel
theorem dX11_pass_6 : decode cX11_pass 6 = .ok (.invokevirtual 66, 3) := by decide +kernel
theorem dX11_pass_9 : decode cX11_pass 9 = .ok (.ireturn, 1) := by decide +kernel
theorem dX11_predictCaught_0 : decode cX11_predictCaught 0 = .ok (.iload_n 1, 1) := by decide +kernel
theorem dX11_predictCaught_1 : decode cX11_predictCaught 1 = .ok (.ifCond .lt 9, 3) := by decide +kernel
theorem dX11_predictCaught_4 : decode cX11_predictCaught 4 = .ok (.iload_n 1, 1) := by decide +kernel
theorem dX11_predictCaught_5 : decode cX11_predictCaught 5 = .ok (.bipush 60, 2) := by decide +kernel
theorem dX11_predictCaught_7 : decode cX11_predictCaught 7 = .ok (.if_icmp .le 13, 3) := by decide +kernel
theorem dX11_predictCaught_10 : decode cX11_predictCaught 10 = .ok (.new 195, 3) := by decide +kernel
theorem dX11_predictCaught_13 : decode cX11_predictCaught 13 = .ok (.dup, 1) := by decide +kernel
theorem dX11_predictCaught_14 : decode cX11_predictCaught 14 = .ok (.ldc 197, 2) := by decide +kernel
theorem dX11_predictCaught_16 : decode cX11_predictCaught 16 = .ok (.invokespecial 199, 3) := by decide +kernel
theorem dX11_predictCaught_19 : decode cX11_predictCaught 19 = .ok (.athrow, 1) := by decide +kernel
theorem dX11_predictCaught_20 : decode cX11_predictCaught 20 = .ok (.aload_n 0, 1) := by decide +kernel
theorem dX11_predictCaught_21 : decode cX11_predictCaught 21 = .ok (.getfield 16, 3) := by decide +kernel
theorem dX11_predictCaught_24 : decode cX11_predictCaught 24 = .ok (.aload_n 0, 1) := by decide +kernel
theorem dX11_predictCaught_25 : decode cX11_predictCaught 25 = .ok (.getfield 10, 3) := by decide +kernel
theorem dX11_predictCaught_28 : decode cX11_predictCaught 28 = .ok (.invokevirtual 200, 3) := by decide +kernel
theorem dX11_predictCaught_31 : decode cX11_predictCaught 31 = .ok (.aload_n 0, 1) := by decide +kernel
theorem dX11_predictCaught_32 : decode cX11_predictCaught 32 = .ok (.getfield 16, 3) := by decide +kernel
theorem dX11_predictCaught_35 : decode cX11_predictCaught 35 = .ok (.iload_n 1, 1) := by decide +kernel
theorem dX11_predictCaught_36 : decode cX11_predictCaught 36 = .ok (.invokevirtual 204, 3) := by decide +kernel
theorem dX11_predictCaught_39 : decode cX11_predictCaught 39 = .ok (.ireturn, 1) := by decide +kernel
theorem dX11_setRate_0 : decode cX11_setRate 0 = .ok (.aload_n 0, 1) := by decide +kernel
theorem dX11_setRate_1 : decode cX11_setRate 1 = .ok (.getstatic 207, 3) := by decide +kernel
theorem dX11_setRate_4 : decode cX11_setRate 4 = .ok (.iload_n 1, 1) := by decide +kernel
theorem dX11_setRate_5 : decode cX11_setRate 5 = .ok (.iconst 0, 1) := by decide +kernel
theorem dX11_setRate_6 : decode cX11_setRate 6 = .ok (.invokevirtual 66, 3) := by decide +kernel
theorem dX11_setRate_9 : decode cX11_setRate 9 = .ok (.ireturn, 1) := by decide +kernel
theorem dX11_setSeed_0 : decode cX11_setSeed 0 = .ok (.aload_n 0, 1) := by decide +kernel
theorem dX11_setSeed_1 : decode cX11_setSeed 1 = .ok (.getstatic 210, 3) := by decide +kernel
theorem dX11_setSeed_4 : decode cX11_setSeed 4 = .ok (.iload_n 1, 1) := by decide +kernel
theorem dX11_setSeed_5 : decode cX11_setSeed 5 = .ok (.iconst 0, 1) := by decide +kernel
theorem dX11_setSeed_6 : decode cX11_setSeed 6 = .ok (.invokevirtual 66, 3) := by decide +kernel
theorem dX11_setSeed_9 : decode cX11_setSeed 9 = .ok (.ireturn, 1) := by decide +kernel
theorem dX11_seed_0 : decode cX11_seed 0 = .ok (.aload_n 0, 1) := by decide +kernel
theorem dX11_seed_1 : decode cX11_seed 1 = .ok (.getfield 10, 3) := by decide +kernel
theorem dX11_seed_4 : decode cX11_seed 4 = .ok (.getfield 213, 3) := by decide +kernel
theorem dX11_seed_7 : decode cX11_seed 7 = .ok (.ireturn, 1) := by decide +kernel
theorem dX11_minute_0 : decode cX11_minute 0 = .ok (.aload_n 0, 1) := by decide +kernel
theorem dX11_minute_1 : decode cX11_minute 1 = .ok (.getfield 10, 3) := by decide +kernel
theorem dX11_minute_4 : decode cX11_minute 4 = .ok (.getfield 216, 3) := by decide +kernel
theorem dX11_minute_7 : decode cX11_minute 7 = .ok (.ireturn, 1) := by decide +kernel
theorem dX11_mouseCount_0 : decode cX11_mouseCount 0 = .ok (.aload_n 0, 1) := by decide +kernel
theorem dX11_mouseCount_1 : decode cX11_mouseCount 1 = .ok (.getfield 10, 3) := by decide +kernel
theorem dX11_mouseCount_4 : decode cX11_mouseCount 4 = .ok (.getfield 219, 3) := by decide +kernel
theorem dX11_mouseCount_7 : decode cX11_mouseCount 7 = .ok (.getfield 223, 3) := by decide +kernel
theorem dX11_mouseCount_10 : decode cX11_mouseCount 10 = .ok (.ireturn, 1) := by decide +kernel
theorem dX11_mouseShelf_0 : decode cX11_mouseShelf 0 = .ok (.aload_n 0, 1) := by decide +kernel
theorem dX11_mouseShelf_1 : decode cX11_mouseShelf 1 = .ok (.iload_n 1, 1) := by decide +kernel
theorem dX11_mouseShelf_2 : decode cX11_mouseShelf 2 = .ok (.invokevirtual 226, 3) := by decide +kernel
theorem dX11_mouseShelf_5 : decode cX11_mouseShelf 5 = .ok (.aload_n 0, 1) := by decide +kernel
theorem dX11_mouseShelf_6 : decode cX11_mouseShelf 6 = .ok (.getfield 10, 3) := by decide +kernel
theorem dX11_mouseShelf_9 : decode cX11_mouseShelf 9 = .ok (.getfield 219, 3) := by decide +kernel
theorem dX11_mouseShelf_12 : decode cX11_mouseShelf 12 = .ok (.getfield 229, 3) := by decide +kernel
theorem dX11_mouseShelf_15 : decode cX11_mouseShelf 15 = .ok (.iload_n 1, 1) := by decide +kernel
theorem dX11_mouseShelf_16 : decode cX11_mouseShelf 16 = .ok (.invokestatic 105, 3) := by decide +kernel
theorem dX11_mouseShelf_19 : decode cX11_mouseShelf 19 = .ok (.ireturn, 1) := by decide +kernel
theorem dX11_mouseEaten_0 : decode cX11_mouseEaten 0 = .ok (.aload_n 0, 1) := by decide +kernel
theorem dX11_mouseEaten_1 : decode cX11_mouseEaten 1 = .ok (.iload_n 1, 1) := by decide +kernel
theorem dX11_mouseEaten_2 : decode cX11_mouseEaten 2 = .ok (.invokevirtual 226, 3) := by decide +kernel
theorem dX11_mouseEaten_5 : decode cX11_mouseEaten 5 = .ok (.aload_n 0, 1) := by decide +kernel
theorem dX11_mouseEaten_6 : decode cX11_mouseEaten 6 = .ok (.getfield 10, 3) := by decide +kernel
theorem dX11_mouseEaten_9 : decode cX11_mouseEaten 9 = .ok (.getfield 219, 3) := by decide +kernel
theorem dX11_mouseEaten_12 : decode cX11_mouseEaten 12 = .ok (.getfield 231, 3) := by decide +kernel
theorem dX11_mouseEaten_15 : decode cX11_mouseEaten 15 = .ok (.iload_n 1, 1) := by decide +kernel
theorem dX11_mouseEaten_16 : decode cX11_mouseEaten 16 = .ok (.invokestatic 105, 3) := by decide +kernel
theorem dX11_mouseEaten_19 : decode cX11_mouseEaten 19 = .ok (.ireturn, 1) := by decide +kernel
theorem dX11_mouseHunger_0 : decode cX11_mouseHunger 0 = .ok (.aload_n 0, 1) := by decide +kernel
theorem dX11_mouseHunger_1 : decode cX11_mouseHunger 1 = .ok (.iload_n 1, 1) := by decide +kernel
theorem dX11_mouseHunger_2 : decode cX11_mouseHunger 2 = .ok (.invokevirtual 226, 3) := by decide +kernel
theorem dX11_mouseHunger_5 : decode cX11_mouseHunger 5 = .ok (.aload_n 0, 1) := by decide +kernel
theorem dX11_mouseHunger_6 : decode cX11_mouseHunger 6 = .ok (.getfield 10, 3) := by decide +kernel
theorem dX11_mouseHunger_9 : decode cX11_mouseHunger 9 = .ok (.getfield 219, 3) := by decide +kernel
theorem dX11_mouseHunger_12 : decode cX11_mouseHunger 12 = .ok (.getfield 234, 3) := by decide +kernel
theorem dX11_mouseHunger_15 : decode cX11_mouseHunger 15 = .ok (.iload_n 1, 1) := by decide +kernel
theorem dX11_mouseHunger_16 : decode cX11_mouseHunger 16 = .ok (.invokestatic 105, 3) := by decide +kernel
theorem dX11_mouseHunger_19 : decode cX11_mouseHunger 19 = .ok (.ireturn, 1) := by decide +kernel
theorem dX11_miceOn_0 : decode cX11_miceOn 0 = .ok (.aload_n 0, 1) := by decide +kernel
theorem dX11_miceOn_1 : decode cX11_miceOn 1 = .ok (.iload_n 1, 1) := by decide +kernel
theorem dX11_miceOn_2 : decode cX11_miceOn 2 = .ok (.invokevirtual 97, 3) := by decide +kernel
theorem dX11_miceOn_5 : decode cX11_miceOn 5 = .ok (.aload_n 0, 1) := by decide +kernel
theorem dX11_miceOn_6 : decode cX11_miceOn 6 = .ok (.getfield 10, 3) := by decide +kernel
theorem dX11_miceOn_9 : decode cX11_miceOn 9 = .ok (.getfield 219, 3) := by decide +kernel
theorem dX11_miceOn_12 : decode cX11_miceOn 12 = .ok (.iload_n 1, 1) := by decide +kernel
theorem dX11_miceOn_13 : decode cX11_miceOn 13 = .ok (.invokevirtual 237, 3) := by decide +kernel
theorem dX11_miceOn_16 : decode cX11_miceOn 16 = .ok (.ireturn, 1) := by decide +kernel
theorem dX11_totalCheese_0 : decode cX11_totalCheese 0 = .ok (.aload_n 0, 1) := by decide +kernel
theorem dX11_totalCheese_1 : decode cX11_totalCheese 1 = .ok (.getfield 10, 3) := by decide +kernel
theorem dX11_totalCheese_4 : decode cX11_totalCheese 4 = .ok (.getfield 85, 3) := by decide +kernel
theorem dX11_totalCheese_7 : decode cX11_totalCheese 7 = .ok (.invokevirtual 240, 3) := by decide +kernel
theorem dX11_totalCheese_10 : decode cX11_totalCheese 10 = .ok (.ireturn, 1) := by decide +kernel
theorem dX11_totalCheeseByAccounts_0 : decode cX11_totalCheeseByAccounts 0 = .ok (.aload_n 0, 1) := by decide +kernel
theorem dX11_totalCheeseByAccounts_1 : decode cX11_totalCheeseByAccounts 1 = .ok (.getfield 10, 3) := by decide +kernel
theorem dX11_totalCheeseByAccounts_4 : decode cX11_totalCheeseByAccounts 4 = .ok (.getfield 243, 3) := by decide +kernel
theorem dX11_totalCheeseByAccounts_7 : decode cX11_totalCheeseByAccounts 7 = .ok (.aload_n 0, 1) := by decide +kernel
theorem dX11_totalCheeseByAccounts_8 : decode cX11_totalCheeseByAccounts 8 = .ok (.getfield 10, 3) := by decide +kernel
theorem dX11_totalCheeseByAccounts_11 : decode cX11_totalCheeseByAccounts 11 = .ok (.getfield 246, 3) := by decide +kernel
theorem dX11_totalCheeseByAccounts_14 : decode cX11_totalCheeseByAccounts 14 = .ok (.isub, 1) := by decide +kernel
theorem dX11_totalCheeseByAccounts_15 : decode cX11_totalCheeseByAccounts 15 = .ok (.ireturn, 1) := by decide +kernel
theorem dX11_eaten_0 : decode cX11_eaten 0 = .ok (.aload_n 0, 1) := by decide +kernel
theorem dX11_eaten_1 : decode cX11_eaten 1 = .ok (.getfield 10, 3) := by decide +kernel
theorem dX11_eaten_4 : decode cX11_eaten 4 = .ok (.getfield 246, 3) := by decide +kernel
theorem dX11_eaten_7 : decode cX11_eaten 7 = .ok (.ireturn, 1) := by decide +kernel
theorem dX11_caught_0 : decode cX11_caught 0 = .ok (.aload_n 0, 1) := by decide +kernel
theorem dX11_caught_1 : decode cX11_caught 1 = .ok (.getfield 10, 3) := by decide +kernel
theorem dX11_caught_4 : decode cX11_caught 4 = .ok (.getfield 248, 3) := by decide +kernel
theorem dX11_caught_7 : decode cX11_caught 7 = .ok (.ireturn, 1) := by decide +kernel
theorem dX11_gone_0 : decode cX11_gone 0 = .ok (.aload_n 0, 1) := by decide +kernel
theorem dX11_gone_1 : decode cX11_gone 1 = .ok (.getfield 10, 3) := by decide +kernel
theorem dX11_gone_4 : decode cX11_gone 4 = .ok (.getfield 251, 3) := by decide +kernel
theorem dX11_gone_7 : decode cX11_gone 7 = .ok (.ireturn, 1) := by decide +kernel
theorem dX11_rinds_0 : decode cX11_rinds 0 = .ok (.aload_n 0, 1) := by decide +kernel
theorem dX11_rinds_1 : decode cX11_rinds 1 = .ok (.getfield 10, 3) := by decide +kernel
theorem dX11_rinds_4 : decode cX11_rinds 4 = .ok (.getfield 254, 3) := by decide +kernel
theorem dX11_rinds_7 : decode cX11_rinds 7 = .ok (.ireturn, 1) := by decide +kernel
theorem dX11_meanCheese_0 : decode cX11_meanCheese 0 = .ok (.aload_n 0, 1) := by decide +kernel
theorem dX11_meanCheese_1 : decode cX11_meanCheese 1 = .ok (.getfield 10, 3) := by decide +kernel
theorem dX11_meanCheese_4 : decode cX11_meanCheese 4 = .ok (.getfield 85, 3) := by decide +kernel
theorem dX11_meanCheese_7 : decode cX11_meanCheese 7 = .ok (.getfield 89, 3) := by decide +kernel
theorem dX11_meanCheese_10 : decode cX11_meanCheese 10 = .ok (.ifCond .ne 14, 3) := by decide +kernel
theorem dX11_meanCheese_13 : decode cX11_meanCheese 13 = .ok (.new 257, 3) := by decide +kernel
theorem dX11_meanCheese_16 : decode cX11_meanCheese 16 = .ok (.dup, 1) := by decide +kernel
theorem dX11_meanCheese_17 : decode cX11_meanCheese 17 = .ok (.ldc_w 259, 3) := by decide +kernel
theorem dX11_meanCheese_20 : decode cX11_meanCheese 20 = .ok (.invokespecial 261, 3) := by decide +kernel
theorem dX11_meanCheese_23 : decode cX11_meanCheese 23 = .ok (.athrow, 1) := by decide +kernel
theorem dX11_meanCheese_24 : decode cX11_meanCheese 24 = .ok (.aload_n 0, 1) := by decide +kernel
theorem dX11_meanCheese_25 : decode cX11_meanCheese 25 = .ok (.getfield 10, 3) := by decide +kernel
theorem dX11_meanCheese_28 : decode cX11_meanCheese 28 = .ok (.getfield 85, 3) := by decide +kernel
theorem dX11_meanCheese_31 : decode cX11_meanCheese 31 = .ok (.invokevirtual 240, 3) := by decide +kernel
theorem dX11_meanCheese_34 : decode cX11_meanCheese 34 = .ok (.i2d, 1) := by decide +kernel
theorem dX11_meanCheese_35 : decode cX11_meanCheese 35 = .ok (.aload_n 0, 1) := by decide +kernel
theorem dX11_meanCheese_36 : decode cX11_meanCheese 36 = .ok (.getfield 10, 3) := by decide +kernel
theorem dX11_meanCheese_39 : decode cX11_meanCheese 39 = .ok (.getfield 85, 3) := by decide +kernel
theorem dX11_meanCheese_42 : decode cX11_meanCheese 42 = .ok (.getfield 89, 3) := by decide +kernel
theorem dX11_meanCheese_45 : decode cX11_meanCheese 45 = .ok (.i2d, 1) := by decide +kernel
theorem dX11_meanCheese_46 : decode cX11_meanCheese 46 = .ok (.ddiv, 1) := by decide +kernel
theorem dX11_meanCheese_47 : decode cX11_meanCheese 47 = .ok (.dreturn, 1) := by decide +kernel
theorem dX11_caughtShare_0 : decode cX11_caughtShare 0 = .ok (.aload_n 0, 1) := by decide +kernel
theorem dX11_caughtShare_1 : decode cX11_caughtShare 1 = .ok (.getfield 10, 3) := by decide +kernel
theorem dX11_caughtShare_4 : decode cX11_caughtShare 4 = .ok (.getfield 248, 3) := by decide +kernel
theorem dX11_caughtShare_7 : decode cX11_caughtShare 7 = .ok (.aload_n 0, 1) := by decide +kernel
theorem dX11_caughtShare_8 : decode cX11_caughtShare 8 = .ok (.getfield 10, 3) := by decide +kernel
theorem dX11_caughtShare_11 : decode cX11_caughtShare 11 = .ok (.getfield 251, 3) := by decide +kernel
theorem dX11_caughtShare_14 : decode cX11_caughtShare 14 = .ok (.iadd, 1) := by decide +kernel
theorem dX11_caughtShare_15 : decode cX11_caughtShare 15 = .ok (.istore_n 1, 1) := by decide +kernel
theorem dX11_caughtShare_16 : decode cX11_caughtShare 16 = .ok (.iload_n 1, 1) := by decide +kernel
theorem dX11_caughtShare_17 : decode cX11_caughtShare 17 = .ok (.ifCond .ne 14, 3) := by decide +kernel
theorem dX11_caughtShare_20 : decode cX11_caughtShare 20 = .ok (.new 257, 3) := by decide +kernel
theorem dX11_caughtShare_23 : decode cX11_caughtShare 23 = .ok (.dup, 1) := by decide +kernel
theorem dX11_caughtShare_24 : decode cX11_caughtShare 24 = .ok (.ldc_w 262, 3) := by decide +kernel
theorem dX11_caughtShare_27 : decode cX11_caughtShare 27 = .ok (.invokespecial 261, 3) := by decide +kernel
theorem dX11_caughtShare_30 : decode cX11_caughtShare 30 = .ok (.athrow, 1) := by decide +kernel
theorem dX11_caughtShare_31 : decode cX11_caughtShare 31 = .ok (.aload_n 0, 1) := by decide +kernel
theorem dX11_caughtShare_32 : decode cX11_caughtShare 32 = .ok (.getfield 10, 3) := by decide +kernel
theorem dX11_caughtShare_35 : decode cX11_caughtShare 35 = .ok (.getfield 248, 3) := by decide +kernel
theorem dX11_caughtShare_38 : decode cX11_caughtShare 38 = .ok (.i2f, 1) := by decide +kernel
theorem dX11_caughtShare_39 : decode cX11_caughtShare 39 = .ok (.iload_n 1, 1) := by decide +kernel
theorem dX11_caughtShare_40 : decode cX11_caughtShare 40 = .ok (.i2f, 1) := by decide +kernel
theorem dX11_caughtShare_41 : decode cX11_caughtShare 41 = .ok (.fdiv, 1) := by decide +kernel
theorem dX11_caughtShare_42 : decode cX11_caughtShare 42 = .ok (.freturn, 1) := by decide +kernel
theorem dX11_feed_0 : decode cX11_feed 0 = .ok (.aload_n 0, 1) := by decide +kernel
theorem dX11_feed_1 : decode cX11_feed 1 = .ok (.getfield 39, 3) := by decide +kernel
theorem dX11_feed_4 : decode cX11_feed 4 = .ok (.getfield 264, 3) := by decide +kernel
theorem dX11_feed_7 : decode cX11_feed 7 = .ok (.bipush 60, 2) := by decide +kernel
theorem dX11_feed_9 : decode cX11_feed 9 = .ok (.if_icmp .lt 14, 3) := by decide +kernel
theorem dX11_feed_12 : decode cX11_feed 12 = .ok (.new 267, 3) := by decide +kernel
theorem dX11_feed_15 : decode cX11_feed 15 = .ok (.dup, 1) := by decide +kernel
theorem dX11_feed_16 : decode cX11_feed 16 = .ok (.ldc_w 269, 3) := by decide +kernel
theorem dX11_feed_19 : decode cX11_feed 19 = .ok (.invokespecial 271, 3) := by decide +kernel
theorem dX11_feed_22 : decode cX11_feed 22 = .ok (.athrow, 1) := by decide +kernel
theorem dX11_feed_23 : decode cX11_feed 23 = .ok (.aload_n 0, 1) := by decide +kernel
theorem dX11_feed_24 : decode cX11_feed 24 = .ok (.getfield 39, 3) := by decide +kernel
theorem dX11_feed_27 : decode cX11_feed 27 = .ok (.iload_n 1, 1) := by decide +kernel
theorem dX11_feed_28 : decode cX11_feed 28 = .ok (.invokevirtual 272, 3) := by decide +kernel
theorem dX11_feed_31 : decode cX11_feed 31 = .ok (.aload_n 0, 1) := by decide +kernel
theorem dX11_feed_32 : decode cX11_feed 32 = .ok (.getfield 39, 3) := by decide +kernel
theorem dX11_feed_35 : decode cX11_feed 35 = .ok (.getfield 264, 3) := by decide +kernel
theorem dX11_feed_38 : decode cX11_feed 38 = .ok (.ireturn, 1) := by decide +kernel
theorem dX11_execute_0 : decode cX11_execute 0 = .ok (.aload_n 0, 1) := by decide +kernel
theorem dX11_execute_1 : decode cX11_execute 1 = .ok (.getfield 39, 3) := by decide +kernel
theorem dX11_execute_4 : decode cX11_execute 4 = .ok (.invokevirtual 276, 3) := by decide +kernel
theorem dX11_execute_7 : decode cX11_execute 7 = .ok (.istore_n 1, 1) := by decide +kernel
theorem dX11_execute_8 : decode cX11_execute 8 = .ok (.iload_n 1, 1) := by decide +kernel
theorem dX11_execute_9 : decode cX11_execute 9 = .ok (.iconst (-1), 1) := by decide +kernel
theorem dX11_execute_10 : decode cX11_execute 10 = .ok (.if_icmp .eq 26, 3) := by decide +kernel
theorem dX11_execute_13 : decode cX11_execute 13 = .ok (.aload_n 0, 1) := by decide +kernel
theorem dX11_execute_14 : decode cX11_execute 14 = .ok (.getfield 39, 3) := by decide +kernel
theorem dX11_execute_17 : decode cX11_execute 17 = .ok (.invokevirtual 279, 3) := by decide +kernel
theorem dX11_execute_20 : decode cX11_execute 20 = .ok (.aload_n 0, 1) := by decide +kernel
theorem dX11_execute_21 : decode cX11_execute 21 = .ok (.iload_n 1, 1) := by decide +kernel
theorem dX11_execute_22 : decode cX11_execute 22 = .ok (.putfield 50, 3) := by decide +kernel
theorem dX11_execute_25 : decode cX11_execute 25 = .ok (.new 195, 3) := by decide +kernel
theorem dX11_execute_28 : decode cX11_execute 28 = .ok (.dup, 1) := by decide +kernel
theorem dX11_execute_29 : decode cX11_execute 29 = .ok (.ldc_w 282, 3) := by decide +kernel
theorem dX11_execute_32 : decode cX11_execute 32 = .ok (.invokespecial 199, 3) := by decide +kernel
theorem dX11_execute_35 : decode cX11_execute 35 = .ok (.athrow, 1) := by decide +kernel
theorem dX11_execute_36 : decode cX11_execute 36 = .ok (.aload_n 0, 1) := by decide +kernel
theorem dX11_execute_37 : decode cX11_execute 37 = .ok (.invokevirtual 284, 3) := by decide +kernel
theorem dX11_execute_40 : decode cX11_execute 40 = .ok (.istore_n 2, 1) := by decide +kernel
theorem dX11_execute_41 : decode cX11_execute 41 = .ok (.aload_n 0, 1) := by decide +kernel
theorem dX11_execute_42 : decode cX11_execute 42 = .ok (.getfield 39, 3) := by decide +kernel
theorem dX11_execute_45 : decode cX11_execute 45 = .ok (.invokevirtual 279, 3) := by decide +kernel
theorem dX11_execute_48 : decode cX11_execute 48 = .ok (.iload_n 2, 1) := by decide +kernel
theorem dX11_execute_49 : decode cX11_execute 49 = .ok (.ifCond .ne 14, 3) := by decide +kernel
theorem dX11_execute_52 : decode cX11_execute 52 = .ok (.new 288, 3) := by decide +kernel
theorem dX11_execute_55 : decode cX11_execute 55 = .ok (.dup, 1) := by decide +kernel
theorem dX11_execute_56 : decode cX11_execute 56 = .ok (.ldc_w 290, 3) := by decide +kernel
theorem dX11_execute_59 : decode cX11_execute 59 = .ok (.invokespecial 292, 3) := by decide +kernel
theorem dX11_execute_62 : decode cX11_execute 62 = .ok (.athrow, 1) := by decide +kernel
theorem dX11_execute_63 : decode cX11_execute 63 = .ok (.aload_n 0, 1) := by decide +kernel
theorem dX11_execute_64 : decode cX11_execute 64 = .ok (.getfield 25, 3) := by decide +kernel
theorem dX11_execute_67 : decode cX11_execute 67 = .ok (.aload_n 0, 1) := by decide +kernel
theorem dX11_execute_68 : decode cX11_execute 68 = .ok (.getfield 10, 3) := by decide +kernel
theorem dX11_execute_71 : decode cX11_execute 71 = .ok (.invokevirtual 293, 3) := by decide +kernel
theorem dX11_execute_74 : decode cX11_execute 74 = .ok (.aload_n 0, 1) := by decide +kernel
theorem dX11_execute_75 : decode cX11_execute 75 = .ok (.getfield 10, 3) := by decide +kernel
theorem dX11_execute_78 : decode cX11_execute 78 = .ok (.aload_n 0, 1) := by decide +kernel
theorem dX11_execute_79 : decode cX11_execute 79 = .ok (.getfield 16, 3) := by decide +kernel
theorem dX11_execute_82 : decode cX11_execute 82 = .ok (.invokevirtual 200, 3) := by decide +kernel
theorem dX11_execute_85 : decode cX11_execute 85 = .ok (.aload_n 0, 1) := by decide +kernel
theorem dX11_execute_86 : decode cX11_execute 86 = .ok (.getfield 39, 3) := by decide +kernel
theorem dX11_execute_89 : decode cX11_execute 89 = .ok (.getfield 296, 3) := by decide +kernel
theorem dX11_execute_92 : decode cX11_execute 92 = .ok (.ireturn, 1) := by decide +kernel
theorem dX11_faultPosition_0 : decode cX11_faultPosition 0 = .ok (.aload_n 0, 1) := by decide +kernel
theorem dX11_faultPosition_1 : decode cX11_faultPosition 1 = .ok (.getfield 50, 3) := by decide +kernel
theorem dX11_faultPosition_4 : decode cX11_faultPosition 4 = .ok (.iconst (-1), 1) := by decide +kernel
theorem dX11_faultPosition_5 : decode cX11_faultPosition 5 = .ok (.if_icmp .ne 14, 3) := by decide +kernel
theorem dX11_faultPosition_8 : decode cX11_faultPosition 8 = .ok (.new 129, 3) := by decide +kernel
theorem dX11_faultPosition_11 : decode cX11_faultPosition 11 = .ok (.dup, 1) := by decide +kernel
theorem dX11_faultPosition_12 : decode cX11_faultPosition 12 = .ok (.ldc_w 299, 3) := by decide +kernel
theorem dX11_faultPosition_15 : decode cX11_faultPosition 15 = .ok (.invokespecial 133, 3) := by decide +kernel
theorem dX11_faultPosition_18 : decode cX11_faultPosition 18 = .ok (.athrow, 1) := by decide +kernel
theorem dX11_faultPosition_19 : decode cX11_faultPosition 19 = .ok (.aload_n 0, 1) := by decide +kernel
theorem dX11_faultPosition_20 : decode cX11_faultPosition 20 = .ok (.getfield 50, 3) := by decide +kernel
theorem dX11_faultPosition_23 : decode cX11_faultPosition 23 = .ok (.ireturn, 1) := by decide +kernel
theorem dX11_writeShelf_0 : decode cX11_writeShelf 0 = .ok (.aload_n 0, 1) := by decide +kernel
theorem dX11_writeShelf_1 : decode cX11_writeShelf 1 = .ok (.iload_n 1, 1) := by decide +kernel
theorem dX11_writeShelf_2 : decode cX11_writeShelf 2 = .ok (.invokevirtual 97, 3) := by decide +kernel
theorem dX11_writeShelf_5 : decode cX11_writeShelf 5 = .ok (.aload_n 0, 1) := by decide +kernel
theorem dX11_writeShelf_6 : decode cX11_writeShelf 6 = .ok (.getfield 46, 3) := by decide +kernel
theorem dX11_writeShelf_9 : decode cX11_writeShelf 9 = .ok (.aload_n 0, 1) := by decide +kernel
theorem dX11_writeShelf_10 : decode cX11_writeShelf 10 = .ok (.getfield 10, 3) := by decide +kernel
theorem dX11_writeShelf_13 : decode cX11_writeShelf 13 = .ok (.iload_n 1, 1) := by decide +kernel
theorem dX11_writeShelf_14 : decode cX11_writeShelf 14 = .ok (.invokevirtual 301, 3) := by decide +kernel
theorem dX11_writeShelf_17 : decode cX11_writeShelf 17 = .ok (.aload_n 0, 1) := by decide +kernel
theorem dX11_writeShelf_18 : decode cX11_writeShelf 18 = .ok (.getfield 46, 3) := by decide +kernel
theorem dX11_writeShelf_21 : decode cX11_writeShelf 21 = .ok (.getfield 305, 3) := by decide +kernel
theorem dX11_writeShelf_24 : decode cX11_writeShelf 24 = .ok (.ireturn, 1) := by decide +kernel
theorem dX11_writePatrol_0 : decode cX11_writePatrol 0 = .ok (.aload_n 0, 1) := by decide +kernel
theorem dX11_writePatrol_1 : decode cX11_writePatrol 1 = .ok (.getfield 46, 3) := by decide +kernel
theorem dX11_writePatrol_4 : decode cX11_writePatrol 4 = .ok (.aload_n 0, 1) := by decide +kernel
theorem dX11_writePatrol_5 : decode cX11_writePatrol 5 = .ok (.getfield 10, 3) := by decide +kernel
theorem dX11_writePatrol_8 : decode cX11_writePatrol 8 = .ok (.getfield 154, 3) := by decide +kernel
theorem dX11_writePatrol_11 : decode cX11_writePatrol 11 = .ok (.invokevirtual 306, 3) := by decide +kernel
theorem dX11_writePatrol_14 : decode cX11_writePatrol 14 = .ok (.aload_n 0, 1) := by decide +kernel
theorem dX11_writePatrol_15 : decode cX11_writePatrol 15 = .ok (.getfield 46, 3) := by decide +kernel
theorem dX11_writePatrol_18 : decode cX11_writePatrol 18 = .ok (.getfield 305, 3) := by decide +kernel
theorem dX11_writePatrol_21 : decode cX11_writePatrol 21 = .ok (.ireturn, 1) := by decide +kernel
theorem dX11_lineCharacter_0 : decode cX11_lineCharacter 0 = .ok (.iload_n 1, 1) := by decide +kernel
theorem dX11_lineCharacter_1 : decode cX11_lineCharacter 1 = .ok (.aload_n 0, 1) := by decide +kernel
theorem dX11_lineCharacter_2 : decode cX11_lineCharacter 2 = .ok (.getfield 46, 3) := by decide +kernel
theorem dX11_lineCharacter_5 : decode cX11_lineCharacter 5 = .ok (.getfield 305, 3) := by decide +kernel
theorem dX11_lineCharacter_8 : decode cX11_lineCharacter 8 = .ok (.invokestatic 310, 3) := by decide +kernel
theorem dX11_lineCharacter_11 : decode cX11_lineCharacter 11 = .ok (.ifCond .eq 12, 3) := by decide +kernel
theorem dX11_lineCharacter_14 : decode cX11_lineCharacter 14 = .ok (.iload_n 1, 1) := by decide +kernel
theorem dX11_lineCharacter_15 : decode cX11_lineCharacter 15 = .ok (.bipush 64, 2) := by decide +kernel
theorem dX11_lineCharacter_17 : decode cX11_lineCharacter 17 = .ok (.invokestatic 310, 3) := by decide +kernel
theorem dX11_lineCharacter_20 : decode cX11_lineCharacter 20 = .ok (.ifCond .ne 14, 3) := by decide +kernel
theorem dX11_lineCharacter_23 : decode cX11_lineCharacter 23 = .ok (.new 165, 3) := by decide +kernel
theorem dX11_lineCharacter_26 : decode cX11_lineCharacter 26 = .ok (.dup, 1) := by decide +kernel
theorem dX11_lineCharacter_27 : decode cX11_lineCharacter 27 = .ok (.ldc_w 313, 3) := by decide +kernel
theorem dX11_lineCharacter_30 : decode cX11_lineCharacter 30 = .ok (.invokespecial 169, 3) := by decide +kernel
theorem dX11_lineCharacter_33 : decode cX11_lineCharacter 33 = .ok (.athrow, 1) := by decide +kernel
theorem dX11_lineCharacter_34 : decode cX11_lineCharacter 34 = .ok (.aload_n 0, 1) := by decide +kernel
theorem dX11_lineCharacter_35 : decode cX11_lineCharacter 35 = .ok (.getfield 46, 3) := by decide +kernel
theorem dX11_lineCharacter_38 : decode cX11_lineCharacter 38 = .ok (.getfield 315, 3) := by decide +kernel
theorem dX11_lineCharacter_41 : decode cX11_lineCharacter 41 = .ok (.iload_n 1, 1) := by decide +kernel
theorem dX11_lineCharacter_42 : decode cX11_lineCharacter 42 = .ok (.caload, 1) := by decide +kernel
theorem dX11_lineCharacter_43 : decode cX11_lineCharacter 43 = .ok (.ireturn, 1) := by decide +kernel
theorem dX11_denial_0 : decode cX11_denial 0 = .ok (.aload_n 0, 1) := by decide +kernel
theorem dX11_denial_1 : decode cX11_denial 1 = .ok (.invokevirtual 319, 3) := by decide +kernel
theorem dX11_denial_4 : decode cX11_denial 4 = .ok (.aload_n 0, 1) := by decide +kernel
theorem dX11_denial_5 : decode cX11_denial 5 = .ok (.getfield 54, 3) := by decide +kernel
theorem dX11_denial_8 : decode cX11_denial 8 = .ok (.ireturn, 1) := by decide +kernel
theorem dX11_denialDetail_0 : decode cX11_denialDetail 0 = .ok (.aload_n 0, 1) := by decide +kernel
theorem dX11_denialDetail_1 : decode cX11_denialDetail 1 = .ok (.invokevirtual 319, 3) := by decide +kernel
theorem dX11_denialDetail_4 : decode cX11_denialDetail 4 = .ok (.aload_n 0, 1) := by decide +kernel
theorem dX11_denialDetail_5 : decode cX11_denialDetail 5 = .ok (.getfield 322, 3) := by decide +kernel
theorem dX11_denialDetail_8 : decode cX11_denialDetail 8 = .ok (.ireturn, 1) := by decide +kernel
theorem dX11_denialCause_0 : decode cX11_denialCause 0 = .ok (.aload_n 0, 1) := by decide +kernel
theorem dX11_denialCause_1 : decode cX11_denialCause 1 = .ok (.getfield 57, 3) := by decide +kernel
theorem dX11_denialCause_4 : decode cX11_denialCause 4 = .ok (.iconst (-1), 1) := by decide +kernel
theorem dX11_denialCause_5 : decode cX11_denialCause 5 = .ok (.if_icmp .ne 14, 3) := by decide +kernel
theorem dX11_denialCause_8 : decode cX11_denialCause 8 = .ok (.new 129, 3) := by decide +kernel
theorem dX11_denialCause_11 : decode cX11_denialCause 11 = .ok (.dup, 1) := by decide +kernel
theorem dX11_denialCause_12 : decode cX11_denialCause 12 = .ok (.ldc_w 325, 3) := by decide +kernel
theorem dX11_denialCause_15 : decode cX11_denialCause 15 = .ok (.invokespecial 133, 3) := by decide +kernel
theorem dX11_denialCause_18 : decode cX11_denialCause 18 = .ok (.athrow, 1) := by decide +kernel
theorem dX11_denialCause_19 : decode cX11_denialCause 19 = .ok (.aload_n 0, 1) := by decide +kernel
theorem dX11_denialCause_20 : decode cX11_denialCause 20 = .ok (.getfield 57, 3) := by decide +kernel
theorem dX11_denialCause_23 : decode cX11_denialCause 23 = .ok (.ireturn, 1) := by decide +kernel
theorem dX11_undo_0 : decode cX11_undo 0 = .ok (.aload_n 0, 1) := by decide +kernel
theorem dX11_undo_1 : decode cX11_undo 1 = .ok (.getfield 25, 3) := by decide +kernel
theorem dX11_undo_4 : decode cX11_undo 4 = .ok (.getfield 327, 3) := by decide +kernel
theorem dX11_undo_7 : decode cX11_undo 7 = .ok (.ifCond .ne 14, 3) := by decide +kernel
theorem dX11_undo_10 : decode cX11_undo 10 = .ok (.new 267, 3) := by decide +kernel
theorem dX11_undo_13 : decode cX11_undo 13 = .ok (.dup, 1) := by decide +kernel
theorem dX11_undo_14 : decode cX11_undo 14 = .ok (.ldc_w 328, 3) := by decide +kernel
theorem dX11_undo_17 : decode cX11_undo 17 = .ok (.invokespecial 271, 3) := by decide +kernel
theorem dX11_undo_20 : decode cX11_undo 20 = .ok (.athrow, 1) := by decide +kernel
theorem dX11_undo_21 : decode cX11_undo 21 = .ok (.aload_n 0, 1) := by decide +kernel
theorem dX11_undo_22 : decode cX11_undo 22 = .ok (.getfield 25, 3) := by decide +kernel
theorem dX11_undo_25 : decode cX11_undo 25 = .ok (.aload_n 0, 1) := by decide +kernel
theorem dX11_undo_26 : decode cX11_undo 26 = .ok (.getfield 10, 3) := by decide +kernel
theorem dX11_undo_29 : decode cX11_undo 29 = .ok (.invokevirtual 330, 3) := by decide +kernel
theorem dX11_undo_32 : decode cX11_undo 32 = .ok (.aload_n 0, 1) := by decide +kernel
theorem dX11_undo_33 : decode cX11_undo 33 = .ok (.getfield 25, 3) := by decide +kernel
theorem dX11_undo_36 : decode cX11_undo 36 = .ok (.getfield 327, 3) := by decide +kernel
theorem dX11_undo_39 : decode cX11_undo 39 = .ok (.ireturn, 1) := by decide +kernel
theorem dX11_undoCount_0 : decode cX11_undoCount 0 = .ok (.aload_n 0, 1) := by decide +kernel
theorem dX11_undoCount_1 : decode cX11_undoCount 1 = .ok (.getfield 25, 3) := by decide +kernel
theorem dX11_undoCount_4 : decode cX11_undoCount 4 = .ok (.getfield 327, 3) := by decide +kernel
theorem dX11_undoCount_7 : decode cX11_undoCount 7 = .ok (.ireturn, 1) := by decide +kernel
theorem dX11_saveSnapshot_0 : decode cX11_saveSnapshot 0 = .ok (.aload_n 0, 1) := by decide +kernel
theorem dX11_saveSnapshot_1 : decode cX11_saveSnapshot 1 = .ok (.getfield 19, 3) := by decide +kernel
theorem dX11_saveSnapshot_4 : decode cX11_saveSnapshot 4 = .ok (.aload_n 0, 1) := by decide +kernel
theorem dX11_saveSnapshot_5 : decode cX11_saveSnapshot 5 = .ok (.getfield 10, 3) := by decide +kernel
theorem dX11_saveSnapshot_8 : decode cX11_saveSnapshot 8 = .ok (.invokevirtual 200, 3) := by decide +kernel
theorem dX11_saveSnapshot_11 : decode cX11_saveSnapshot 11 = .ok (.aload_n 0, 1) := by decide +kernel
theorem dX11_saveSnapshot_12 : decode cX11_saveSnapshot 12 = .ok (.iconst 1, 1) := by decide +kernel
theorem dX11_saveSnapshot_13 : decode cX11_saveSnapshot 13 = .ok (.putfield 333, 3) := by decide +kernel
theorem dX11_saveSnapshot_16 : decode cX11_saveSnapshot 16 = .ok (.aload_n 0, 1) := by decide +kernel
theorem dX11_saveSnapshot_17 : decode cX11_saveSnapshot 17 = .ok (.getfield 10, 3) := by decide +kernel
theorem dX11_saveSnapshot_20 : decode cX11_saveSnapshot 20 = .ok (.getfield 85, 3) := by decide +kernel
theorem dX11_saveSnapshot_23 : decode cX11_saveSnapshot 23 = .ok (.getfield 89, 3) := by decide +kernel
theorem dX11_saveSnapshot_26 : decode cX11_saveSnapshot 26 = .ok (.ireturn, 1) := by decide +kernel
theorem dX11_restoreSnapshot_0 : decode cX11_restoreSnapshot 0 = .ok (.aload_n 0, 1) := by decide +kernel
theorem dX11_restoreSnapshot_1 : decode cX11_restoreSnapshot 1 = .ok (.getfield 333, 3) := by decide +kernel
theorem dX11_restoreSnapshot_4 : decode cX11_restoreSnapshot 4 = .ok (.ifCond .ne 14, 3) := by decide +kernel
theorem dX11_restoreSnapshot_7 : decode cX11_restoreSnapshot 7 = .ok (.new 267, 3) := by decide +kernel
theorem dX11_restoreSnapshot_10 : decode cX11_restoreSnapshot 10 = .ok (.dup, 1) := by decide +kernel
theorem dX11_restoreSnapshot_11 : decode cX11_restoreSnapshot 11 = .ok (.ldc_w 337, 3) := by decide +kernel
theorem dX11_restoreSnapshot_14 : decode cX11_restoreSnapshot 14 = .ok (.invokespecial 271, 3) := by decide +kernel
theorem dX11_restoreSnapshot_17 : decode cX11_restoreSnapshot 17 = .ok (.athrow, 1) := by decide +kernel
theorem dX11_restoreSnapshot_18 : decode cX11_restoreSnapshot 18 = .ok (.aload_n 0, 1) := by decide +kernel
theorem dX11_restoreSnapshot_19 : decode cX11_restoreSnapshot 19 = .ok (.getfield 10, 3) := by decide +kernel
theorem dX11_restoreSnapshot_22 : decode cX11_restoreSnapshot 22 = .ok (.aload_n 0, 1) := by decide +kernel
theorem dX11_restoreSnapshot_23 : decode cX11_restoreSnapshot 23 = .ok (.getfield 19, 3) := by decide +kernel
theorem dX11_restoreSnapshot_26 : decode cX11_restoreSnapshot 26 = .ok (.invokevirtual 200, 3) := by decide +kernel
theorem dX11_restoreSnapshot_29 : decode cX11_restoreSnapshot 29 = .ok (.aload_n 0, 1) := by decide +kernel
theorem dX11_restoreSnapshot_30 : decode cX11_restoreSnapshot 30 = .ok (.getfield 25, 3) := by decide +kernel
theorem dX11_restoreSnapshot_33 : decode cX11_restoreSnapshot 33 = .ok (.invokevirtual 339, 3) := by decide +kernel
theorem dX11_restoreSnapshot_36 : decode cX11_restoreSnapshot 36 = .ok (.aload_n 0, 1) := by decide +kernel
theorem dX11_restoreSnapshot_37 : decode cX11_restoreSnapshot 37 = .ok (.getfield 10, 3) := by decide +kernel
theorem dX11_restoreSnapshot_40 : decode cX11_restoreSnapshot 40 = .ok (.getfield 85, 3) := by decide +kernel
theorem dX11_restoreSnapshot_43 : decode cX11_restoreSnapshot 43 = .ok (.getfield 89, 3) := by decide +kernel
theorem dX11_restoreSnapshot_46 : decode cX11_restoreSnapshot 46 = .ok (.ireturn, 1) := by decide +kernel
theorem dX11_change_0 : decode cX11_change 0 = .ok (.aload_n 0, 1) := by decide +kernel
theorem dX11_change_1 : decode cX11_change 1 = .ok (.getfield 10, 3) := by decide +kernel
theorem dX11_change_4 : decode cX11_change 4 = .ok (.aload_n 1, 1) := by decide +kernel
theorem dX11_change_5 : decode cX11_change 5 = .ok (.iload_n 2, 1) := by decide +kernel
theorem dX11_change_6 : decode cX11_change 6 = .ok (.iload_n 3, 1) := by decide +kernel
theorem dX11_change_7 : decode cX11_change 7 = .ok (.invokevirtual 340, 3) := by decide +kernel
theorem dX11_change_10 : decode cX11_change 10 = .ok (.astore 4, 2) := by decide +kernel
theorem dX11_change_12 : decode cX11_change 12 = .ok (.aload 4, 2) := by decide +kernel
theorem dX11_change_14 : decode cX11_change 14 = .ok (.getstatic 344, 3) := by decide +kernel
theorem dX11_change_17 : decode cX11_change 17 = .ok (.if_acmp .ne 14, 3) := by decide +kernel
theorem dX11_change_20 : decode cX11_change 20 = .ok (.new 165, 3) := by decide +kernel
theorem dX11_change_23 : decode cX11_change 23 = .ok (.dup, 1) := by decide +kernel
theorem dX11_change_24 : decode cX11_change 24 = .ok (.ldc_w 350, 3) := by decide +kernel
theorem dX11_change_27 : decode cX11_change 27 = .ok (.invokespecial 169, 3) := by decide +kernel
theorem dX11_change_30 : decode cX11_change 30 = .ok (.athrow, 1) := by decide +kernel
theorem dX11_change_31 : decode cX11_change 31 = .ok (.aload 4, 2) := by decide +kernel
theorem dX11_change_33 : decode cX11_change 33 = .ok (.getstatic 352, 3) := by decide +kernel
theorem dX11_change_36 : decode cX11_change 36 = .ok (.if_acmp .ne 14, 3) := by decide +kernel
theorem dX11_change_39 : decode cX11_change 39 = .ok (.new 195, 3) := by decide +kernel
theorem dX11_change_42 : decode cX11_change 42 = .ok (.dup, 1) := by decide +kernel
theorem dX11_change_43 : decode cX11_change 43 = .ok (.ldc_w 355, 3) := by decide +kernel
theorem dX11_change_46 : decode cX11_change 46 = .ok (.invokespecial 199, 3) := by decide +kernel
theorem dX11_change_49 : decode cX11_change 49 = .ok (.athrow, 1) := by decide +kernel
theorem dX11_change_50 : decode cX11_change 50 = .ok (.aload 4, 2) := by decide +kernel
theorem dX11_change_52 : decode cX11_change 52 = .ok (.getstatic 357, 3) := by decide +kernel
theorem dX11_change_55 : decode cX11_change 55 = .ok (.if_acmp .eq 35, 3) := by decide +kernel
theorem dX11_change_58 : decode cX11_change 58 = .ok (.aload_n 0, 1) := by decide +kernel
theorem dX11_change_59 : decode cX11_change 59 = .ok (.aload 4, 2) := by decide +kernel
theorem dX11_change_61 : decode cX11_change 61 = .ok (.getfield 360, 3) := by decide +kernel
theorem dX11_change_64 : decode cX11_change 64 = .ok (.aload_n 0, 1) := by decide +kernel
theorem dX11_change_65 : decode cX11_change 65 = .ok (.getfield 10, 3) := by decide +kernel
theorem dX11_change_68 : decode cX11_change 68 = .ok (.aload 4, 2) := by decide +kernel
theorem dX11_change_70 : decode cX11_change 70 = .ok (.aload_n 1, 1) := by decide +kernel
theorem dX11_change_71 : decode cX11_change 71 = .ok (.iload_n 2, 1) := by decide +kernel
theorem dX11_change_72 : decode cX11_change 72 = .ok (.invokevirtual 363, 3) := by decide +kernel
theorem dX11_change_75 : decode cX11_change 75 = .ok (.iconst (-1), 1) := by decide +kernel
theorem dX11_change_76 : decode cX11_change 76 = .ok (.invokevirtual 367, 3) := by decide +kernel
theorem dX11_change_79 : decode cX11_change 79 = .ok (.new 288, 3) := by decide +kernel
theorem dX11_change_82 : decode cX11_change 82 = .ok (.dup, 1) := by decide +kernel
theorem dX11_change_83 : decode cX11_change 83 = .ok (.ldc_w 371, 3) := by decide +kernel
theorem dX11_change_86 : decode cX11_change 86 = .ok (.invokespecial 292, 3) := by decide +kernel
theorem dX11_change_89 : decode cX11_change 89 = .ok (.athrow, 1) := by decide +kernel
theorem dX11_change_90 : decode cX11_change 90 = .ok (.aload_n 0, 1) := by decide +kernel
theorem dX11_change_91 : decode cX11_change 91 = .ok (.getfield 25, 3) := by decide +kernel
theorem dX11_change_94 : decode cX11_change 94 = .ok (.aload_n 0, 1) := by decide +kernel
theorem dX11_change_95 : decode cX11_change 95 = .ok (.getfield 10, 3) := by decide +kernel
theorem dX11_change_98 : decode cX11_change 98 = .ok (.invokevirtual 293, 3) := by decide +kernel
theorem dX11_change_101 : decode cX11_change 101 = .ok (.aload_n 0, 1) := by decide +kernel
theorem dX11_change_102 : decode cX11_change 102 = .ok (.getfield 10, 3) := by decide +kernel
theorem dX11_change_105 : decode cX11_change 105 = .ok (.aload_n 1, 1) := by decide +kernel
theorem dX11_change_106 : decode cX11_change 106 = .ok (.iload_n 2, 1) := by decide +kernel
theorem dX11_change_107 : decode cX11_change 107 = .ok (.iload_n 3, 1) := by decide +kernel
theorem dX11_change_108 : decode cX11_change 108 = .ok (.invokevirtual 373, 3) := by decide +kernel
theorem dX11_change_111 : decode cX11_change 111 = .ok (.ireturn, 1) := by decide +kernel
theorem dX11_tryCommands_0 : decode cX11_tryCommands 0 = .ok (.aload_n 0, 1) := by decide +kernel
theorem dX11_tryCommands_1 : decode cX11_tryCommands 1 = .ok (.getfield 16, 3) := by decide +kernel
theorem dX11_tryCommands_4 : decode cX11_tryCommands 4 = .ok (.aload_n 0, 1) := by decide +kernel
theorem dX11_tryCommands_5 : decode cX11_tryCommands 5 = .ok (.getfield 10, 3) := by decide +kernel
theorem dX11_tryCommands_8 : decode cX11_tryCommands 8 = .ok (.invokevirtual 200, 3) := by decide +kernel
theorem dX11_tryCommands_11 : decode cX11_tryCommands 11 = .ok (.aload_n 0, 1) := by decide +kernel
theorem dX11_tryCommands_12 : decode cX11_tryCommands 12 = .ok (.getfield 39, 3) := by decide +kernel
theorem dX11_tryCommands_15 : decode cX11_tryCommands 15 = .ok (.invokevirtual 376, 3) := by decide +kernel
theorem dX11_tryCommands_18 : decode cX11_tryCommands 18 = .ok (.iconst 0, 1) := by decide +kernel
theorem dX11_tryCommands_19 : decode cX11_tryCommands 19 = .ok (.istore_n 1, 1) := by decide +kernel
theorem dX11_tryCommands_20 : decode cX11_tryCommands 20 = .ok (.iload_n 1, 1) := by decide +kernel
theorem dX11_tryCommands_21 : decode cX11_tryCommands 21 = .ok (.aload_n 0, 1) := by decide +kernel
theorem dX11_tryCommands_22 : decode cX11_tryCommands 22 = .ok (.getfield 39, 3) := by decide +kernel
theorem dX11_tryCommands_25 : decode cX11_tryCommands 25 = .ok (.getfield 296, 3) := by decide +kernel
theorem dX11_tryCommands_28 : decode cX11_tryCommands 28 = .ok (.if_icmp .ge 94, 3) := by decide +kernel
theorem dX11_tryCommands_31 : decode cX11_tryCommands 31 = .ok (.aload_n 0, 1) := by decide +kernel
theorem dX11_tryCommands_32 : decode cX11_tryCommands 32 = .ok (.getfield 39, 3) := by decide +kernel
theorem dX11_tryCommands_35 : decode cX11_tryCommands 35 = .ok (.invokevirtual 379, 3) := by decide +kernel
theorem dX11_tryCommands_38 : decode cX11_tryCommands 38 = .ok (.aload_n 0, 1) := by decide +kernel
theorem dX11_tryCommands_39 : decode cX11_tryCommands 39 = .ok (.getfield 16, 3) := by decide +kernel
theorem dX11_tryCommands_42 : decode cX11_tryCommands 42 = .ok (.aload_n 0, 1) := by decide +kernel
theorem dX11_tryCommands_43 : decode cX11_tryCommands 43 = .ok (.getfield 39, 3) := by decide +kernel
theorem dX11_tryCommands_46 : decode cX11_tryCommands 46 = .ok (.getfield 382, 3) := by decide +kernel
theorem dX11_tryCommands_49 : decode cX11_tryCommands 49 = .ok (.aload_n 0, 1) := by decide +kernel
theorem dX11_tryCommands_50 : decode cX11_tryCommands 50 = .ok (.getfield 39, 3) := by decide +kernel
theorem dX11_tryCommands_53 : decode cX11_tryCommands 53 = .ok (.getfield 385, 3) := by decide +kernel
theorem dX11_tryCommands_56 : decode cX11_tryCommands 56 = .ok (.aload_n 0, 1) := by decide +kernel
theorem dX11_tryCommands_57 : decode cX11_tryCommands 57 = .ok (.getfield 39, 3) := by decide +kernel
theorem dX11_tryCommands_60 : decode cX11_tryCommands 60 = .ok (.getfield 388, 3) := by decide +kernel
theorem dX11_tryCommands_63 : decode cX11_tryCommands 63 = .ok (.invokevirtual 340, 3) := by decide +kernel
theorem dX11_tryCommands_66 : decode cX11_tryCommands 66 = .ok (.astore_n 2, 1) := by decide +kernel
theorem dX11_tryCommands_67 : decode cX11_tryCommands 67 = .ok (.aload_n 2, 1) := by decide +kernel
theorem dX11_tryCommands_68 : decode cX11_tryCommands 68 = .ok (.getstatic 357, 3) := by decide +kernel
theorem dX11_tryCommands_71 : decode cX11_tryCommands 71 = .ok (.if_acmp .eq 16, 3) := by decide +kernel
theorem dX11_tryCommands_74 : decode cX11_tryCommands 74 = .ok (.aload_n 0, 1) := by decide +kernel
theorem dX11_tryCommands_75 : decode cX11_tryCommands 75 = .ok (.bipush 6, 2) := by decide +kernel
theorem dX11_tryCommands_77 : decode cX11_tryCommands 77 = .ok (.iload_n 1, 1) := by decide +kernel
theorem dX11_tryCommands_78 : decode cX11_tryCommands 78 = .ok (.aload_n 2, 1) := by decide +kernel
theorem dX11_tryCommands_79 : decode cX11_tryCommands 79 = .ok (.getfield 360, 3) := by decide +kernel
theorem dX11_tryCommands_82 : decode cX11_tryCommands 82 = .ok (.invokevirtual 367, 3) := by decide +kernel
theorem dX11_tryCommands_85 : decode cX11_tryCommands 85 = .ok (.iconst 0, 1) := by decide +kernel
theorem dX11_tryCommands_86 : decode cX11_tryCommands 86 = .ok (.ireturn, 1) := by decide +kernel
theorem dX11_tryCommands_87 : decode cX11_tryCommands 87 = .ok (.aload_n 0, 1) := by decide +kernel
theorem dX11_tryCommands_88 : decode cX11_tryCommands 88 = .ok (.getfield 16, 3) := by decide +kernel
theorem dX11_tryCommands_91 : decode cX11_tryCommands 91 = .ok (.aload_n 0, 1) := by decide +kernel
theorem dX11_tryCommands_92 : decode cX11_tryCommands 92 = .ok (.getfield 39, 3) := by decide +kernel
theorem dX11_tryCommands_95 : decode cX11_tryCommands 95 = .ok (.getfield 382, 3) := by decide +kernel
theorem dX11_tryCommands_98 : decode cX11_tryCommands 98 = .ok (.aload_n 0, 1) := by decide +kernel
theorem dX11_tryCommands_99 : decode cX11_tryCommands 99 = .ok (.getfield 39, 3) := by decide +kernel
theorem dX11_tryCommands_102 : decode cX11_tryCommands 102 = .ok (.getfield 385, 3) := by decide +kernel
theorem dX11_tryCommands_105 : decode cX11_tryCommands 105 = .ok (.aload_n 0, 1) := by decide +kernel
theorem dX11_tryCommands_106 : decode cX11_tryCommands 106 = .ok (.getfield 39, 3) := by decide +kernel
theorem dX11_tryCommands_109 : decode cX11_tryCommands 109 = .ok (.getfield 388, 3) := by decide +kernel
theorem dX11_tryCommands_112 : decode cX11_tryCommands 112 = .ok (.invokevirtual 373, 3) := by decide +kernel
theorem dX11_tryCommands_115 : decode cX11_tryCommands 115 = .ok (.pop, 1) := by decide +kernel
theorem dX11_tryCommands_116 : decode cX11_tryCommands 116 = .ok (.iinc 1 1, 3) := by decide +kernel
theorem dX11_tryCommands_119 : decode cX11_tryCommands 119 = .ok (.goto (-99), 3) := by decide +kernel
theorem dX11_tryCommands_122 : decode cX11_tryCommands 122 = .ok (.iconst 1, 1) := by decide +kernel
theorem dX11_tryCommands_123 : decode cX11_tryCommands 123 = .ok (.ireturn, 1) := by decide +kernel
theorem dX11_keepDenial_0 : decode cX11_keepDenial 0 = .ok (.aload_n 0, 1) := by decide +kernel
theorem dX11_keepDenial_1 : decode cX11_keepDenial 1 = .ok (.iload_n 1, 1) := by decide +kernel
theorem dX11_keepDenial_2 : decode cX11_keepDenial 2 = .ok (.putfield 54, 3) := by decide +kernel
theorem dX11_keepDenial_5 : decode cX11_keepDenial 5 = .ok (.aload_n 0, 1) := by decide +kernel
theorem dX11_keepDenial_6 : decode cX11_keepDenial 6 = .ok (.iload_n 2, 1) := by decide +kernel
theorem dX11_keepDenial_7 : decode cX11_keepDenial 7 = .ok (.putfield 322, 3) := by decide +kernel
theorem dX11_keepDenial_10 : decode cX11_keepDenial 10 = .ok (.aload_n 0, 1) := by decide +kernel
theorem dX11_keepDenial_11 : decode cX11_keepDenial 11 = .ok (.iload_n 3, 1) := by decide +kernel
theorem dX11_keepDenial_12 : decode cX11_keepDenial 12 = .ok (.putfield 57, 3) := by decide +kernel
theorem dX11_keepDenial_15 : decode cX11_keepDenial 15 = .ok (.return_, 1) := by decide +kernel
theorem dX11_requireShelf_0 : decode cX11_requireShelf 0 = .ok (.aload_n 0, 1) := by decide +kernel
theorem dX11_requireShelf_1 : decode cX11_requireShelf 1 = .ok (.getfield 10, 3) := by decide +kernel
theorem dX11_requireShelf_4 : decode cX11_requireShelf 4 = .ok (.getfield 85, 3) := by decide +kernel
theorem dX11_requireShelf_7 : decode cX11_requireShelf 7 = .ok (.iload_n 1, 1) := by decide +kernel
theorem dX11_requireShelf_8 : decode cX11_requireShelf 8 = .ok (.invokevirtual 391, 3) := by decide +kernel
theorem dX11_requireShelf_11 : decode cX11_requireShelf 11 = .ok (.ifCond .ne 14, 3) := by decide +kernel
theorem dX11_requireShelf_14 : decode cX11_requireShelf 14 = .ok (.new 165, 3) := by decide +kernel
theorem dX11_requireShelf_17 : decode cX11_requireShelf 17 = .ok (.dup, 1) := by decide +kernel
theorem dX11_requireShelf_18 : decode cX11_requireShelf 18 = .ok (.ldc_w 394, 3) := by decide +kernel
theorem dX11_requireShelf_21 : decode cX11_requireShelf 21 = .ok (.invokespecial 169, 3) := by decide +kernel
theorem dX11_requireShelf_24 : decode cX11_requireShelf 24 = .ok (.athrow, 1) := by decide +kernel
theorem dX11_requireShelf_25 : decode cX11_requireShelf 25 = .ok (.return_, 1) := by decide +kernel
theorem dX11_requireAnyShelf_0 : decode cX11_requireAnyShelf 0 = .ok (.aload_n 0, 1) := by decide +kernel
theorem dX11_requireAnyShelf_1 : decode cX11_requireAnyShelf 1 = .ok (.getfield 10, 3) := by decide +kernel
theorem dX11_requireAnyShelf_4 : decode cX11_requireAnyShelf 4 = .ok (.getfield 85, 3) := by decide +kernel
theorem dX11_requireAnyShelf_7 : decode cX11_requireAnyShelf 7 = .ok (.getfield 89, 3) := by decide +kernel
theorem dX11_requireAnyShelf_10 : decode cX11_requireAnyShelf 10 = .ok (.ifCond .ne 14, 3) := by decide +kernel
theorem dX11_requireAnyShelf_13 : decode cX11_requireAnyShelf 13 = .ok (.new 129, 3) := by decide +kernel
theorem dX11_requireAnyShelf_16 : decode cX11_requireAnyShelf 16 = .ok (.dup, 1) := by decide +kernel
theorem dX11_requireAnyShelf_17 : decode cX11_requireAnyShelf 17 = .ok (.ldc_w 259, 3) := by decide +kernel
theorem dX11_requireAnyShelf_20 : decode cX11_requireAnyShelf 20 = .ok (.invokespecial 133, 3) := by decide +kernel
theorem dX11_requireAnyShelf_23 : decode cX11_requireAnyShelf 23 = .ok (.athrow, 1) := by decide +kernel
theorem dX11_requireAnyShelf_24 : decode cX11_requireAnyShelf 24 = .ok (.return_, 1) := by decide +kernel
theorem dX11_requireMouse_0 : decode cX11_requireMouse 0 = .ok (.iload_n 1, 1) := by decide +kernel
theorem dX11_requireMouse_1 : decode cX11_requireMouse 1 = .ok (.aload_n 0, 1) := by decide +kernel
theorem dX11_requireMouse_2 : decode cX11_requireMouse 2 = .ok (.getfield 10, 3) := by decide +kernel
theorem dX11_requireMouse_5 : decode cX11_requireMouse 5 = .ok (.getfield 219, 3) := by decide +kernel
theorem dX11_requireMouse_8 : decode cX11_requireMouse 8 = .ok (.getfield 223, 3) := by decide +kernel
theorem dX11_requireMouse_11 : decode cX11_requireMouse 11 = .ok (.invokestatic 310, 3) := by decide +kernel
theorem dX11_requireMouse_14 : decode cX11_requireMouse 14 = .ok (.ifCond .ne 14, 3) := by decide +kernel
theorem dX11_requireMouse_17 : decode cX11_requireMouse 17 = .ok (.new 165, 3) := by decide +kernel
theorem dX11_requireMouse_20 : decode cX11_requireMouse 20 = .ok (.dup, 1) := by decide +kernel
theorem dX11_requireMouse_21 : decode cX11_requireMouse 21 = .ok (.ldc_w 396, 3) := by decide +kernel
theorem dX11_requireMouse_24 : decode cX11_requireMouse 24 = .ok (.invokespecial 169, 3) := by decide +kernel
theorem dX11_requireMouse_27 : decode cX11_requireMouse 27 = .ok (.athrow, 1) := by decide +kernel
theorem dX11_requireMouse_28 : decode cX11_requireMouse 28 = .ok (.return_, 1) := by decide +kernel
theorem dX11_requireDenial_0 : decode cX11_requireDenial 0 = .ok (.aload_n 0, 1) := by decide +kernel
theorem dX11_requireDenial_1 : decode cX11_requireDenial 1 = .ok (.getfield 54, 3) := by decide +kernel
theorem dX11_requireDenial_4 : decode cX11_requireDenial 4 = .ok (.iconst (-1), 1) := by decide +kernel
theorem dX11_requireDenial_5 : decode cX11_requireDenial 5 = .ok (.if_icmp .ne 14, 3) := by decide +kernel
theorem dX11_requireDenial_8 : decode cX11_requireDenial 8 = .ok (.new 129, 3) := by decide +kernel
theorem dX11_requireDenial_11 : decode cX11_requireDenial 11 = .ok (.dup, 1) := by decide +kernel
theorem dX11_requireDenial_12 : decode cX11_requireDenial 12 = .ok (.ldc_w 398, 3) := by decide +kernel
theorem dX11_requireDenial_15 : decode cX11_requireDenial 15 = .ok (.invokespecial 133, 3) := by decide +kernel
theorem dX11_requireDenial_18 : decode cX11_requireDenial 18 = .ok (.athrow, 1) := by decide +kernel
theorem dX11_requireDenial_19 : decode cX11_requireDenial 19 = .ok (.return_, 1) := by decide +kernel
theorem dX11_isWithin_0 : decode cX11_isWithin 0 = .ok (.iload_n 0, 1) := by decide +kernel
theorem dX11_isWithin_1 : decode cX11_isWithin 1 = .ok (.ifCond .lt 12, 3) := by decide +kernel
theorem dX11_isWithin_4 : decode cX11_isWithin 4 = .ok (.iload_n 0, 1) := by decide +kernel
theorem dX11_isWithin_5 : decode cX11_isWithin 5 = .ok (.iload_n 1, 1) := by decide +kernel
theorem dX11_isWithin_6 : decode cX11_isWithin 6 = .ok (.if_icmp .ge 7, 3) := by decide +kernel
theorem dX11_isWithin_9 : decode cX11_isWithin 9 = .ok (.iconst 1, 1) := by decide +kernel
theorem dX11_isWithin_10 : decode cX11_isWithin 10 = .ok (.goto 4, 3) := by decide +kernel
theorem dX11_isWithin_13 : decode cX11_isWithin 13 = .ok (.iconst 0, 1) := by decide +kernel
theorem dX11_isWithin_14 : decode cX11_isWithin 14 = .ok (.ireturn, 1) := by decide +kernel
theorem dX11_at_0 : decode cX11_at 0 = .ok (.iload_n 1, 1) := by decide +kernel
theorem dX11_at_1 : decode cX11_at 1 = .ok (.ifCond .lt 15, 3) := by decide +kernel
theorem dX11_at_4 : decode cX11_at 4 = .ok (.iload_n 1, 1) := by decide +kernel
theorem dX11_at_5 : decode cX11_at 5 = .ok (.aload_n 0, 1) := by decide +kernel
theorem dX11_at_6 : decode cX11_at 6 = .ok (.arraylength, 1) := by decide +kernel
theorem dX11_at_7 : decode cX11_at 7 = .ok (.if_icmp .ge 9, 3) := by decide +kernel
theorem dX11_at_10 : decode cX11_at 10 = .ok (.aload_n 0, 1) := by decide +kernel
theorem dX11_at_11 : decode cX11_at 11 = .ok (.iload_n 1, 1) := by decide +kernel
theorem dX11_at_12 : decode cX11_at 12 = .ok (.iaload, 1) := by decide +kernel
theorem dX11_at_13 : decode cX11_at 13 = .ok (.goto 4, 3) := by decide +kernel
theorem dX11_at_16 : decode cX11_at 16 = .ok (.iconst 0, 1) := by decide +kernel
theorem dX11_at_17 : decode cX11_at 17 = .ok (.ireturn, 1) := by decide +kernel
theorem dX11_put_0 : decode cX11_put 0 = .ok (.iload_n 1, 1) := by decide +kernel
theorem dX11_put_1 : decode cX11_put 1 = .ok (.ifCond .lt 13, 3) := by decide +kernel
theorem dX11_put_4 : decode cX11_put 4 = .ok (.iload_n 1, 1) := by decide +kernel
theorem dX11_put_5 : decode cX11_put 5 = .ok (.aload_n 0, 1) := by decide +kernel
theorem dX11_put_6 : decode cX11_put 6 = .ok (.arraylength, 1) := by decide +kernel
theorem dX11_put_7 : decode cX11_put 7 = .ok (.if_icmp .ge 7, 3) := by decide +kernel
theorem dX11_put_10 : decode cX11_put 10 = .ok (.aload_n 0, 1) := by decide +kernel
theorem dX11_put_11 : decode cX11_put 11 = .ok (.iload_n 1, 1) := by decide +kernel
theorem dX11_put_12 : decode cX11_put 12 = .ok (.iload_n 2, 1) := by decide +kernel
theorem dX11_put_13 : decode cX11_put 13 = .ok (.iastore, 1) := by decide +kernel
theorem dX11_put_14 : decode cX11_put 14 = .ok (.return_, 1) := by decide +kernel
theorem dX11_copyRow_0 : decode cX11_copyRow 0 = .ok (.aload_n 0, 1) := by decide +kernel
theorem dX11_copyRow_1 : decode cX11_copyRow 1 = .ok (.iconst 0, 1) := by decide +kernel
theorem dX11_copyRow_2 : decode cX11_copyRow 2 = .ok (.aload_n 1, 1) := by decide +kernel
theorem dX11_copyRow_3 : decode cX11_copyRow 3 = .ok (.iconst 0, 1) := by decide +kernel
theorem dX11_copyRow_4 : decode cX11_copyRow 4 = .ok (.aload_n 0, 1) := by decide +kernel
theorem dX11_copyRow_5 : decode cX11_copyRow 5 = .ok (.arraylength, 1) := by decide +kernel
theorem dX11_copyRow_6 : decode cX11_copyRow 6 = .ok (.aload_n 1, 1) := by decide +kernel
theorem dX11_copyRow_7 : decode cX11_copyRow 7 = .ok (.arraylength, 1) := by decide +kernel
theorem dX11_copyRow_8 : decode cX11_copyRow 8 = .ok (.invokestatic 400, 3) := by decide +kernel
theorem dX11_copyRow_11 : decode cX11_copyRow 11 = .ok (.invokestatic 405, 3) := by decide +kernel
theorem dX11_copyRow_14 : decode cX11_copyRow 14 = .ok (.return_, 1) := by decide +kernel
theorem dX11_holds_0 : decode cX11_holds 0 = .ok (.iload_n 0, 1) := by decide +kernel
theorem dX11_holds_1 : decode cX11_holds 1 = .ok (.iload_n 1, 1) := by decide +kernel
theorem dX11_holds_2 : decode cX11_holds 2 = .ok (.ishr, 1) := by decide +kernel
theorem dX11_holds_3 : decode cX11_holds 3 = .ok (.iconst 1, 1) := by decide +kernel
theorem dX11_holds_4 : decode cX11_holds 4 = .ok (.iand, 1) := by decide +kernel
theorem dX11_holds_5 : decode cX11_holds 5 = .ok (.iconst 1, 1) := by decide +kernel
theorem dX11_holds_6 : decode cX11_holds 6 = .ok (.if_icmp .ne 7, 3) := by decide +kernel
theorem dX11_holds_9 : decode cX11_holds 9 = .ok (.iconst 1, 1) := by decide +kernel
theorem dX11_holds_10 : decode cX11_holds 10 = .ok (.goto 4, 3) := by decide +kernel
theorem dX11_holds_13 : decode cX11_holds 13 = .ok (.iconst 0, 1) := by decide +kernel
theorem dX11_holds_14 : decode cX11_holds 14 = .ok (.ireturn, 1) := by decide +kernel
theorem dX11_bit_0 : decode cX11_bit 0 = .ok (.iconst 1, 1) := by decide +kernel
theorem dX11_bit_1 : decode cX11_bit 1 = .ok (.iload_n 0, 1) := by decide +kernel
theorem dX11_bit_2 : decode cX11_bit 2 = .ok (.ishl, 1) := by decide +kernel
theorem dX11_bit_3 : decode cX11_bit 3 = .ok (.ireturn, 1) := by decide +kernel
theorem dX12_thrown_0 : decode cX12_thrown 0 = .ok (.aload_n 0, 1) := by decide +kernel
theorem dX12_thrown_1 : decode cX12_thrown 1 = .ok (.getfield 1, 3) := by decide +kernel
theorem dX12_thrown_4 : decode cX12_thrown 4 = .ok (.ireturn, 1) := by decide +kernel
theorem dX12_fails_0 : decode cX12_fails 0 = .ok (.aload_n 0, 1) := by decide +kernel
theorem dX12_fails_1 : decode cX12_fails 1 = .ok (.iload_n 1, 1) := by decide +kernel
theorem dX12_fails_2 : decode cX12_fails 2 = .ok (.putfield 1, 3) := by decide +kernel
theorem dX12_fails_5 : decode cX12_fails 5 = .ok (.iconst 0, 1) := by decide +kernel
theorem dX12_fails_6 : decode cX12_fails 6 = .ok (.ireturn, 1) := by decide +kernel
theorem dX12_isBetween_0 : decode cX12_isBetween 0 = .ok (.iload_n 1, 1) := by decide +kernel
theorem dX12_isBetween_1 : decode cX12_isBetween 1 = .ok (.iload_n 0, 1) := by decide +kernel
theorem dX12_isBetween_2 : decode cX12_isBetween 2 = .ok (.if_icmp .gt 12, 3) := by decide +kernel
theorem dX12_isBetween_5 : decode cX12_isBetween 5 = .ok (.iload_n 0, 1) := by decide +kernel
theorem dX12_isBetween_6 : decode cX12_isBetween 6 = .ok (.iload_n 2, 1) := by decide +kernel
theorem dX12_isBetween_7 : decode cX12_isBetween 7 = .ok (.if_icmp .gt 7, 3) := by decide +kernel
theorem dX12_isBetween_10 : decode cX12_isBetween 10 = .ok (.iconst 1, 1) := by decide +kernel
theorem dX12_isBetween_11 : decode cX12_isBetween 11 = .ok (.goto 4, 3) := by decide +kernel
theorem dX12_isBetween_14 : decode cX12_isBetween 14 = .ok (.iconst 0, 1) := by decide +kernel
theorem dX12_isBetween_15 : decode cX12_isBetween 15 = .ok (.ireturn, 1) := by decide +kernel
theorem dX12_denies_0 : decode cX12_denies 0 = .ok (.aload_n 0, 1) := by decide +kernel
theorem dX12_denies_1 : decode cX12_denies 1 = .ok (.iload_n 1, 1) := by decide +kernel
theorem dX12_denies_2 : decode cX12_denies 2 = .ok (.putfield 7, 3) := by decide +kernel
theorem dX12_denies_5 : decode cX12_denies 5 = .ok (.aload_n 0, 1) := by decide +kernel
theorem dX12_denies_6 : decode cX12_denies 6 = .ok (.iload_n 2, 1) := by decide +kernel
theorem dX12_denies_7 : decode cX12_denies 7 = .ok (.putfield 10, 3) := by decide +kernel
theorem dX12_denies_10 : decode cX12_denies 10 = .ok (.iload_n 3, 1) := by decide +kernel
theorem dX12_denies_11 : decode cX12_denies 11 = .ok (.ireturn, 1) := by decide +kernel
theorem dX12_refuses_0 : decode cX12_refuses 0 = .ok (.aload_n 0, 1) := by decide +kernel
theorem dX12_refuses_1 : decode cX12_refuses 1 = .ok (.getfield 7, 3) := by decide +kernel
theorem dX12_refuses_4 : decode cX12_refuses 4 = .ok (.ifCond .le 24, 3) := by decide +kernel
theorem dX12_refuses_7 : decode cX12_refuses 7 = .ok (.aload_n 0, 1) := by decide +kernel
theorem dX12_refuses_8 : decode cX12_refuses 8 = .ok (.aload_n 0, 1) := by decide +kernel
theorem dX12_refuses_9 : decode cX12_refuses 9 = .ok (.getfield 7, 3) := by decide +kernel
theorem dX12_refuses_12 : decode cX12_refuses 12 = .ok (.putfield 13, 3) := by decide +kernel
theorem dX12_refuses_15 : decode cX12_refuses 15 = .ok (.aload_n 0, 1) := by decide +kernel
theorem dX12_refuses_16 : decode cX12_refuses 16 = .ok (.aload_n 0, 1) := by decide +kernel
theorem dX12_refuses_17 : decode cX12_refuses 17 = .ok (.getfield 10, 3) := by decide +kernel
theorem dX12_refuses_20 : decode cX12_refuses 20 = .ok (.putfield 16, 3) := by decide +kernel
theorem dX12_refuses_23 : decode cX12_refuses 23 = .ok (.aload_n 0, 1) := by decide +kernel
theorem dX12_refuses_24 : decode cX12_refuses 24 = .ok (.iconst 0, 1) := by decide +kernel
theorem dX12_refuses_25 : decode cX12_refuses 25 = .ok (.putfield 19, 3) := by decide +kernel
theorem dX12_refuses_28 : decode cX12_refuses 28 = .ok (.aload_n 0, 1) := by decide +kernel
theorem dX12_refuses_29 : decode cX12_refuses 29 = .ok (.iconst 0, 1) := by decide +kernel
theorem dX12_refuses_30 : decode cX12_refuses 30 = .ok (.putfield 7, 3) := by decide +kernel
theorem dX12_refuses_33 : decode cX12_refuses 33 = .ok (.aload_n 0, 1) := by decide +kernel
theorem dX12_refuses_34 : decode cX12_refuses 34 = .ok (.iload_n 1, 1) := by decide +kernel
theorem dX12_refuses_35 : decode cX12_refuses 35 = .ok (.invokevirtual 22, 3) := by decide +kernel
theorem dX12_refuses_38 : decode cX12_refuses 38 = .ok (.ireturn, 1) := by decide +kernel
theorem dX12_init_0 : decode cX12_init 0 = .ok (.aload_n 0, 1) := by decide +kernel
theorem dX12_init_1 : decode cX12_init 1 = .ok (.invokespecial 26, 3) := by decide +kernel
theorem dX12_init_4 : decode cX12_init 4 = .ok (.aload_n 0, 1) := by decide +kernel
theorem dX12_init_5 : decode cX12_init 5 = .ok (.sipush 216, 3) := by decide +kernel
theorem dX12_init_8 : decode cX12_init 8 = .ok (.newarray .int, 2) := by decide +kernel
theorem dX12_init_10 : decode cX12_init 10 = .ok (.putfield 32, 3) := by decide +kernel
theorem dX12_init_13 : decode cX12_init 13 = .ok (.aload_n 0, 1) := by decide +kernel
theorem dX12_init_14 : decode cX12_init 14 = .ok (.sipush 1728, 3) := by decide +kernel
theorem dX12_init_17 : decode cX12_init 17 = .ok (.newarray .int, 2) := by decide +kernel
theorem dX12_init_19 : decode cX12_init 19 = .ok (.putfield 36, 3) := by decide +kernel
theorem dX12_init_22 : decode cX12_init 22 = .ok (.aload_n 0, 1) := by decide +kernel
theorem dX12_init_23 : decode cX12_init 23 = .ok (.sipush 216, 3) := by decide +kernel
theorem dX12_init_26 : decode cX12_init 26 = .ok (.newarray .int, 2) := by decide +kernel
theorem dX12_init_28 : decode cX12_init 28 = .ok (.putfield 39, 3) := by decide +kernel
theorem dX12_init_31 : decode cX12_init 31 = .ok (.aload_n 0, 1) := by decide +kernel
theorem dX12_init_32 : decode cX12_init 32 = .ok (.sipush 216, 3) := by decide +kernel
theorem dX12_init_35 : decode cX12_init 35 = .ok (.newarray .int, 2) := by decide +kernel
theorem dX12_init_37 : decode cX12_init 37 = .ok (.putfield 42, 3) := by decide +kernel
theorem dX12_init_40 : decode cX12_init 40 = .ok (.aload_n 0, 1) := by decide +kernel
theorem dX12_init_41 : decode cX12_init 41 = .ok (.sipush 216, 3) := by decide +kernel
theorem dX12_init_44 : decode cX12_init 44 = .ok (.newarray .int, 2) := by decide +kernel
theorem dX12_init_46 : decode cX12_init 46 = .ok (.putfield 45, 3) := by decide +kernel
theorem dX12_init_49 : decode cX12_init 49 = .ok (.aload_n 0, 1) := by decide +kernel
theorem dX12_init_50 : decode cX12_init 50 = .ok (.bipush 12, 2) := by decide +kernel
theorem dX12_init_52 : decode cX12_init 52 = .ok (.newarray .int, 2) := by decide +kernel
theorem dX12_init_54 : decode cX12_init 54 = .ok (.putfield 48, 3) := by decide +kernel
theorem dX12_init_57 : decode cX12_init 57 = .ok (.aload_n 0, 1) := by decide +kernel
theorem dX12_init_58 : decode cX12_init 58 = .ok (.bipush 80, 2) := by decide +kernel
theorem dX12_init_60 : decode cX12_init 60 = .ok (.newarray .char, 2) := by decide +kernel
theorem dX12_init_62 : decode cX12_init 62 = .ok (.putfield 51, 3) := by decide +kernel
theorem dX12_init_65 : decode cX12_init 65 = .ok (.aload_n 0, 1) := by decide +kernel
theorem dX12_init_66 : decode cX12_init 66 = .ok (.bipush 60, 2) := by decide +kernel
theorem dX12_init_68 : decode cX12_init 68 = .ok (.newarray .char, 2) := by decide +kernel
theorem dX12_init_70 : decode cX12_init 70 = .ok (.putfield 55, 3) := by decide +kernel
theorem dX12_init_73 : decode cX12_init 73 = .ok (.aload_n 0, 1) := by decide +kernel
theorem dX12_init_74 : decode cX12_init 74 = .ok (.iconst (-1), 1) := by decide +kernel
theorem dX12_init_75 : decode cX12_init 75 = .ok (.putfield 58, 3) := by decide +kernel
theorem dX12_init_78 : decode cX12_init 78 = .ok (.aload_n 0, 1) := by decide +kernel
theorem dX12_init_79 : decode cX12_init 79 = .ok (.iconst 2, 1) := by decide +kernel
theorem dX12_init_80 : decode cX12_init 80 = .ok (.newarray .int, 2) := by decide +kernel
theorem dX12_init_82 : decode cX12_init 82 = .ok (.putfield 61, 3) := by decide +kernel
theorem dX12_init_85 : decode cX12_init 85 = .ok (.aload_n 0, 1) := by decide +kernel
theorem dX12_init_86 : decode cX12_init 86 = .ok (.getfield 32, 3) := by decide +kernel
theorem dX12_init_89 : decode cX12_init 89 = .ok (.iconst 5, 1) := by decide +kernel
theorem dX12_init_90 : decode cX12_init 90 = .ok (.iconst 4, 1) := by decide +kernel
theorem dX12_init_91 : decode cX12_init 91 = .ok (.iastore, 1) := by decide +kernel
theorem dX12_init_92 : decode cX12_init 92 = .ok (.return_, 1) := by decide +kernel
theorem dX12_copies_0 : decode cX12_copies 0 = .ok (.iconst 0, 1) := by decide +kernel
theorem dX12_copies_1 : decode cX12_copies 1 = .ok (.istore_n 1, 1) := by decide +kernel
theorem dX12_copies_2 : decode cX12_copies 2 = .ok (.iload_n 1, 1) := by decide +kernel
theorem dX12_copies_3 : decode cX12_copies 3 = .ok (.sipush 216, 3) := by decide +kernel
theorem dX12_copies_6 : decode cX12_copies 6 = .ok (.if_icmp .ge 21, 3) := by decide +kernel
theorem dX12_copies_9 : decode cX12_copies 9 = .ok (.aload_n 0, 1) := by decide +kernel
theorem dX12_copies_10 : decode cX12_copies 10 = .ok (.getfield 42, 3) := by decide +kernel
theorem dX12_copies_13 : decode cX12_copies 13 = .ok (.iload_n 1, 1) := by decide +kernel
theorem dX12_copies_14 : decode cX12_copies 14 = .ok (.aload_n 0, 1) := by decide +kernel
theorem dX12_copies_15 : decode cX12_copies 15 = .ok (.getfield 32, 3) := by decide +kernel
theorem dX12_copies_18 : decode cX12_copies 18 = .ok (.iload_n 1, 1) := by decide +kernel
theorem dX12_copies_19 : decode cX12_copies 19 = .ok (.iaload, 1) := by decide +kernel
theorem dX12_copies_20 : decode cX12_copies 20 = .ok (.iastore, 1) := by decide +kernel
theorem dX12_copies_21 : decode cX12_copies 21 = .ok (.iinc 1 1, 3) := by decide +kernel
theorem dX12_copies_24 : decode cX12_copies 24 = .ok (.goto (-22), 3) := by decide +kernel
theorem dX12_copies_27 : decode cX12_copies 27 = .ok (.return_, 1) := by decide +kernel
theorem dX12_goesBack_0 : decode cX12_goesBack 0 = .ok (.iconst 0, 1) := by decide +kernel
theorem dX12_goesBack_1 : decode cX12_goesBack 1 = .ok (.istore_n 1, 1) := by decide +kernel
theorem dX12_goesBack_2 : decode cX12_goesBack 2 = .ok (.iload_n 1, 1) := by decide +kernel
theorem dX12_goesBack_3 : decode cX12_goesBack 3 = .ok (.sipush 216, 3) := by decide +kernel
theorem dX12_goesBack_6 : decode cX12_goesBack 6 = .ok (.if_icmp .ge 21, 3) := by decide +kernel
theorem dX12_goesBack_9 : decode cX12_goesBack 9 = .ok (.aload_n 0, 1) := by decide +kernel
theorem dX12_goesBack_10 : decode cX12_goesBack 10 = .ok (.getfield 32, 3) := by decide +kernel
theorem dX12_goesBack_13 : decode cX12_goesBack 13 = .ok (.iload_n 1, 1) := by decide +kernel
theorem dX12_goesBack_14 : decode cX12_goesBack 14 = .ok (.aload_n 0, 1) := by decide +kernel
theorem dX12_goesBack_15 : decode cX12_goesBack 15 = .ok (.getfield 42, 3) := by decide +kernel
theorem dX12_goesBack_18 : decode cX12_goesBack 18 = .ok (.iload_n 1, 1) := by decide +kernel
theorem dX12_goesBack_19 : decode cX12_goesBack 19 = .ok (.iaload, 1) := by decide +kernel
theorem dX12_goesBack_20 : decode cX12_goesBack 20 = .ok (.iastore, 1) := by decide +kernel
theorem dX12_goesBack_21 : decode cX12_goesBack 21 = .ok (.iinc 1 1, 3) := by decide +kernel
theorem dX12_goesBack_24 : decode cX12_goesBack 24 = .ok (.goto (-22), 3) := by decide +kernel
theorem dX12_goesBack_27 : decode cX12_goesBack 27 = .ok (.return_, 1) := by decide +kernel
theorem dX12_keeps_0 : decode cX12_keeps 0 = .ok (.aload_n 0, 1) := by decide +kernel
theorem dX12_keeps_1 : decode cX12_keeps 1 = .ok (.getfield 64, 3) := by decide +kernel
theorem dX12_keeps_4 : decode cX12_keeps 4 = .ok (.bipush 8, 2) := by decide +kernel
theorem dX12_keeps_6 : decode cX12_keeps 6 = .ok (.if_icmp .ne 26, 3) := by decide +kernel
theorem dX12_keeps_9 : decode cX12_keeps 9 = .ok (.aload_n 0, 1) := by decide +kernel
theorem dX12_keeps_10 : decode cX12_keeps 10 = .ok (.aload_n 0, 1) := by decide +kernel
theorem dX12_keeps_11 : decode cX12_keeps 11 = .ok (.getfield 67, 3) := by decide +kernel
theorem dX12_keeps_14 : decode cX12_keeps 14 = .ok (.iconst 1, 1) := by decide +kernel
theorem dX12_keeps_15 : decode cX12_keeps 15 = .ok (.iadd, 1) := by decide +kernel
theorem dX12_keeps_16 : decode cX12_keeps 16 = .ok (.bipush 8, 2) := by decide +kernel
theorem dX12_keeps_18 : decode cX12_keeps 18 = .ok (.irem, 1) := by decide +kernel
theorem dX12_keeps_19 : decode cX12_keeps 19 = .ok (.putfield 67, 3) := by decide +kernel
theorem dX12_keeps_22 : decode cX12_keeps 22 = .ok (.aload_n 0, 1) := by decide +kernel
theorem dX12_keeps_23 : decode cX12_keeps 23 = .ok (.dup, 1) := by decide +kernel
theorem dX12_keeps_24 : decode cX12_keeps 24 = .ok (.getfield 64, 3) := by decide +kernel
theorem dX12_keeps_27 : decode cX12_keeps 27 = .ok (.iconst 1, 1) := by decide +kernel
theorem dX12_keeps_28 : decode cX12_keeps 28 = .ok (.isub, 1) := by decide +kernel
theorem dX12_keeps_29 : decode cX12_keeps 29 = .ok (.putfield 64, 3) := by decide +kernel
theorem dX12_keeps_32 : decode cX12_keeps 32 = .ok (.aload_n 0, 1) := by decide +kernel
theorem dX12_keeps_33 : decode cX12_keeps 33 = .ok (.getfield 67, 3) := by decide +kernel
theorem dX12_keeps_36 : decode cX12_keeps 36 = .ok (.aload_n 0, 1) := by decide +kernel
theorem dX12_keeps_37 : decode cX12_keeps 37 = .ok (.getfield 64, 3) := by decide +kernel
theorem dX12_keeps_40 : decode cX12_keeps 40 = .ok (.iadd, 1) := by decide +kernel
theorem dX12_keeps_41 : decode cX12_keeps 41 = .ok (.bipush 8, 2) := by decide +kernel
theorem dX12_keeps_43 : decode cX12_keeps 43 = .ok (.irem, 1) := by decide +kernel
theorem dX12_keeps_44 : decode cX12_keeps 44 = .ok (.istore_n 1, 1) := by decide +kernel
theorem dX12_keeps_45 : decode cX12_keeps 45 = .ok (.iconst 0, 1) := by decide +kernel
theorem dX12_keeps_46 : decode cX12_keeps 46 = .ok (.istore_n 2, 1) := by decide +kernel
theorem dX12_keeps_47 : decode cX12_keeps 47 = .ok (.iload_n 2, 1) := by decide +kernel
theorem dX12_keeps_48 : decode cX12_keeps 48 = .ok (.sipush 216, 3) := by decide +kernel
theorem dX12_keeps_51 : decode cX12_keeps 51 = .ok (.if_icmp .ge 27, 3) := by decide +kernel
theorem dX12_keeps_54 : decode cX12_keeps 54 = .ok (.aload_n 0, 1) := by decide +kernel
theorem dX12_keeps_55 : decode cX12_keeps 55 = .ok (.getfield 36, 3) := by decide +kernel
theorem dX12_keeps_58 : decode cX12_keeps 58 = .ok (.sipush 216, 3) := by decide +kernel
theorem dX12_keeps_61 : decode cX12_keeps 61 = .ok (.iload_n 1, 1) := by decide +kernel
theorem dX12_keeps_62 : decode cX12_keeps 62 = .ok (.imul, 1) := by decide +kernel
theorem dX12_keeps_63 : decode cX12_keeps 63 = .ok (.iload_n 2, 1) := by decide +kernel
theorem dX12_keeps_64 : decode cX12_keeps 64 = .ok (.iadd, 1) := by decide +kernel
theorem dX12_keeps_65 : decode cX12_keeps 65 = .ok (.aload_n 0, 1) := by decide +kernel
theorem dX12_keeps_66 : decode cX12_keeps 66 = .ok (.getfield 42, 3) := by decide +kernel
theorem dX12_keeps_69 : decode cX12_keeps 69 = .ok (.iload_n 2, 1) := by decide +kernel
theorem dX12_keeps_70 : decode cX12_keeps 70 = .ok (.iaload, 1) := by decide +kernel
theorem dX12_keeps_71 : decode cX12_keeps 71 = .ok (.iastore, 1) := by decide +kernel
theorem dX12_keeps_72 : decode cX12_keeps 72 = .ok (.iinc 2 1, 3) := by decide +kernel
theorem dX12_keeps_75 : decode cX12_keeps 75 = .ok (.goto (-28), 3) := by decide +kernel
theorem dX12_keeps_78 : decode cX12_keeps 78 = .ok (.aload_n 0, 1) := by decide +kernel
theorem dX12_keeps_79 : decode cX12_keeps 79 = .ok (.dup, 1) := by decide +kernel
theorem dX12_keeps_80 : decode cX12_keeps 80 = .ok (.getfield 64, 3) := by decide +kernel
theorem dX12_keeps_83 : decode cX12_keeps 83 = .ok (.iconst 1, 1) := by decide +kernel
theorem dX12_keeps_84 : decode cX12_keeps 84 = .ok (.iadd, 1) := by decide +kernel
theorem dX12_keeps_85 : decode cX12_keeps 85 = .ok (.putfield 64, 3) := by decide +kernel
theorem dX12_keeps_88 : decode cX12_keeps 88 = .ok (.return_, 1) := by decide +kernel
theorem dX12_remembers_0 : decode cX12_remembers 0 = .ok (.aload_n 0, 1) := by decide +kernel
theorem dX12_remembers_1 : decode cX12_remembers 1 = .ok (.iconst 0, 1) := by decide +kernel
theorem dX12_remembers_2 : decode cX12_remembers 2 = .ok (.putfield 1, 3) := by decide +kernel
theorem dX12_remembers_5 : decode cX12_remembers 5 = .ok (.aload_n 0, 1) := by decide +kernel
theorem dX12_remembers_6 : decode cX12_remembers 6 = .ok (.invokevirtual 70, 3) := by decide +kernel
theorem dX12_remembers_9 : decode cX12_remembers 9 = .ok (.aload_n 0, 1) := by decide +kernel
theorem dX12_remembers_10 : decode cX12_remembers 10 = .ok (.invokevirtual 73, 3) := by decide +kernel
theorem dX12_remembers_13 : decode cX12_remembers 13 = .ok (.return_, 1) := by decide +kernel
theorem dX12_isShelf_0 : decode cX12_isShelf 0 = .ok (.iload_n 1, 1) := by decide +kernel
theorem dX12_isShelf_1 : decode cX12_isShelf 1 = .ok (.iconst 0, 1) := by decide +kernel
theorem dX12_isShelf_2 : decode cX12_isShelf 2 = .ok (.aload_n 0, 1) := by decide +kernel
theorem dX12_isShelf_3 : decode cX12_isShelf 3 = .ok (.getfield 32, 3) := by decide +kernel
theorem dX12_isShelf_6 : decode cX12_isShelf 6 = .ok (.iconst 0, 1) := by decide +kernel
theorem dX12_isShelf_7 : decode cX12_isShelf 7 = .ok (.iaload, 1) := by decide +kernel
theorem dX12_isShelf_8 : decode cX12_isShelf 8 = .ok (.iconst 1, 1) := by decide +kernel
theorem dX12_isShelf_9 : decode cX12_isShelf 9 = .ok (.isub, 1) := by decide +kernel
theorem dX12_isShelf_10 : decode cX12_isShelf 10 = .ok (.invokestatic 76, 3) := by decide +kernel
theorem dX12_isShelf_13 : decode cX12_isShelf 13 = .ok (.ireturn, 1) := by decide +kernel
theorem dX12_isLinked_0 : decode cX12_isLinked 0 = .ok (.aload_n 0, 1) := by decide +kernel
theorem dX12_isLinked_1 : decode cX12_isLinked 1 = .ok (.getfield 32, 3) := by decide +kernel
theorem dX12_isLinked_4 : decode cX12_isLinked 4 = .ok (.bipush 38, 2) := by decide +kernel
theorem dX12_isLinked_6 : decode cX12_isLinked 6 = .ok (.bipush 12, 2) := by decide +kernel
theorem dX12_isLinked_8 : decode cX12_isLinked 8 = .ok (.iload_n 1, 1) := by decide +kernel
theorem dX12_isLinked_9 : decode cX12_isLinked 9 = .ok (.imul, 1) := by decide +kernel
theorem dX12_isLinked_10 : decode cX12_isLinked 10 = .ok (.iadd, 1) := by decide +kernel
theorem dX12_isLinked_11 : decode cX12_isLinked 11 = .ok (.iload_n 2, 1) := by decide +kernel
theorem dX12_isLinked_12 : decode cX12_isLinked 12 = .ok (.iadd, 1) := by decide +kernel
theorem dX12_isLinked_13 : decode cX12_isLinked 13 = .ok (.iaload, 1) := by decide +kernel
theorem dX12_isLinked_14 : decode cX12_isLinked 14 = .ok (.iconst 1, 1) := by decide +kernel
theorem dX12_isLinked_15 : decode cX12_isLinked 15 = .ok (.if_icmp .ne 7, 3) := by decide +kernel
theorem dX12_isLinked_18 : decode cX12_isLinked 18 = .ok (.iconst 1, 1) := by decide +kernel
theorem dX12_isLinked_19 : decode cX12_isLinked 19 = .ok (.goto 4, 3) := by decide +kernel
theorem dX12_isLinked_22 : decode cX12_isLinked 22 = .ok (.iconst 0, 1) := by decide +kernel
theorem dX12_isLinked_23 : decode cX12_isLinked 23 = .ok (.ireturn, 1) := by decide +kernel
theorem dX12_joins_0 : decode cX12_joins 0 = .ok (.aload_n 0, 1) := by decide +kernel
theorem dX12_joins_1 : decode cX12_joins 1 = .ok (.getfield 32, 3) := by decide +kernel
theorem dX12_joins_4 : decode cX12_joins 4 = .ok (.bipush 38, 2) := by decide +kernel
theorem dX12_joins_6 : decode cX12_joins 6 = .ok (.bipush 12, 2) := by decide +kernel
theorem dX12_joins_8 : decode cX12_joins 8 = .ok (.iload_n 1, 1) := by decide +kernel
theorem dX12_joins_9 : decode cX12_joins 9 = .ok (.imul, 1) := by decide +kernel
theorem dX12_joins_10 : decode cX12_joins 10 = .ok (.iadd, 1) := by decide +kernel
theorem dX12_joins_11 : decode cX12_joins 11 = .ok (.iload_n 2, 1) := by decide +kernel
theorem dX12_joins_12 : decode cX12_joins 12 = .ok (.iadd, 1) := by decide +kernel
theorem dX12_joins_13 : decode cX12_joins 13 = .ok (.iload_n 3, 1) := by decide +kernel
theorem dX12_joins_14 : decode cX12_joins 14 = .ok (.iastore, 1) := by decide +kernel
theorem dX12_joins_15 : decode cX12_joins 15 = .ok (.aload_n 0, 1) := by decide +kernel
theorem dX12_joins_16 : decode cX12_joins 16 = .ok (.getfield 32, 3) := by decide +kernel
theorem dX12_joins_19 : decode cX12_joins 19 = .ok (.bipush 38, 2) := by decide +kernel
theorem dX12_joins_21 : decode cX12_joins 21 = .ok (.bipush 12, 2) := by decide +kernel
theorem dX12_joins_23 : decode cX12_joins 23 = .ok (.iload_n 2, 1) := by decide +kernel
theorem dX12_joins_24 : decode cX12_joins 24 = .ok (.imul, 1) := by decide +kernel
theorem dX12_joins_25 : decode cX12_joins 25 = .ok (.iadd, 1) := by decide +kernel
theorem dX12_joins_26 : decode cX12_joins 26 = .ok (.iload_n 1, 1) := by decide +kernel
theorem dX12_joins_27 : decode cX12_joins 27 = .ok (.iadd, 1) := by decide +kernel
theorem dX12_joins_28 : decode cX12_joins 28 = .ok (.iload_n 3, 1) := by decide +kernel
theorem dX12_joins_29 : decode cX12_joins 29 = .ok (.iastore, 1) := by decide +kernel
theorem dX12_joins_30 : decode cX12_joins 30 = .ok (.return_, 1) := by decide +kernel
theorem dX12_notShelf_0 : decode cX12_notShelf 0 = .ok (.iload_n 1, 1) := by decide +kernel
theorem dX12_notShelf_1 : decode cX12_notShelf 1 = .ok (.iconst 0, 1) := by decide +kernel
theorem dX12_notShelf_2 : decode cX12_notShelf 2 = .ok (.bipush 99, 2) := by decide +kernel
theorem dX12_notShelf_4 : decode cX12_notShelf 4 = .ok (.invokestatic 76, 3) := by decide +kernel
theorem dX12_notShelf_7 : decode cX12_notShelf 7 = .ok (.ifCond .ne 5, 3) := by decide +kernel
theorem dX12_notShelf_10 : decode cX12_notShelf 10 = .ok (.iconst 1, 1) := by decide +kernel
theorem dX12_notShelf_11 : decode cX12_notShelf 11 = .ok (.ireturn, 1) := by decide +kernel
theorem dX12_notShelf_12 : decode cX12_notShelf 12 = .ok (.aload_n 0, 1) := by decide +kernel
theorem dX12_notShelf_13 : decode cX12_notShelf 13 = .ok (.getfield 32, 3) := by decide +kernel
theorem dX12_notShelf_16 : decode cX12_notShelf 16 = .ok (.iconst 0, 1) := by decide +kernel
theorem dX12_notShelf_17 : decode cX12_notShelf 17 = .ok (.iaload, 1) := by decide +kernel
theorem dX12_notShelf_18 : decode cX12_notShelf 18 = .ok (.bipush 12, 2) := by decide +kernel
theorem dX12_notShelf_20 : decode cX12_notShelf 20 = .ok (.if_icmp .ne 14, 3) := by decide +kernel
theorem dX12_notShelf_23 : decode cX12_notShelf 23 = .ok (.aload_n 0, 1) := by decide +kernel
theorem dX12_notShelf_24 : decode cX12_notShelf 24 = .ok (.iconst 1, 1) := by decide +kernel
theorem dX12_notShelf_25 : decode cX12_notShelf 25 = .ok (.bipush 12, 2) := by decide +kernel
theorem dX12_notShelf_27 : decode cX12_notShelf 27 = .ok (.iconst 2, 1) := by decide +kernel
theorem dX12_notShelf_28 : decode cX12_notShelf 28 = .ok (.invokevirtual 80, 3) := by decide +kernel
theorem dX12_notShelf_31 : decode cX12_notShelf 31 = .ok (.goto 4, 3) := by decide +kernel
theorem dX12_notShelf_34 : decode cX12_notShelf 34 = .ok (.iconst 0, 1) := by decide +kernel
theorem dX12_notShelf_35 : decode cX12_notShelf 35 = .ok (.ireturn, 1) := by decide +kernel
theorem dX12_addsShelf_0 : decode cX12_addsShelf 0 = .ok (.aload_n 0, 1) := by decide +kernel
theorem dX12_addsShelf_1 : decode cX12_addsShelf 1 = .ok (.getfield 32, 3) := by decide +kernel
theorem dX12_addsShelf_4 : decode cX12_addsShelf 4 = .ok (.bipush 14, 2) := by decide +kernel
theorem dX12_addsShelf_6 : decode cX12_addsShelf 6 = .ok (.aload_n 0, 1) := by decide +kernel
theorem dX12_addsShelf_7 : decode cX12_addsShelf 7 = .ok (.getfield 32, 3) := by decide +kernel
theorem dX12_addsShelf_10 : decode cX12_addsShelf 10 = .ok (.iconst 0, 1) := by decide +kernel
theorem dX12_addsShelf_11 : decode cX12_addsShelf 11 = .ok (.iaload, 1) := by decide +kernel
theorem dX12_addsShelf_12 : decode cX12_addsShelf 12 = .ok (.iadd, 1) := by decide +kernel
theorem dX12_addsShelf_13 : decode cX12_addsShelf 13 = .ok (.iload_n 1, 1) := by decide +kernel
theorem dX12_addsShelf_14 : decode cX12_addsShelf 14 = .ok (.iastore, 1) := by decide +kernel
theorem dX12_addsShelf_15 : decode cX12_addsShelf 15 = .ok (.aload_n 0, 1) := by decide +kernel
theorem dX12_addsShelf_16 : decode cX12_addsShelf 16 = .ok (.getfield 32, 3) := by decide +kernel
theorem dX12_addsShelf_19 : decode cX12_addsShelf 19 = .ok (.bipush 13, 2) := by decide +kernel
theorem dX12_addsShelf_21 : decode cX12_addsShelf 21 = .ok (.dup2, 1) := by decide +kernel
theorem dX12_addsShelf_22 : decode cX12_addsShelf 22 = .ok (.iaload, 1) := by decide +kernel
theorem dX12_addsShelf_23 : decode cX12_addsShelf 23 = .ok (.iload_n 1, 1) := by decide +kernel
theorem dX12_addsShelf_24 : decode cX12_addsShelf 24 = .ok (.iadd, 1) := by decide +kernel
theorem dX12_addsShelf_25 : decode cX12_addsShelf 25 = .ok (.iastore, 1) := by decide +kernel
theorem dX12_addsShelf_26 : decode cX12_addsShelf 26 = .ok (.aload_n 0, 1) := by decide +kernel
theorem dX12_addsShelf_27 : decode cX12_addsShelf 27 = .ok (.getfield 32, 3) := by decide +kernel
theorem dX12_addsShelf_30 : decode cX12_addsShelf 30 = .ok (.iconst 0, 1) := by decide +kernel
theorem dX12_addsShelf_31 : decode cX12_addsShelf 31 = .ok (.dup2, 1) := by decide +kernel
theorem dX12_addsShelf_32 : decode cX12_addsShelf 32 = .ok (.iaload, 1) := by decide +kernel
theorem dX12_addsShelf_33 : decode cX12_addsShelf 33 = .ok (.iconst 1, 1) := by decide +kernel
theorem dX12_addsShelf_34 : decode cX12_addsShelf 34 = .ok (.iadd, 1) := by decide +kernel
theorem dX12_addsShelf_35 : decode cX12_addsShelf 35 = .ok (.iastore, 1) := by decide +kernel
theorem dX12_addsShelf_36 : decode cX12_addsShelf 36 = .ok (.aload_n 0, 1) := by decide +kernel
theorem dX12_addsShelf_37 : decode cX12_addsShelf 37 = .ok (.getfield 32, 3) := by decide +kernel
theorem dX12_addsShelf_40 : decode cX12_addsShelf 40 = .ok (.iconst 0, 1) := by decide +kernel
theorem dX12_addsShelf_41 : decode cX12_addsShelf 41 = .ok (.iaload, 1) := by decide +kernel
theorem dX12_addsShelf_42 : decode cX12_addsShelf 42 = .ok (.iconst 1, 1) := by decide +kernel
theorem dX12_addsShelf_43 : decode cX12_addsShelf 43 = .ok (.isub, 1) := by decide +kernel
theorem dX12_addsShelf_44 : decode cX12_addsShelf 44 = .ok (.ireturn, 1) := by decide +kernel
theorem dX12_addShelf_0 : decode cX12_addShelf 0 = .ok (.aload_n 0, 1) := by decide +kernel
theorem dX12_addShelf_1 : decode cX12_addShelf 1 = .ok (.iload_n 1, 1) := by decide +kernel
theorem dX12_addShelf_2 : decode cX12_addShelf 2 = .ok (.invokevirtual 84, 3) := by decide +kernel
theorem dX12_addShelf_5 : decode cX12_addShelf 5 = .ok (.istore_n 2, 1) := by decide +kernel
theorem dX12_addShelf_6 : decode cX12_addShelf 6 = .ok (.iload_n 2, 1) := by decide +kernel
theorem dX12_addShelf_7 : decode cX12_addShelf 7 = .ok (.ifCond .eq 9, 3) := by decide +kernel
theorem dX12_addShelf_10 : decode cX12_addShelf 10 = .ok (.aload_n 0, 1) := by decide +kernel
theorem dX12_addShelf_11 : decode cX12_addShelf 11 = .ok (.iload_n 2, 1) := by decide +kernel
theorem dX12_addShelf_12 : decode cX12_addShelf 12 = .ok (.invokevirtual 87, 3) := by decide +kernel
theorem dX12_addShelf_15 : decode cX12_addShelf 15 = .ok (.ireturn, 1) := by decide +kernel
theorem dX12_addShelf_16 : decode cX12_addShelf 16 = .ok (.aload_n 0, 1) := by decide +kernel
theorem dX12_addShelf_17 : decode cX12_addShelf 17 = .ok (.invokevirtual 90, 3) := by decide +kernel
theorem dX12_addShelf_20 : decode cX12_addShelf 20 = .ok (.aload_n 0, 1) := by decide +kernel
theorem dX12_addShelf_21 : decode cX12_addShelf 21 = .ok (.iload_n 1, 1) := by decide +kernel
theorem dX12_addShelf_22 : decode cX12_addShelf 22 = .ok (.invokevirtual 93, 3) := by decide +kernel
theorem dX12_addShelf_25 : decode cX12_addShelf 25 = .ok (.ireturn, 1) := by decide +kernel
theorem dX12_notLink_0 : decode cX12_notLink 0 = .ok (.aload_n 0, 1) := by decide +kernel
theorem dX12_notLink_1 : decode cX12_notLink 1 = .ok (.iload_n 1, 1) := by decide +kernel
theorem dX12_notLink_2 : decode cX12_notLink 2 = .ok (.invokevirtual 96, 3) := by decide +kernel
theorem dX12_notLink_5 : decode cX12_notLink 5 = .ok (.ifCond .eq 11, 3) := by decide +kernel
theorem dX12_notLink_8 : decode cX12_notLink 8 = .ok (.aload_n 0, 1) := by decide +kernel
theorem dX12_notLink_9 : decode cX12_notLink 9 = .ok (.iload_n 2, 1) := by decide +kernel
theorem dX12_notLink_10 : decode cX12_notLink 10 = .ok (.invokevirtual 96, 3) := by decide +kernel
theorem dX12_notLink_13 : decode cX12_notLink 13 = .ok (.ifCond .ne 5, 3) := by decide +kernel
theorem dX12_notLink_16 : decode cX12_notLink 16 = .ok (.iconst 1, 1) := by decide +kernel
theorem dX12_notLink_17 : decode cX12_notLink 17 = .ok (.ireturn, 1) := by decide +kernel
theorem dX12_notLink_18 : decode cX12_notLink 18 = .ok (.iload_n 1, 1) := by decide +kernel
theorem dX12_notLink_19 : decode cX12_notLink 19 = .ok (.iload_n 2, 1) := by decide +kernel
theorem dX12_notLink_20 : decode cX12_notLink 20 = .ok (.if_icmp .ne 11, 3) := by decide +kernel
theorem dX12_notLink_23 : decode cX12_notLink 23 = .ok (.aload_n 0, 1) := by decide +kernel
theorem dX12_notLink_24 : decode cX12_notLink 24 = .ok (.iconst 2, 1) := by decide +kernel
theorem dX12_notLink_25 : decode cX12_notLink 25 = .ok (.iload_n 1, 1) := by decide +kernel
theorem dX12_notLink_26 : decode cX12_notLink 26 = .ok (.iconst 2, 1) := by decide +kernel
theorem dX12_notLink_27 : decode cX12_notLink 27 = .ok (.invokevirtual 80, 3) := by decide +kernel
theorem dX12_notLink_30 : decode cX12_notLink 30 = .ok (.ireturn, 1) := by decide +kernel
theorem dX12_notLink_31 : decode cX12_notLink 31 = .ok (.aload_n 0, 1) := by decide +kernel
theorem dX12_notLink_32 : decode cX12_notLink 32 = .ok (.iload_n 1, 1) := by decide +kernel
theorem dX12_notLink_33 : decode cX12_notLink 33 = .ok (.iload_n 2, 1) := by decide +kernel
theorem dX12_notLink_34 : decode cX12_notLink 34 = .ok (.invokevirtual 100, 3) := by decide +kernel
theorem dX12_notLink_37 : decode cX12_notLink 37 = .ok (.ifCond .eq 16, 3) := by decide +kernel
theorem dX12_notLink_40 : decode cX12_notLink 40 = .ok (.aload_n 0, 1) := by decide +kernel
theorem dX12_notLink_41 : decode cX12_notLink 41 = .ok (.iconst 3, 1) := by decide +kernel
theorem dX12_notLink_42 : decode cX12_notLink 42 = .ok (.aload_n 0, 1) := by decide +kernel
theorem dX12_notLink_43 : decode cX12_notLink 43 = .ok (.getfield 32, 3) := by decide +kernel
theorem dX12_notLink_46 : decode cX12_notLink 46 = .ok (.iconst 1, 1) := by decide +kernel
theorem dX12_notLink_47 : decode cX12_notLink 47 = .ok (.iaload, 1) := by decide +kernel
theorem dX12_notLink_48 : decode cX12_notLink 48 = .ok (.iconst 2, 1) := by decide +kernel
theorem dX12_notLink_49 : decode cX12_notLink 49 = .ok (.invokevirtual 80, 3) := by decide +kernel
theorem dX12_notLink_52 : decode cX12_notLink 52 = .ok (.ireturn, 1) := by decide +kernel
theorem dX12_notLink_53 : decode cX12_notLink 53 = .ok (.aload_n 0, 1) := by decide +kernel
theorem dX12_notLink_54 : decode cX12_notLink 54 = .ok (.getfield 32, 3) := by decide +kernel
theorem dX12_notLink_57 : decode cX12_notLink 57 = .ok (.iconst 1, 1) := by decide +kernel
theorem dX12_notLink_58 : decode cX12_notLink 58 = .ok (.iaload, 1) := by decide +kernel
theorem dX12_notLink_59 : decode cX12_notLink 59 = .ok (.bipush 20, 2) := by decide +kernel
theorem dX12_notLink_61 : decode cX12_notLink 61 = .ok (.if_icmp .ne 14, 3) := by decide +kernel
theorem dX12_notLink_64 : decode cX12_notLink 64 = .ok (.aload_n 0, 1) := by decide +kernel
theorem dX12_notLink_65 : decode cX12_notLink 65 = .ok (.iconst 1, 1) := by decide +kernel
theorem dX12_notLink_66 : decode cX12_notLink 66 = .ok (.bipush 20, 2) := by decide +kernel
theorem dX12_notLink_68 : decode cX12_notLink 68 = .ok (.iconst 2, 1) := by decide +kernel
theorem dX12_notLink_69 : decode cX12_notLink 69 = .ok (.invokevirtual 80, 3) := by decide +kernel
theorem dX12_notLink_72 : decode cX12_notLink 72 = .ok (.goto 4, 3) := by decide +kernel
theorem dX12_notLink_75 : decode cX12_notLink 75 = .ok (.iconst 0, 1) := by decide +kernel
theorem dX12_notLink_76 : decode cX12_notLink 76 = .ok (.ireturn, 1) := by decide +kernel
theorem dX12_links_0 : decode cX12_links 0 = .ok (.aload_n 0, 1) := by decide +kernel
theorem dX12_links_1 : decode cX12_links 1 = .ok (.iload_n 1, 1) := by decide +kernel
theorem dX12_links_2 : decode cX12_links 2 = .ok (.iload_n 2, 1) := by decide +kernel
theorem dX12_links_3 : decode cX12_links 3 = .ok (.iconst 1, 1) := by decide +kernel
theorem dX12_links_4 : decode cX12_links 4 = .ok (.invokevirtual 104, 3) := by decide +kernel
theorem dX12_links_7 : decode cX12_links 7 = .ok (.aload_n 0, 1) := by decide +kernel
theorem dX12_links_8 : decode cX12_links 8 = .ok (.getfield 32, 3) := by decide +kernel
theorem dX12_links_11 : decode cX12_links 11 = .ok (.iconst 1, 1) := by decide +kernel
theorem dX12_links_12 : decode cX12_links 12 = .ok (.dup2, 1) := by decide +kernel
theorem dX12_links_13 : decode cX12_links 13 = .ok (.iaload, 1) := by decide +kernel
theorem dX12_links_14 : decode cX12_links 14 = .ok (.iconst 1, 1) := by decide +kernel
theorem dX12_links_15 : decode cX12_links 15 = .ok (.iadd, 1) := by decide +kernel
theorem dX12_links_16 : decode cX12_links 16 = .ok (.iastore, 1) := by decide +kernel
theorem dX12_links_17 : decode cX12_links 17 = .ok (.aload_n 0, 1) := by decide +kernel
theorem dX12_links_18 : decode cX12_links 18 = .ok (.getfield 32, 3) := by decide +kernel
theorem dX12_links_21 : decode cX12_links 21 = .ok (.iconst 1, 1) := by decide +kernel
theorem dX12_links_22 : decode cX12_links 22 = .ok (.iaload, 1) := by decide +kernel
theorem dX12_links_23 : decode cX12_links 23 = .ok (.ireturn, 1) := by decide +kernel
theorem dX12_link_0 : decode cX12_link 0 = .ok (.aload_n 0, 1) := by decide +kernel
theorem dX12_link_1 : decode cX12_link 1 = .ok (.iload_n 1, 1) := by decide +kernel
theorem dX12_link_2 : decode cX12_link 2 = .ok (.iload_n 2, 1) := by decide +kernel
theorem dX12_link_3 : decode cX12_link 3 = .ok (.invokevirtual 108, 3) := by decide +kernel
theorem dX12_link_6 : decode cX12_link 6 = .ok (.istore_n 3, 1) := by decide +kernel
theorem dX12_link_7 : decode cX12_link 7 = .ok (.iload_n 3, 1) := by decide +kernel
theorem dX12_link_8 : decode cX12_link 8 = .ok (.ifCond .eq 9, 3) := by decide +kernel
theorem dX12_link_11 : decode cX12_link 11 = .ok (.aload_n 0, 1) := by decide +kernel
theorem dX12_link_12 : decode cX12_link 12 = .ok (.iload_n 3, 1) := by decide +kernel
theorem dX12_link_13 : decode cX12_link 13 = .ok (.invokevirtual 87, 3) := by decide +kernel
theorem dX12_link_16 : decode cX12_link 16 = .ok (.ireturn, 1) := by decide +kernel
theorem dX12_link_17 : decode cX12_link 17 = .ok (.aload_n 0, 1) := by decide +kernel
theorem dX12_link_18 : decode cX12_link 18 = .ok (.invokevirtual 90, 3) := by decide +kernel
theorem dX12_link_21 : decode cX12_link 21 = .ok (.aload_n 0, 1) := by decide +kernel
theorem dX12_link_22 : decode cX12_link 22 = .ok (.iload_n 1, 1) := by decide +kernel
theorem dX12_link_23 : decode cX12_link 23 = .ok (.iload_n 2, 1) := by decide +kernel
theorem dX12_link_24 : decode cX12_link 24 = .ok (.invokevirtual 112, 3) := by decide +kernel
theorem dX12_link_27 : decode cX12_link 27 = .ok (.ireturn, 1) := by decide +kernel
theorem dX12_notUnlink_0 : decode cX12_notUnlink 0 = .ok (.aload_n 0, 1) := by decide +kernel
theorem dX12_notUnlink_1 : decode cX12_notUnlink 1 = .ok (.iload_n 1, 1) := by decide +kernel
theorem dX12_notUnlink_2 : decode cX12_notUnlink 2 = .ok (.invokevirtual 96, 3) := by decide +kernel
theorem dX12_notUnlink_5 : decode cX12_notUnlink 5 = .ok (.ifCond .eq 11, 3) := by decide +kernel
theorem dX12_notUnlink_8 : decode cX12_notUnlink 8 = .ok (.aload_n 0, 1) := by decide +kernel
theorem dX12_notUnlink_9 : decode cX12_notUnlink 9 = .ok (.iload_n 2, 1) := by decide +kernel
theorem dX12_notUnlink_10 : decode cX12_notUnlink 10 = .ok (.invokevirtual 96, 3) := by decide +kernel
theorem dX12_notUnlink_13 : decode cX12_notUnlink 13 = .ok (.ifCond .ne 5, 3) := by decide +kernel
theorem dX12_notUnlink_16 : decode cX12_notUnlink 16 = .ok (.iconst 1, 1) := by decide +kernel
theorem dX12_notUnlink_17 : decode cX12_notUnlink 17 = .ok (.ireturn, 1) := by decide +kernel
theorem dX12_notUnlink_18 : decode cX12_notUnlink 18 = .ok (.aload_n 0, 1) := by decide +kernel
theorem dX12_notUnlink_19 : decode cX12_notUnlink 19 = .ok (.iload_n 1, 1) := by decide +kernel
theorem dX12_notUnlink_20 : decode cX12_notUnlink 20 = .ok (.iload_n 2, 1) := by decide +kernel
theorem dX12_notUnlink_21 : decode cX12_notUnlink 21 = .ok (.invokevirtual 100, 3) := by decide +kernel
theorem dX12_notUnlink_24 : decode cX12_notUnlink 24 = .ok (.ifCond .eq 7, 3) := by decide +kernel
theorem dX12_notUnlink_27 : decode cX12_notUnlink 27 = .ok (.iconst 0, 1) := by decide +kernel
theorem dX12_notUnlink_28 : decode cX12_notUnlink 28 = .ok (.goto 15, 3) := by decide +kernel
theorem dX12_notUnlink_31 : decode cX12_notUnlink 31 = .ok (.aload_n 0, 1) := by decide +kernel
theorem dX12_notUnlink_32 : decode cX12_notUnlink 32 = .ok (.iconst 4, 1) := by decide +kernel
theorem dX12_notUnlink_33 : decode cX12_notUnlink 33 = .ok (.aload_n 0, 1) := by decide +kernel
theorem dX12_notUnlink_34 : decode cX12_notUnlink 34 = .ok (.getfield 32, 3) := by decide +kernel
theorem dX12_notUnlink_37 : decode cX12_notUnlink 37 = .ok (.iconst 1, 1) := by decide +kernel
theorem dX12_notUnlink_38 : decode cX12_notUnlink 38 = .ok (.iaload, 1) := by decide +kernel
theorem dX12_notUnlink_39 : decode cX12_notUnlink 39 = .ok (.iconst 2, 1) := by decide +kernel
theorem dX12_notUnlink_40 : decode cX12_notUnlink 40 = .ok (.invokevirtual 80, 3) := by decide +kernel
theorem dX12_notUnlink_43 : decode cX12_notUnlink 43 = .ok (.ireturn, 1) := by decide +kernel
theorem dX12_unlinks_0 : decode cX12_unlinks 0 = .ok (.aload_n 0, 1) := by decide +kernel
theorem dX12_unlinks_1 : decode cX12_unlinks 1 = .ok (.iload_n 1, 1) := by decide +kernel
theorem dX12_unlinks_2 : decode cX12_unlinks 2 = .ok (.iload_n 2, 1) := by decide +kernel
theorem dX12_unlinks_3 : decode cX12_unlinks 3 = .ok (.iconst 0, 1) := by decide +kernel
theorem dX12_unlinks_4 : decode cX12_unlinks 4 = .ok (.invokevirtual 104, 3) := by decide +kernel
theorem dX12_unlinks_7 : decode cX12_unlinks 7 = .ok (.aload_n 0, 1) := by decide +kernel
theorem dX12_unlinks_8 : decode cX12_unlinks 8 = .ok (.getfield 32, 3) := by decide +kernel
theorem dX12_unlinks_11 : decode cX12_unlinks 11 = .ok (.iconst 1, 1) := by decide +kernel
theorem dX12_unlinks_12 : decode cX12_unlinks 12 = .ok (.dup2, 1) := by decide +kernel
theorem dX12_unlinks_13 : decode cX12_unlinks 13 = .ok (.iaload, 1) := by decide +kernel
theorem dX12_unlinks_14 : decode cX12_unlinks 14 = .ok (.iconst 1, 1) := by decide +kernel
