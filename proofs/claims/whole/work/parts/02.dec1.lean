theorem dX5_copyFrom_30 : decode cX5_copyFrom 30 = .ok (.invokestatic 21, 3) := by decide +kernel
theorem dX5_copyFrom_33 : decode cX5_copyFrom 33 = .ok (.aload_n 0, 1) := by decide +kernel
theorem dX5_copyFrom_34 : decode cX5_copyFrom 34 = .ok (.aload_n 1, 1) := by decide +kernel
theorem dX5_copyFrom_35 : decode cX5_copyFrom 35 = .ok (.getfield 25, 3) := by decide +kernel
theorem dX5_copyFrom_38 : decode cX5_copyFrom 38 = .ok (.putfield 25, 3) := by decide +kernel
theorem dX5_copyFrom_41 : decode cX5_copyFrom 41 = .ok (.return_, 1) := by decide +kernel
theorem dX5_appear_0 : decode cX5_appear 0 = .ok (.aload_n 0, 1) := by decide +kernel
theorem dX5_appear_1 : decode cX5_appear 1 = .ok (.getfield 9, 3) := by decide +kernel
theorem dX5_appear_4 : decode cX5_appear 4 = .ok (.aload_n 0, 1) := by decide +kernel
theorem dX5_appear_5 : decode cX5_appear 5 = .ok (.getfield 25, 3) := by decide +kernel
theorem dX5_appear_8 : decode cX5_appear 8 = .ok (.iload_n 1, 1) := by decide +kernel
theorem dX5_appear_9 : decode cX5_appear 9 = .ok (.invokestatic 29, 3) := by decide +kernel
theorem dX5_appear_12 : decode cX5_appear 12 = .ok (.aload_n 0, 1) := by decide +kernel
theorem dX5_appear_13 : decode cX5_appear 13 = .ok (.getfield 15, 3) := by decide +kernel
theorem dX5_appear_16 : decode cX5_appear 16 = .ok (.aload_n 0, 1) := by decide +kernel
theorem dX5_appear_17 : decode cX5_appear 17 = .ok (.getfield 25, 3) := by decide +kernel
theorem dX5_appear_20 : decode cX5_appear 20 = .ok (.iconst 0, 1) := by decide +kernel
theorem dX5_appear_21 : decode cX5_appear 21 = .ok (.invokestatic 29, 3) := by decide +kernel
theorem dX5_appear_24 : decode cX5_appear 24 = .ok (.aload_n 0, 1) := by decide +kernel
theorem dX5_appear_25 : decode cX5_appear 25 = .ok (.getfield 18, 3) := by decide +kernel
theorem dX5_appear_28 : decode cX5_appear 28 = .ok (.aload_n 0, 1) := by decide +kernel
theorem dX5_appear_29 : decode cX5_appear 29 = .ok (.getfield 25, 3) := by decide +kernel
theorem dX5_appear_32 : decode cX5_appear 32 = .ok (.iconst 0, 1) := by decide +kernel
theorem dX5_appear_33 : decode cX5_appear 33 = .ok (.invokestatic 29, 3) := by decide +kernel
theorem dX5_appear_36 : decode cX5_appear 36 = .ok (.aload_n 0, 1) := by decide +kernel
theorem dX5_appear_37 : decode cX5_appear 37 = .ok (.dup, 1) := by decide +kernel
theorem dX5_appear_38 : decode cX5_appear 38 = .ok (.getfield 25, 3) := by decide +kernel
theorem dX5_appear_41 : decode cX5_appear 41 = .ok (.iconst 1, 1) := by decide +kernel
theorem dX5_appear_42 : decode cX5_appear 42 = .ok (.iadd, 1) := by decide +kernel
theorem dX5_appear_43 : decode cX5_appear 43 = .ok (.putfield 25, 3) := by decide +kernel
theorem dX5_appear_46 : decode cX5_appear 46 = .ok (.return_, 1) := by decide +kernel
theorem dX5_eat_0 : decode cX5_eat 0 = .ok (.aload_n 0, 1) := by decide +kernel
theorem dX5_eat_1 : decode cX5_eat 1 = .ok (.getfield 15, 3) := by decide +kernel
theorem dX5_eat_4 : decode cX5_eat 4 = .ok (.iload_n 1, 1) := by decide +kernel
theorem dX5_eat_5 : decode cX5_eat 5 = .ok (.aload_n 0, 1) := by decide +kernel
theorem dX5_eat_6 : decode cX5_eat 6 = .ok (.getfield 15, 3) := by decide +kernel
theorem dX5_eat_9 : decode cX5_eat 9 = .ok (.iload_n 1, 1) := by decide +kernel
theorem dX5_eat_10 : decode cX5_eat 10 = .ok (.invokestatic 33, 3) := by decide +kernel
theorem dX5_eat_13 : decode cX5_eat 13 = .ok (.iconst 1, 1) := by decide +kernel
theorem dX5_eat_14 : decode cX5_eat 14 = .ok (.iadd, 1) := by decide +kernel
theorem dX5_eat_15 : decode cX5_eat 15 = .ok (.invokestatic 29, 3) := by decide +kernel
theorem dX5_eat_18 : decode cX5_eat 18 = .ok (.aload_n 0, 1) := by decide +kernel
theorem dX5_eat_19 : decode cX5_eat 19 = .ok (.getfield 18, 3) := by decide +kernel
theorem dX5_eat_22 : decode cX5_eat 22 = .ok (.iload_n 1, 1) := by decide +kernel
theorem dX5_eat_23 : decode cX5_eat 23 = .ok (.iconst 0, 1) := by decide +kernel
theorem dX5_eat_24 : decode cX5_eat 24 = .ok (.invokestatic 29, 3) := by decide +kernel
theorem dX5_eat_27 : decode cX5_eat 27 = .ok (.return_, 1) := by decide +kernel
theorem dX5_renumber_0 : decode cX5_renumber 0 = .ok (.aload_n 0, 1) := by decide +kernel
theorem dX5_renumber_1 : decode cX5_renumber 1 = .ok (.getfield 9, 3) := by decide +kernel
theorem dX5_renumber_4 : decode cX5_renumber 4 = .ok (.iload_n 2, 1) := by decide +kernel
theorem dX5_renumber_5 : decode cX5_renumber 5 = .ok (.aload_n 0, 1) := by decide +kernel
theorem dX5_renumber_6 : decode cX5_renumber 6 = .ok (.getfield 9, 3) := by decide +kernel
theorem dX5_renumber_9 : decode cX5_renumber 9 = .ok (.iload_n 1, 1) := by decide +kernel
theorem dX5_renumber_10 : decode cX5_renumber 10 = .ok (.invokestatic 33, 3) := by decide +kernel
theorem dX5_renumber_13 : decode cX5_renumber 13 = .ok (.invokestatic 29, 3) := by decide +kernel
theorem dX5_renumber_16 : decode cX5_renumber 16 = .ok (.aload_n 0, 1) := by decide +kernel
theorem dX5_renumber_17 : decode cX5_renumber 17 = .ok (.getfield 15, 3) := by decide +kernel
theorem dX5_renumber_20 : decode cX5_renumber 20 = .ok (.iload_n 2, 1) := by decide +kernel
theorem dX5_renumber_21 : decode cX5_renumber 21 = .ok (.aload_n 0, 1) := by decide +kernel
theorem dX5_renumber_22 : decode cX5_renumber 22 = .ok (.getfield 15, 3) := by decide +kernel
theorem dX5_renumber_25 : decode cX5_renumber 25 = .ok (.iload_n 1, 1) := by decide +kernel
theorem dX5_renumber_26 : decode cX5_renumber 26 = .ok (.invokestatic 33, 3) := by decide +kernel
theorem dX5_renumber_29 : decode cX5_renumber 29 = .ok (.invokestatic 29, 3) := by decide +kernel
theorem dX5_renumber_32 : decode cX5_renumber 32 = .ok (.aload_n 0, 1) := by decide +kernel
theorem dX5_renumber_33 : decode cX5_renumber 33 = .ok (.getfield 18, 3) := by decide +kernel
theorem dX5_renumber_36 : decode cX5_renumber 36 = .ok (.iload_n 2, 1) := by decide +kernel
theorem dX5_renumber_37 : decode cX5_renumber 37 = .ok (.aload_n 0, 1) := by decide +kernel
theorem dX5_renumber_38 : decode cX5_renumber 38 = .ok (.getfield 18, 3) := by decide +kernel
theorem dX5_renumber_41 : decode cX5_renumber 41 = .ok (.iload_n 1, 1) := by decide +kernel
theorem dX5_renumber_42 : decode cX5_renumber 42 = .ok (.invokestatic 33, 3) := by decide +kernel
theorem dX5_renumber_45 : decode cX5_renumber 45 = .ok (.invokestatic 29, 3) := by decide +kernel
theorem dX5_renumber_48 : decode cX5_renumber 48 = .ok (.return_, 1) := by decide +kernel
theorem dX5_countOn_0 : decode cX5_countOn 0 = .ok (.iconst 0, 1) := by decide +kernel
theorem dX5_countOn_1 : decode cX5_countOn 1 = .ok (.istore_n 2, 1) := by decide +kernel
theorem dX5_countOn_2 : decode cX5_countOn 2 = .ok (.iconst 0, 1) := by decide +kernel
theorem dX5_countOn_3 : decode cX5_countOn 3 = .ok (.istore_n 3, 1) := by decide +kernel
theorem dX5_countOn_4 : decode cX5_countOn 4 = .ok (.iload_n 3, 1) := by decide +kernel
theorem dX5_countOn_5 : decode cX5_countOn 5 = .ok (.aload_n 0, 1) := by decide +kernel
theorem dX5_countOn_6 : decode cX5_countOn 6 = .ok (.getfield 25, 3) := by decide +kernel
theorem dX5_countOn_9 : decode cX5_countOn 9 = .ok (.if_icmp .ge 24, 3) := by decide +kernel
theorem dX5_countOn_12 : decode cX5_countOn 12 = .ok (.aload_n 0, 1) := by decide +kernel
theorem dX5_countOn_13 : decode cX5_countOn 13 = .ok (.getfield 9, 3) := by decide +kernel
theorem dX5_countOn_16 : decode cX5_countOn 16 = .ok (.iload_n 3, 1) := by decide +kernel
theorem dX5_countOn_17 : decode cX5_countOn 17 = .ok (.invokestatic 33, 3) := by decide +kernel
theorem dX5_countOn_20 : decode cX5_countOn 20 = .ok (.iload_n 1, 1) := by decide +kernel
theorem dX5_countOn_21 : decode cX5_countOn 21 = .ok (.if_icmp .ne 6, 3) := by decide +kernel
theorem dX5_countOn_24 : decode cX5_countOn 24 = .ok (.iinc 2 1, 3) := by decide +kernel
theorem dX5_countOn_27 : decode cX5_countOn 27 = .ok (.iinc 3 1, 3) := by decide +kernel
theorem dX5_countOn_30 : decode cX5_countOn 30 = .ok (.goto (-26), 3) := by decide +kernel
theorem dX5_countOn_33 : decode cX5_countOn 33 = .ok (.iload_n 2, 1) := by decide +kernel
theorem dX5_countOn_34 : decode cX5_countOn 34 = .ok (.ireturn, 1) := by decide +kernel
theorem dX6_init_0 : decode cX6_init 0 = .ok (.aload_n 0, 1) := by decide +kernel
theorem dX6_init_1 : decode cX6_init 1 = .ok (.invokespecial 3, 3) := by decide +kernel
theorem dX6_init_4 : decode cX6_init 4 = .ok (.aload_n 0, 1) := by decide +kernel
theorem dX6_init_5 : decode cX6_init 5 = .ok (.bipush 10, 2) := by decide +kernel
theorem dX6_init_7 : decode cX6_init 7 = .ok (.newarray .int, 2) := by decide +kernel
theorem dX6_init_9 : decode cX6_init 9 = .ok (.putfield 9, 3) := by decide +kernel
theorem dX6_init_12 : decode cX6_init 12 = .ok (.return_, 1) := by decide +kernel
theorem dX6_copyFrom_0 : decode cX6_copyFrom 0 = .ok (.aload_n 1, 1) := by decide +kernel
theorem dX6_copyFrom_1 : decode cX6_copyFrom 1 = .ok (.getfield 9, 3) := by decide +kernel
theorem dX6_copyFrom_4 : decode cX6_copyFrom 4 = .ok (.aload_n 0, 1) := by decide +kernel
theorem dX6_copyFrom_5 : decode cX6_copyFrom 5 = .ok (.getfield 9, 3) := by decide +kernel
theorem dX6_copyFrom_8 : decode cX6_copyFrom 8 = .ok (.invokestatic 15, 3) := by decide +kernel
theorem dX6_copyFrom_11 : decode cX6_copyFrom 11 = .ok (.aload_n 0, 1) := by decide +kernel
theorem dX6_copyFrom_12 : decode cX6_copyFrom 12 = .ok (.aload_n 1, 1) := by decide +kernel
theorem dX6_copyFrom_13 : decode cX6_copyFrom 13 = .ok (.getfield 19, 3) := by decide +kernel
theorem dX6_copyFrom_16 : decode cX6_copyFrom 16 = .ok (.putfield 19, 3) := by decide +kernel
theorem dX6_copyFrom_19 : decode cX6_copyFrom 19 = .ok (.aload_n 0, 1) := by decide +kernel
theorem dX6_copyFrom_20 : decode cX6_copyFrom 20 = .ok (.aload_n 1, 1) := by decide +kernel
theorem dX6_copyFrom_21 : decode cX6_copyFrom 21 = .ok (.getfield 23, 3) := by decide +kernel
theorem dX6_copyFrom_24 : decode cX6_copyFrom 24 = .ok (.putfield 23, 3) := by decide +kernel
theorem dX6_copyFrom_27 : decode cX6_copyFrom 27 = .ok (.aload_n 0, 1) := by decide +kernel
theorem dX6_copyFrom_28 : decode cX6_copyFrom 28 = .ok (.aload_n 1, 1) := by decide +kernel
theorem dX6_copyFrom_29 : decode cX6_copyFrom 29 = .ok (.getfield 26, 3) := by decide +kernel
theorem dX6_copyFrom_32 : decode cX6_copyFrom 32 = .ok (.putfield 26, 3) := by decide +kernel
theorem dX6_copyFrom_35 : decode cX6_copyFrom 35 = .ok (.return_, 1) := by decide +kernel
theorem dX6_hasStop_0 : decode cX6_hasStop 0 = .ok (.iload_n 1, 1) := by decide +kernel
theorem dX6_hasStop_1 : decode cX6_hasStop 1 = .ok (.aload_n 0, 1) := by decide +kernel
theorem dX6_hasStop_2 : decode cX6_hasStop 2 = .ok (.getfield 19, 3) := by decide +kernel
theorem dX6_hasStop_5 : decode cX6_hasStop 5 = .ok (.invokestatic 29, 3) := by decide +kernel
theorem dX6_hasStop_8 : decode cX6_hasStop 8 = .ok (.ireturn, 1) := by decide +kernel
theorem dX6_append_0 : decode cX6_append 0 = .ok (.aload_n 0, 1) := by decide +kernel
theorem dX6_append_1 : decode cX6_append 1 = .ok (.getfield 9, 3) := by decide +kernel
theorem dX6_append_4 : decode cX6_append 4 = .ok (.aload_n 0, 1) := by decide +kernel
theorem dX6_append_5 : decode cX6_append 5 = .ok (.getfield 19, 3) := by decide +kernel
theorem dX6_append_8 : decode cX6_append 8 = .ok (.iload_n 1, 1) := by decide +kernel
theorem dX6_append_9 : decode cX6_append 9 = .ok (.invokestatic 33, 3) := by decide +kernel
theorem dX6_append_12 : decode cX6_append 12 = .ok (.aload_n 0, 1) := by decide +kernel
theorem dX6_append_13 : decode cX6_append 13 = .ok (.dup, 1) := by decide +kernel
theorem dX6_append_14 : decode cX6_append 14 = .ok (.getfield 19, 3) := by decide +kernel
theorem dX6_append_17 : decode cX6_append 17 = .ok (.iconst 1, 1) := by decide +kernel
theorem dX6_append_18 : decode cX6_append 18 = .ok (.iadd, 1) := by decide +kernel
theorem dX6_append_19 : decode cX6_append 19 = .ok (.putfield 19, 3) := by decide +kernel
theorem dX6_append_22 : decode cX6_append 22 = .ok (.aload_n 0, 1) := by decide +kernel
theorem dX6_append_23 : decode cX6_append 23 = .ok (.getfield 19, 3) := by decide +kernel
theorem dX6_append_26 : decode cX6_append 26 = .ok (.ireturn, 1) := by decide +kernel
theorem dX6_remove_0 : decode cX6_remove 0 = .ok (.aload_n 0, 1) := by decide +kernel
theorem dX6_remove_1 : decode cX6_remove 1 = .ok (.getfield 9, 3) := by decide +kernel
theorem dX6_remove_4 : decode cX6_remove 4 = .ok (.iload_n 1, 1) := by decide +kernel
theorem dX6_remove_5 : decode cX6_remove 5 = .ok (.invokestatic 37, 3) := by decide +kernel
theorem dX6_remove_8 : decode cX6_remove 8 = .ok (.istore_n 2, 1) := by decide +kernel
theorem dX6_remove_9 : decode cX6_remove 9 = .ok (.aload_n 0, 1) := by decide +kernel
theorem dX6_remove_10 : decode cX6_remove 10 = .ok (.dup, 1) := by decide +kernel
theorem dX6_remove_11 : decode cX6_remove 11 = .ok (.getfield 19, 3) := by decide +kernel
theorem dX6_remove_14 : decode cX6_remove 14 = .ok (.iconst 1, 1) := by decide +kernel
theorem dX6_remove_15 : decode cX6_remove 15 = .ok (.isub, 1) := by decide +kernel
theorem dX6_remove_16 : decode cX6_remove 16 = .ok (.putfield 19, 3) := by decide +kernel
theorem dX6_remove_19 : decode cX6_remove 19 = .ok (.iload_n 1, 1) := by decide +kernel
theorem dX6_remove_20 : decode cX6_remove 20 = .ok (.istore_n 3, 1) := by decide +kernel
theorem dX6_remove_21 : decode cX6_remove 21 = .ok (.iload_n 3, 1) := by decide +kernel
theorem dX6_remove_22 : decode cX6_remove 22 = .ok (.aload_n 0, 1) := by decide +kernel
theorem dX6_remove_23 : decode cX6_remove 23 = .ok (.getfield 19, 3) := by decide +kernel
theorem dX6_remove_26 : decode cX6_remove 26 = .ok (.if_icmp .ge 27, 3) := by decide +kernel
theorem dX6_remove_29 : decode cX6_remove 29 = .ok (.aload_n 0, 1) := by decide +kernel
theorem dX6_remove_30 : decode cX6_remove 30 = .ok (.getfield 9, 3) := by decide +kernel
theorem dX6_remove_33 : decode cX6_remove 33 = .ok (.iload_n 3, 1) := by decide +kernel
theorem dX6_remove_34 : decode cX6_remove 34 = .ok (.aload_n 0, 1) := by decide +kernel
theorem dX6_remove_35 : decode cX6_remove 35 = .ok (.getfield 9, 3) := by decide +kernel
theorem dX6_remove_38 : decode cX6_remove 38 = .ok (.iload_n 3, 1) := by decide +kernel
theorem dX6_remove_39 : decode cX6_remove 39 = .ok (.iconst 1, 1) := by decide +kernel
theorem dX6_remove_40 : decode cX6_remove 40 = .ok (.iadd, 1) := by decide +kernel
theorem dX6_remove_41 : decode cX6_remove 41 = .ok (.invokestatic 37, 3) := by decide +kernel
theorem dX6_remove_44 : decode cX6_remove 44 = .ok (.invokestatic 33, 3) := by decide +kernel
theorem dX6_remove_47 : decode cX6_remove 47 = .ok (.iinc 3 1, 3) := by decide +kernel
theorem dX6_remove_50 : decode cX6_remove 50 = .ok (.goto (-29), 3) := by decide +kernel
theorem dX6_remove_53 : decode cX6_remove 53 = .ok (.iload_n 1, 1) := by decide +kernel
theorem dX6_remove_54 : decode cX6_remove 54 = .ok (.aload_n 0, 1) := by decide +kernel
theorem dX6_remove_55 : decode cX6_remove 55 = .ok (.getfield 26, 3) := by decide +kernel
theorem dX6_remove_58 : decode cX6_remove 58 = .ok (.if_icmp .ge 16, 3) := by decide +kernel
theorem dX6_remove_61 : decode cX6_remove 61 = .ok (.aload_n 0, 1) := by decide +kernel
theorem dX6_remove_62 : decode cX6_remove 62 = .ok (.dup, 1) := by decide +kernel
theorem dX6_remove_63 : decode cX6_remove 63 = .ok (.getfield 26, 3) := by decide +kernel
theorem dX6_remove_66 : decode cX6_remove 66 = .ok (.iconst 1, 1) := by decide +kernel
theorem dX6_remove_67 : decode cX6_remove 67 = .ok (.isub, 1) := by decide +kernel
theorem dX6_remove_68 : decode cX6_remove 68 = .ok (.putfield 26, 3) := by decide +kernel
theorem dX6_remove_71 : decode cX6_remove 71 = .ok (.goto 19, 3) := by decide +kernel
theorem dX6_remove_74 : decode cX6_remove 74 = .ok (.aload_n 0, 1) := by decide +kernel
theorem dX6_remove_75 : decode cX6_remove 75 = .ok (.getfield 26, 3) := by decide +kernel
theorem dX6_remove_78 : decode cX6_remove 78 = .ok (.aload_n 0, 1) := by decide +kernel
theorem dX6_remove_79 : decode cX6_remove 79 = .ok (.getfield 19, 3) := by decide +kernel
theorem dX6_remove_82 : decode cX6_remove 82 = .ok (.if_icmp .lt 8, 3) := by decide +kernel
theorem dX6_remove_85 : decode cX6_remove 85 = .ok (.aload_n 0, 1) := by decide +kernel
theorem dX6_remove_86 : decode cX6_remove 86 = .ok (.iconst 0, 1) := by decide +kernel
theorem dX6_remove_87 : decode cX6_remove 87 = .ok (.putfield 26, 3) := by decide +kernel
theorem dX6_remove_90 : decode cX6_remove 90 = .ok (.iload_n 2, 1) := by decide +kernel
theorem dX6_remove_91 : decode cX6_remove 91 = .ok (.ireturn, 1) := by decide +kernel
theorem dX6_shelfOfGoal_0 : decode cX6_shelfOfGoal 0 = .ok (.aload_n 0, 1) := by decide +kernel
theorem dX6_shelfOfGoal_1 : decode cX6_shelfOfGoal 1 = .ok (.getfield 9, 3) := by decide +kernel
theorem dX6_shelfOfGoal_4 : decode cX6_shelfOfGoal 4 = .ok (.aload_n 0, 1) := by decide +kernel
theorem dX6_shelfOfGoal_5 : decode cX6_shelfOfGoal 5 = .ok (.getfield 26, 3) := by decide +kernel
theorem dX6_shelfOfGoal_8 : decode cX6_shelfOfGoal 8 = .ok (.invokestatic 37, 3) := by decide +kernel
theorem dX6_shelfOfGoal_11 : decode cX6_shelfOfGoal 11 = .ok (.ireturn, 1) := by decide +kernel
theorem dX6_stopAfter_0 : decode cX6_stopAfter 0 = .ok (.iload_n 1, 1) := by decide +kernel
theorem dX6_stopAfter_1 : decode cX6_stopAfter 1 = .ok (.iconst 1, 1) := by decide +kernel
theorem dX6_stopAfter_2 : decode cX6_stopAfter 2 = .ok (.iadd, 1) := by decide +kernel
theorem dX6_stopAfter_3 : decode cX6_stopAfter 3 = .ok (.aload_n 0, 1) := by decide +kernel
theorem dX6_stopAfter_4 : decode cX6_stopAfter 4 = .ok (.getfield 19, 3) := by decide +kernel
theorem dX6_stopAfter_7 : decode cX6_stopAfter 7 = .ok (.if_icmp .ge 9, 3) := by decide +kernel
theorem dX6_stopAfter_10 : decode cX6_stopAfter 10 = .ok (.iload_n 1, 1) := by decide +kernel
theorem dX6_stopAfter_11 : decode cX6_stopAfter 11 = .ok (.iconst 1, 1) := by decide +kernel
theorem dX6_stopAfter_12 : decode cX6_stopAfter 12 = .ok (.iadd, 1) := by decide +kernel
theorem dX6_stopAfter_13 : decode cX6_stopAfter 13 = .ok (.goto 4, 3) := by decide +kernel
theorem dX6_stopAfter_16 : decode cX6_stopAfter 16 = .ok (.iconst 0, 1) := by decide +kernel
theorem dX6_stopAfter_17 : decode cX6_stopAfter 17 = .ok (.ireturn, 1) := by decide +kernel
theorem dX6_leaveReachedGoal_0 : decode cX6_leaveReachedGoal 0 = .ok (.aload_n 0, 1) := by decide +kernel
theorem dX6_leaveReachedGoal_1 : decode cX6_leaveReachedGoal 1 = .ok (.getfield 19, 3) := by decide +kernel
theorem dX6_leaveReachedGoal_4 : decode cX6_leaveReachedGoal 4 = .ok (.ifCond .le 26, 3) := by decide +kernel
theorem dX6_leaveReachedGoal_7 : decode cX6_leaveReachedGoal 7 = .ok (.aload_n 0, 1) := by decide +kernel
theorem dX6_leaveReachedGoal_8 : decode cX6_leaveReachedGoal 8 = .ok (.getfield 23, 3) := by decide +kernel
theorem dX6_leaveReachedGoal_11 : decode cX6_leaveReachedGoal 11 = .ok (.aload_n 0, 1) := by decide +kernel
theorem dX6_leaveReachedGoal_12 : decode cX6_leaveReachedGoal 12 = .ok (.invokevirtual 41, 3) := by decide +kernel
theorem dX6_leaveReachedGoal_15 : decode cX6_leaveReachedGoal 15 = .ok (.if_icmp .ne 15, 3) := by decide +kernel
theorem dX6_leaveReachedGoal_18 : decode cX6_leaveReachedGoal 18 = .ok (.aload_n 0, 1) := by decide +kernel
theorem dX6_leaveReachedGoal_19 : decode cX6_leaveReachedGoal 19 = .ok (.aload_n 0, 1) := by decide +kernel
theorem dX6_leaveReachedGoal_20 : decode cX6_leaveReachedGoal 20 = .ok (.aload_n 0, 1) := by decide +kernel
theorem dX6_leaveReachedGoal_21 : decode cX6_leaveReachedGoal 21 = .ok (.getfield 26, 3) := by decide +kernel
theorem dX6_leaveReachedGoal_24 : decode cX6_leaveReachedGoal 24 = .ok (.invokevirtual 45, 3) := by decide +kernel
theorem dX6_leaveReachedGoal_27 : decode cX6_leaveReachedGoal 27 = .ok (.putfield 26, 3) := by decide +kernel
theorem dX6_leaveReachedGoal_30 : decode cX6_leaveReachedGoal 30 = .ok (.return_, 1) := by decide +kernel
theorem dX8_init_0 : decode cX8_init 0 = .ok (.aload_n 0, 1) := by decide +kernel
theorem dX8_init_1 : decode cX8_init 1 = .ok (.invokespecial 3, 3) := by decide +kernel
theorem dX8_init_4 : decode cX8_init 4 = .ok (.aload_n 0, 1) := by decide +kernel
theorem dX8_init_5 : decode cX8_init 5 = .ok (.bipush 60, 2) := by decide +kernel
theorem dX8_init_7 : decode cX8_init 7 = .ok (.newarray .char, 2) := by decide +kernel
theorem dX8_init_9 : decode cX8_init 9 = .ok (.putfield 9, 3) := by decide +kernel
theorem dX8_init_12 : decode cX8_init 12 = .ok (.aload_n 0, 1) := by decide +kernel
theorem dX8_init_13 : decode cX8_init 13 = .ok (.getstatic 15, 3) := by decide +kernel
theorem dX8_init_16 : decode cX8_init 16 = .ok (.putfield 21, 3) := by decide +kernel
theorem dX8_init_19 : decode cX8_init 19 = .ok (.return_, 1) := by decide +kernel
theorem dX8_append_0 : decode cX8_append 0 = .ok (.aload_n 0, 1) := by decide +kernel
theorem dX8_append_1 : decode cX8_append 1 = .ok (.getfield 24, 3) := by decide +kernel
theorem dX8_append_4 : decode cX8_append 4 = .ok (.ifCond .lt 35, 3) := by decide +kernel
theorem dX8_append_7 : decode cX8_append 7 = .ok (.aload_n 0, 1) := by decide +kernel
theorem dX8_append_8 : decode cX8_append 8 = .ok (.getfield 24, 3) := by decide +kernel
theorem dX8_append_11 : decode cX8_append 11 = .ok (.aload_n 0, 1) := by decide +kernel
theorem dX8_append_12 : decode cX8_append 12 = .ok (.getfield 9, 3) := by decide +kernel
theorem dX8_append_15 : decode cX8_append 15 = .ok (.arraylength, 1) := by decide +kernel
theorem dX8_append_16 : decode cX8_append 16 = .ok (.if_icmp .ge 23, 3) := by decide +kernel
theorem dX8_append_19 : decode cX8_append 19 = .ok (.aload_n 0, 1) := by decide +kernel
theorem dX8_append_20 : decode cX8_append 20 = .ok (.getfield 9, 3) := by decide +kernel
theorem dX8_append_23 : decode cX8_append 23 = .ok (.aload_n 0, 1) := by decide +kernel
theorem dX8_append_24 : decode cX8_append 24 = .ok (.getfield 24, 3) := by decide +kernel
theorem dX8_append_27 : decode cX8_append 27 = .ok (.iload_n 1, 1) := by decide +kernel
theorem dX8_append_28 : decode cX8_append 28 = .ok (.castore, 1) := by decide +kernel
theorem dX8_append_29 : decode cX8_append 29 = .ok (.aload_n 0, 1) := by decide +kernel
theorem dX8_append_30 : decode cX8_append 30 = .ok (.dup, 1) := by decide +kernel
theorem dX8_append_31 : decode cX8_append 31 = .ok (.getfield 24, 3) := by decide +kernel
theorem dX8_append_34 : decode cX8_append 34 = .ok (.iconst 1, 1) := by decide +kernel
theorem dX8_append_35 : decode cX8_append 35 = .ok (.iadd, 1) := by decide +kernel
theorem dX8_append_36 : decode cX8_append 36 = .ok (.putfield 24, 3) := by decide +kernel
theorem dX8_append_39 : decode cX8_append 39 = .ok (.return_, 1) := by decide +kernel
theorem dX8_clear_0 : decode cX8_clear 0 = .ok (.aload_n 0, 1) := by decide +kernel
theorem dX8_clear_1 : decode cX8_clear 1 = .ok (.iconst 0, 1) := by decide +kernel
theorem dX8_clear_2 : decode cX8_clear 2 = .ok (.putfield 24, 3) := by decide +kernel
theorem dX8_clear_5 : decode cX8_clear 5 = .ok (.return_, 1) := by decide +kernel
theorem dX8_rewind_0 : decode cX8_rewind 0 = .ok (.aload_n 0, 1) := by decide +kernel
theorem dX8_rewind_1 : decode cX8_rewind 1 = .ok (.iconst 0, 1) := by decide +kernel
theorem dX8_rewind_2 : decode cX8_rewind 2 = .ok (.putfield 28, 3) := by decide +kernel
theorem dX8_rewind_5 : decode cX8_rewind 5 = .ok (.return_, 1) := by decide +kernel
theorem dX8_findFault_0 : decode cX8_findFault 0 = .ok (.aload_n 0, 1) := by decide +kernel
theorem dX8_findFault_1 : decode cX8_findFault 1 = .ok (.iconst 0, 1) := by decide +kernel
theorem dX8_findFault_2 : decode cX8_findFault 2 = .ok (.putfield 28, 3) := by decide +kernel
theorem dX8_findFault_5 : decode cX8_findFault 5 = .ok (.aload_n 0, 1) := by decide +kernel
theorem dX8_findFault_6 : decode cX8_findFault 6 = .ok (.iconst 0, 1) := by decide +kernel
theorem dX8_findFault_7 : decode cX8_findFault 7 = .ok (.putfield 31, 3) := by decide +kernel
theorem dX8_findFault_10 : decode cX8_findFault 10 = .ok (.iconst 0, 1) := by decide +kernel
theorem dX8_findFault_11 : decode cX8_findFault 11 = .ok (.istore_n 1, 1) := by decide +kernel
theorem dX8_findFault_12 : decode cX8_findFault 12 = .ok (.iload_n 1, 1) := by decide +kernel
theorem dX8_findFault_13 : decode cX8_findFault 13 = .ok (.bipush 60, 2) := by decide +kernel
theorem dX8_findFault_15 : decode cX8_findFault 15 = .ok (.if_icmp .ge 58, 3) := by decide +kernel
theorem dX8_findFault_18 : decode cX8_findFault 18 = .ok (.aload_n 0, 1) := by decide +kernel
theorem dX8_findFault_19 : decode cX8_findFault 19 = .ok (.invokevirtual 34, 3) := by decide +kernel
theorem dX8_findFault_22 : decode cX8_findFault 22 = .ok (.ifCond .ne 8, 3) := by decide +kernel
theorem dX8_findFault_25 : decode cX8_findFault 25 = .ok (.aload_n 0, 1) := by decide +kernel
theorem dX8_findFault_26 : decode cX8_findFault 26 = .ok (.getfield 28, 3) := by decide +kernel
theorem dX8_findFault_29 : decode cX8_findFault 29 = .ok (.ireturn, 1) := by decide +kernel
theorem dX8_findFault_30 : decode cX8_findFault 30 = .ok (.aload_n 0, 1) := by decide +kernel
theorem dX8_findFault_31 : decode cX8_findFault 31 = .ok (.dup, 1) := by decide +kernel
theorem dX8_findFault_32 : decode cX8_findFault 32 = .ok (.getfield 31, 3) := by decide +kernel
theorem dX8_findFault_35 : decode cX8_findFault 35 = .ok (.iconst 1, 1) := by decide +kernel
theorem dX8_findFault_36 : decode cX8_findFault 36 = .ok (.iadd, 1) := by decide +kernel
theorem dX8_findFault_37 : decode cX8_findFault 37 = .ok (.putfield 31, 3) := by decide +kernel
theorem dX8_findFault_40 : decode cX8_findFault 40 = .ok (.aload_n 0, 1) := by decide +kernel
theorem dX8_findFault_41 : decode cX8_findFault 41 = .ok (.getfield 28, 3) := by decide +kernel
theorem dX8_findFault_44 : decode cX8_findFault 44 = .ok (.aload_n 0, 1) := by decide +kernel
theorem dX8_findFault_45 : decode cX8_findFault 45 = .ok (.getfield 24, 3) := by decide +kernel
theorem dX8_findFault_48 : decode cX8_findFault 48 = .ok (.if_icmp .lt 5, 3) := by decide +kernel
theorem dX8_findFault_51 : decode cX8_findFault 51 = .ok (.iconst (-1), 1) := by decide +kernel
theorem dX8_findFault_52 : decode cX8_findFault 52 = .ok (.ireturn, 1) := by decide +kernel
theorem dX8_findFault_53 : decode cX8_findFault 53 = .ok (.aload_n 0, 1) := by decide +kernel
theorem dX8_findFault_54 : decode cX8_findFault 54 = .ok (.bipush 59, 2) := by decide +kernel
theorem dX8_findFault_56 : decode cX8_findFault 56 = .ok (.invokevirtual 38, 3) := by decide +kernel
theorem dX8_findFault_59 : decode cX8_findFault 59 = .ok (.ifCond .ne 8, 3) := by decide +kernel
theorem dX8_findFault_62 : decode cX8_findFault 62 = .ok (.aload_n 0, 1) := by decide +kernel
theorem dX8_findFault_63 : decode cX8_findFault 63 = .ok (.getfield 28, 3) := by decide +kernel
theorem dX8_findFault_66 : decode cX8_findFault 66 = .ok (.ireturn, 1) := by decide +kernel
theorem dX8_findFault_67 : decode cX8_findFault 67 = .ok (.iinc 1 1, 3) := by decide +kernel
theorem dX8_findFault_70 : decode cX8_findFault 70 = .ok (.goto (-58), 3) := by decide +kernel
theorem dX8_findFault_73 : decode cX8_findFault 73 = .ok (.aload_n 0, 1) := by decide +kernel
theorem dX8_findFault_74 : decode cX8_findFault 74 = .ok (.getfield 28, 3) := by decide +kernel
theorem dX8_findFault_77 : decode cX8_findFault 77 = .ok (.ireturn, 1) := by decide +kernel
theorem dX8_readCommand_0 : decode cX8_readCommand 0 = .ok (.aload_n 0, 1) := by decide +kernel
theorem dX8_readCommand_1 : decode cX8_readCommand 1 = .ok (.invokevirtual 34, 3) := by decide +kernel
theorem dX8_readCommand_4 : decode cX8_readCommand 4 = .ok (.pop, 1) := by decide +kernel
theorem dX8_readCommand_5 : decode cX8_readCommand 5 = .ok (.aload_n 0, 1) := by decide +kernel
theorem dX8_readCommand_6 : decode cX8_readCommand 6 = .ok (.bipush 59, 2) := by decide +kernel
theorem dX8_readCommand_8 : decode cX8_readCommand 8 = .ok (.invokevirtual 38, 3) := by decide +kernel
theorem dX8_readCommand_11 : decode cX8_readCommand 11 = .ok (.pop, 1) := by decide +kernel
theorem dX8_readCommand_12 : decode cX8_readCommand 12 = .ok (.return_, 1) := by decide +kernel
theorem dX8_readPatterns_0 : decode cX8_readPatterns 0 = .ok (.aload_n 0, 1) := by decide +kernel
theorem dX8_readPatterns_1 : decode cX8_readPatterns 1 = .ok (.getfield 28, 3) := by decide +kernel
theorem dX8_readPatterns_4 : decode cX8_readPatterns 4 = .ok (.istore_n 1, 1) := by decide +kernel
theorem dX8_readPatterns_5 : decode cX8_readPatterns 5 = .ok (.iload_n 1, 1) := by decide +kernel
theorem dX8_readPatterns_6 : decode cX8_readPatterns 6 = .ok (.istore_n 2, 1) := by decide +kernel
theorem dX8_readPatterns_7 : decode cX8_readPatterns 7 = .ok (.iconst 0, 1) := by decide +kernel
theorem dX8_readPatterns_8 : decode cX8_readPatterns 8 = .ok (.istore_n 3, 1) := by decide +kernel
theorem dX8_readPatterns_9 : decode cX8_readPatterns 9 = .ok (.iload_n 3, 1) := by decide +kernel
theorem dX8_readPatterns_10 : decode cX8_readPatterns 10 = .ok (.getstatic 42, 3) := by decide +kernel
theorem dX8_readPatterns_13 : decode cX8_readPatterns 13 = .ok (.arraylength, 1) := by decide +kernel
theorem dX8_readPatterns_14 : decode cX8_readPatterns 14 = .ok (.if_icmp .ge 49, 3) := by decide +kernel
theorem dX8_readPatterns_17 : decode cX8_readPatterns 17 = .ok (.aload_n 0, 1) := by decide +kernel
theorem dX8_readPatterns_18 : decode cX8_readPatterns 18 = .ok (.iload_n 1, 1) := by decide +kernel
theorem dX8_readPatterns_19 : decode cX8_readPatterns 19 = .ok (.putfield 28, 3) := by decide +kernel
theorem dX8_readPatterns_22 : decode cX8_readPatterns 22 = .ok (.aload_n 0, 1) := by decide +kernel
theorem dX8_readPatterns_23 : decode cX8_readPatterns 23 = .ok (.getstatic 42, 3) := by decide +kernel
theorem dX8_readPatterns_26 : decode cX8_readPatterns 26 = .ok (.iload_n 3, 1) := by decide +kernel
theorem dX8_readPatterns_27 : decode cX8_readPatterns 27 = .ok (.aaload, 1) := by decide +kernel
theorem dX8_readPatterns_28 : decode cX8_readPatterns 28 = .ok (.getfield 46, 3) := by decide +kernel
theorem dX8_readPatterns_31 : decode cX8_readPatterns 31 = .ok (.invokevirtual 50, 3) := by decide +kernel
theorem dX8_readPatterns_34 : decode cX8_readPatterns 34 = .ok (.ifCond .eq 14, 3) := by decide +kernel
theorem dX8_readPatterns_37 : decode cX8_readPatterns 37 = .ok (.aload_n 0, 1) := by decide +kernel
theorem dX8_readPatterns_38 : decode cX8_readPatterns 38 = .ok (.getstatic 42, 3) := by decide +kernel
theorem dX8_readPatterns_41 : decode cX8_readPatterns 41 = .ok (.iload_n 3, 1) := by decide +kernel
theorem dX8_readPatterns_42 : decode cX8_readPatterns 42 = .ok (.aaload, 1) := by decide +kernel
theorem dX8_readPatterns_43 : decode cX8_readPatterns 43 = .ok (.putfield 21, 3) := by decide +kernel
theorem dX8_readPatterns_46 : decode cX8_readPatterns 46 = .ok (.iconst 1, 1) := by decide +kernel
theorem dX8_readPatterns_47 : decode cX8_readPatterns 47 = .ok (.ireturn, 1) := by decide +kernel
theorem dX8_readPatterns_48 : decode cX8_readPatterns 48 = .ok (.iload_n 2, 1) := by decide +kernel
theorem dX8_readPatterns_49 : decode cX8_readPatterns 49 = .ok (.aload_n 0, 1) := by decide +kernel
theorem dX8_readPatterns_50 : decode cX8_readPatterns 50 = .ok (.getfield 28, 3) := by decide +kernel
theorem dX8_readPatterns_53 : decode cX8_readPatterns 53 = .ok (.invokestatic 54, 3) := by decide +kernel
theorem dX8_readPatterns_56 : decode cX8_readPatterns 56 = .ok (.istore_n 2, 1) := by decide +kernel
theorem dX8_readPatterns_57 : decode cX8_readPatterns 57 = .ok (.iinc 3 1, 3) := by decide +kernel
theorem dX8_readPatterns_60 : decode cX8_readPatterns 60 = .ok (.goto (-51), 3) := by decide +kernel
theorem dX8_readPatterns_63 : decode cX8_readPatterns 63 = .ok (.aload_n 0, 1) := by decide +kernel
theorem dX8_readPatterns_64 : decode cX8_readPatterns 64 = .ok (.iload_n 2, 1) := by decide +kernel
theorem dX8_readPatterns_65 : decode cX8_readPatterns 65 = .ok (.putfield 28, 3) := by decide +kernel
theorem dX8_readPatterns_68 : decode cX8_readPatterns 68 = .ok (.iconst 0, 1) := by decide +kernel
theorem dX8_readPatterns_69 : decode cX8_readPatterns 69 = .ok (.ireturn, 1) := by decide +kernel
theorem dX8_readPattern_0 : decode cX8_readPattern 0 = .ok (.aload_n 0, 1) := by decide +kernel
theorem dX8_readPattern_1 : decode cX8_readPattern 1 = .ok (.iconst (-1), 1) := by decide +kernel
theorem dX8_readPattern_2 : decode cX8_readPattern 2 = .ok (.putfield 60, 3) := by decide +kernel
theorem dX8_readPattern_5 : decode cX8_readPattern 5 = .ok (.aload_n 0, 1) := by decide +kernel
theorem dX8_readPattern_6 : decode cX8_readPattern 6 = .ok (.iconst (-1), 1) := by decide +kernel
theorem dX8_readPattern_7 : decode cX8_readPattern 7 = .ok (.putfield 63, 3) := by decide +kernel
theorem dX8_readPattern_10 : decode cX8_readPattern 10 = .ok (.iconst 0, 1) := by decide +kernel
theorem dX8_readPattern_11 : decode cX8_readPattern 11 = .ok (.istore_n 2, 1) := by decide +kernel
theorem dX8_readPattern_12 : decode cX8_readPattern 12 = .ok (.iload_n 2, 1) := by decide +kernel
theorem dX8_readPattern_13 : decode cX8_readPattern 13 = .ok (.aload_n 1, 1) := by decide +kernel
theorem dX8_readPattern_14 : decode cX8_readPattern 14 = .ok (.invokevirtual 66, 3) := by decide +kernel
theorem dX8_readPattern_17 : decode cX8_readPattern 17 = .ok (.if_icmp .ge 50, 3) := by decide +kernel
theorem dX8_readPattern_20 : decode cX8_readPattern 20 = .ok (.aload_n 1, 1) := by decide +kernel
theorem dX8_readPattern_21 : decode cX8_readPattern 21 = .ok (.iload_n 2, 1) := by decide +kernel
theorem dX8_readPattern_22 : decode cX8_readPattern 22 = .ok (.invokevirtual 71, 3) := by decide +kernel
theorem dX8_readPattern_25 : decode cX8_readPattern 25 = .ok (.istore_n 3, 1) := by decide +kernel
theorem dX8_readPattern_26 : decode cX8_readPattern 26 = .ok (.aload_n 0, 1) := by decide +kernel
theorem dX8_readPattern_27 : decode cX8_readPattern 27 = .ok (.iload_n 3, 1) := by decide +kernel
theorem dX8_readPattern_28 : decode cX8_readPattern 28 = .ok (.invokevirtual 75, 3) := by decide +kernel
theorem dX8_readPattern_31 : decode cX8_readPattern 31 = .ok (.istore 4, 2) := by decide +kernel
theorem dX8_readPattern_33 : decode cX8_readPattern 33 = .ok (.iload 4, 2) := by decide +kernel
theorem dX8_readPattern_35 : decode cX8_readPattern 35 = .ok (.ifCond .ne 11, 3) := by decide +kernel
theorem dX8_readPattern_38 : decode cX8_readPattern 38 = .ok (.aload_n 0, 1) := by decide +kernel
theorem dX8_readPattern_39 : decode cX8_readPattern 39 = .ok (.iload_n 3, 1) := by decide +kernel
theorem dX8_readPattern_40 : decode cX8_readPattern 40 = .ok (.invokevirtual 38, 3) := by decide +kernel
theorem dX8_readPattern_43 : decode cX8_readPattern 43 = .ok (.goto 9, 3) := by decide +kernel
theorem dX8_readPattern_46 : decode cX8_readPattern 46 = .ok (.aload_n 0, 1) := by decide +kernel
theorem dX8_readPattern_47 : decode cX8_readPattern 47 = .ok (.iload 4, 2) := by decide +kernel
theorem dX8_readPattern_49 : decode cX8_readPattern 49 = .ok (.invokevirtual 79, 3) := by decide +kernel
theorem dX8_readPattern_52 : decode cX8_readPattern 52 = .ok (.istore 5, 2) := by decide +kernel
theorem dX8_readPattern_54 : decode cX8_readPattern 54 = .ok (.iload 5, 2) := by decide +kernel
theorem dX8_readPattern_56 : decode cX8_readPattern 56 = .ok (.ifCond .ne 5, 3) := by decide +kernel
theorem dX8_readPattern_59 : decode cX8_readPattern 59 = .ok (.iconst 0, 1) := by decide +kernel
theorem dX8_readPattern_60 : decode cX8_readPattern 60 = .ok (.ireturn, 1) := by decide +kernel
theorem dX8_readPattern_61 : decode cX8_readPattern 61 = .ok (.iinc 2 1, 3) := by decide +kernel
theorem dX8_readPattern_64 : decode cX8_readPattern 64 = .ok (.goto (-52), 3) := by decide +kernel
theorem dX8_readPattern_67 : decode cX8_readPattern 67 = .ok (.iconst 1, 1) := by decide +kernel
theorem dX8_readPattern_68 : decode cX8_readPattern 68 = .ok (.ireturn, 1) := by decide +kernel
theorem dX8_mostDigits_0 : decode cX8_mostDigits 0 = .ok (.iload_n 1, 1) := by decide +kernel
theorem dX8_mostDigits_1 : decode cX8_mostDigits 1 = .ok (.bipush 68, 2) := by decide +kernel
theorem dX8_mostDigits_3 : decode cX8_mostDigits 3 = .ok (.if_icmp .ne 5, 3) := by decide +kernel
theorem dX8_mostDigits_6 : decode cX8_mostDigits 6 = .ok (.iconst 1, 1) := by decide +kernel
theorem dX8_mostDigits_7 : decode cX8_mostDigits 7 = .ok (.ireturn, 1) := by decide +kernel
theorem dX8_mostDigits_8 : decode cX8_mostDigits 8 = .ok (.iload_n 1, 1) := by decide +kernel
theorem dX8_mostDigits_9 : decode cX8_mostDigits 9 = .ok (.bipush 78, 2) := by decide +kernel
theorem dX8_mostDigits_11 : decode cX8_mostDigits 11 = .ok (.if_icmp .ne 5, 3) := by decide +kernel
theorem dX8_mostDigits_14 : decode cX8_mostDigits 14 = .ok (.iconst 2, 1) := by decide +kernel
theorem dX8_mostDigits_15 : decode cX8_mostDigits 15 = .ok (.ireturn, 1) := by decide +kernel
theorem dX8_mostDigits_16 : decode cX8_mostDigits 16 = .ok (.iload_n 1, 1) := by decide +kernel
theorem dX8_mostDigits_17 : decode cX8_mostDigits 17 = .ok (.bipush 76, 2) := by decide +kernel
theorem dX8_mostDigits_19 : decode cX8_mostDigits 19 = .ok (.if_icmp .ne 7, 3) := by decide +kernel
theorem dX8_mostDigits_22 : decode cX8_mostDigits 22 = .ok (.iconst 4, 1) := by decide +kernel
theorem dX8_mostDigits_23 : decode cX8_mostDigits 23 = .ok (.goto 4, 3) := by decide +kernel
theorem dX8_mostDigits_26 : decode cX8_mostDigits 26 = .ok (.iconst 0, 1) := by decide +kernel
theorem dX8_mostDigits_27 : decode cX8_mostDigits 27 = .ok (.ireturn, 1) := by decide +kernel
theorem dX8_readSign_0 : decode cX8_readSign 0 = .ok (.aload_n 0, 1) := by decide +kernel
theorem dX8_readSign_1 : decode cX8_readSign 1 = .ok (.invokevirtual 83, 3) := by decide +kernel
theorem dX8_readSign_4 : decode cX8_readSign 4 = .ok (.iload_n 1, 1) := by decide +kernel
theorem dX8_readSign_5 : decode cX8_readSign 5 = .ok (.if_icmp .eq 5, 3) := by decide +kernel
theorem dX8_readSign_8 : decode cX8_readSign 8 = .ok (.iconst 0, 1) := by decide +kernel
theorem dX8_readSign_9 : decode cX8_readSign 9 = .ok (.ireturn, 1) := by decide +kernel
theorem dX8_readSign_10 : decode cX8_readSign 10 = .ok (.aload_n 0, 1) := by decide +kernel
theorem dX8_readSign_11 : decode cX8_readSign 11 = .ok (.dup, 1) := by decide +kernel
theorem dX8_readSign_12 : decode cX8_readSign 12 = .ok (.getfield 28, 3) := by decide +kernel
theorem dX8_readSign_15 : decode cX8_readSign 15 = .ok (.iconst 1, 1) := by decide +kernel
theorem dX8_readSign_16 : decode cX8_readSign 16 = .ok (.iadd, 1) := by decide +kernel
theorem dX8_readSign_17 : decode cX8_readSign 17 = .ok (.putfield 28, 3) := by decide +kernel
theorem dX8_readSign_20 : decode cX8_readSign 20 = .ok (.iconst 1, 1) := by decide +kernel
theorem dX8_readSign_21 : decode cX8_readSign 21 = .ok (.ireturn, 1) := by decide +kernel
theorem dX8_readNumber_0 : decode cX8_readNumber 0 = .ok (.iconst 0, 1) := by decide +kernel
theorem dX8_readNumber_1 : decode cX8_readNumber 1 = .ok (.istore_n 2, 1) := by decide +kernel
theorem dX8_readNumber_2 : decode cX8_readNumber 2 = .ok (.iconst 0, 1) := by decide +kernel
theorem dX8_readNumber_3 : decode cX8_readNumber 3 = .ok (.istore_n 3, 1) := by decide +kernel
theorem dX8_readNumber_4 : decode cX8_readNumber 4 = .ok (.iload_n 3, 1) := by decide +kernel
theorem dX8_readNumber_5 : decode cX8_readNumber 5 = .ok (.iload_n 1, 1) := by decide +kernel
theorem dX8_readNumber_6 : decode cX8_readNumber 6 = .ok (.if_icmp .ge 43, 3) := by decide +kernel
theorem dX8_readNumber_9 : decode cX8_readNumber 9 = .ok (.aload_n 0, 1) := by decide +kernel
theorem dX8_readNumber_10 : decode cX8_readNumber 10 = .ok (.aload_n 0, 1) := by decide +kernel
theorem dX8_readNumber_11 : decode cX8_readNumber 11 = .ok (.invokevirtual 83, 3) := by decide +kernel
theorem dX8_readNumber_14 : decode cX8_readNumber 14 = .ok (.invokevirtual 87, 3) := by decide +kernel
theorem dX8_readNumber_17 : decode cX8_readNumber 17 = .ok (.ifCond .eq 32, 3) := by decide +kernel
theorem dX8_readNumber_20 : decode cX8_readNumber 20 = .ok (.iload_n 2, 1) := by decide +kernel
theorem dX8_readNumber_21 : decode cX8_readNumber 21 = .ok (.bipush 10, 2) := by decide +kernel
theorem dX8_readNumber_23 : decode cX8_readNumber 23 = .ok (.imul, 1) := by decide +kernel
theorem dX8_readNumber_24 : decode cX8_readNumber 24 = .ok (.aload_n 0, 1) := by decide +kernel
theorem dX8_readNumber_25 : decode cX8_readNumber 25 = .ok (.invokevirtual 83, 3) := by decide +kernel
theorem dX8_readNumber_28 : decode cX8_readNumber 28 = .ok (.bipush 48, 2) := by decide +kernel
theorem dX8_readNumber_30 : decode cX8_readNumber 30 = .ok (.isub, 1) := by decide +kernel
theorem dX8_readNumber_31 : decode cX8_readNumber 31 = .ok (.iadd, 1) := by decide +kernel
theorem dX8_readNumber_32 : decode cX8_readNumber 32 = .ok (.istore_n 2, 1) := by decide +kernel
theorem dX8_readNumber_33 : decode cX8_readNumber 33 = .ok (.aload_n 0, 1) := by decide +kernel
theorem dX8_readNumber_34 : decode cX8_readNumber 34 = .ok (.dup, 1) := by decide +kernel
theorem dX8_readNumber_35 : decode cX8_readNumber 35 = .ok (.getfield 28, 3) := by decide +kernel
theorem dX8_readNumber_38 : decode cX8_readNumber 38 = .ok (.iconst 1, 1) := by decide +kernel
theorem dX8_readNumber_39 : decode cX8_readNumber 39 = .ok (.iadd, 1) := by decide +kernel
theorem dX8_readNumber_40 : decode cX8_readNumber 40 = .ok (.putfield 28, 3) := by decide +kernel
theorem dX8_readNumber_43 : decode cX8_readNumber 43 = .ok (.iinc 3 1, 3) := by decide +kernel
theorem dX8_readNumber_46 : decode cX8_readNumber 46 = .ok (.goto (-42), 3) := by decide +kernel
theorem dX8_readNumber_49 : decode cX8_readNumber 49 = .ok (.aload_n 0, 1) := by decide +kernel
theorem dX8_readNumber_50 : decode cX8_readNumber 50 = .ok (.getfield 60, 3) := by decide +kernel
theorem dX8_readNumber_53 : decode cX8_readNumber 53 = .ok (.iconst (-1), 1) := by decide +kernel
theorem dX8_readNumber_54 : decode cX8_readNumber 54 = .ok (.if_icmp .ne 11, 3) := by decide +kernel
theorem dX8_readNumber_57 : decode cX8_readNumber 57 = .ok (.aload_n 0, 1) := by decide +kernel
theorem dX8_readNumber_58 : decode cX8_readNumber 58 = .ok (.iload_n 2, 1) := by decide +kernel
theorem dX8_readNumber_59 : decode cX8_readNumber 59 = .ok (.putfield 60, 3) := by decide +kernel
theorem dX8_readNumber_62 : decode cX8_readNumber 62 = .ok (.goto 8, 3) := by decide +kernel
theorem dX8_readNumber_65 : decode cX8_readNumber 65 = .ok (.aload_n 0, 1) := by decide +kernel
theorem dX8_readNumber_66 : decode cX8_readNumber 66 = .ok (.iload_n 2, 1) := by decide +kernel
theorem dX8_readNumber_67 : decode cX8_readNumber 67 = .ok (.putfield 63, 3) := by decide +kernel
theorem dX8_readNumber_70 : decode cX8_readNumber 70 = .ok (.iload_n 3, 1) := by decide +kernel
theorem dX8_readNumber_71 : decode cX8_readNumber 71 = .ok (.ifCond .le 7, 3) := by decide +kernel
theorem dX8_readNumber_74 : decode cX8_readNumber 74 = .ok (.iconst 1, 1) := by decide +kernel
theorem dX8_readNumber_75 : decode cX8_readNumber 75 = .ok (.goto 4, 3) := by decide +kernel
theorem dX8_readNumber_78 : decode cX8_readNumber 78 = .ok (.iconst 0, 1) := by decide +kernel
theorem dX8_readNumber_79 : decode cX8_readNumber 79 = .ok (.ireturn, 1) := by decide +kernel
theorem dX8_isDigit_0 : decode cX8_isDigit 0 = .ok (.iload_n 1, 1) := by decide +kernel
theorem dX8_isDigit_1 : decode cX8_isDigit 1 = .ok (.bipush 48, 2) := by decide +kernel
theorem dX8_isDigit_3 : decode cX8_isDigit 3 = .ok (.if_icmp .lt 13, 3) := by decide +kernel
theorem dX8_isDigit_6 : decode cX8_isDigit 6 = .ok (.iload_n 1, 1) := by decide +kernel
theorem dX8_isDigit_7 : decode cX8_isDigit 7 = .ok (.bipush 57, 2) := by decide +kernel
theorem dX8_isDigit_9 : decode cX8_isDigit 9 = .ok (.if_icmp .gt 7, 3) := by decide +kernel
theorem dX8_isDigit_12 : decode cX8_isDigit 12 = .ok (.iconst 1, 1) := by decide +kernel
theorem dX8_isDigit_13 : decode cX8_isDigit 13 = .ok (.goto 4, 3) := by decide +kernel
theorem dX8_isDigit_16 : decode cX8_isDigit 16 = .ok (.iconst 0, 1) := by decide +kernel
theorem dX8_isDigit_17 : decode cX8_isDigit 17 = .ok (.ireturn, 1) := by decide +kernel
theorem dX8_presentSign_0 : decode cX8_presentSign 0 = .ok (.aload_n 0, 1) := by decide +kernel
theorem dX8_presentSign_1 : decode cX8_presentSign 1 = .ok (.getfield 28, 3) := by decide +kernel
theorem dX8_presentSign_4 : decode cX8_presentSign 4 = .ok (.ifCond .lt 30, 3) := by decide +kernel
theorem dX8_presentSign_7 : decode cX8_presentSign 7 = .ok (.aload_n 0, 1) := by decide +kernel
theorem dX8_presentSign_8 : decode cX8_presentSign 8 = .ok (.getfield 28, 3) := by decide +kernel
theorem dX8_presentSign_11 : decode cX8_presentSign 11 = .ok (.aload_n 0, 1) := by decide +kernel
theorem dX8_presentSign_12 : decode cX8_presentSign 12 = .ok (.getfield 24, 3) := by decide +kernel
theorem dX8_presentSign_15 : decode cX8_presentSign 15 = .ok (.if_icmp .ge 19, 3) := by decide +kernel
theorem dX8_presentSign_18 : decode cX8_presentSign 18 = .ok (.aload_n 0, 1) := by decide +kernel
theorem dX8_presentSign_19 : decode cX8_presentSign 19 = .ok (.getfield 28, 3) := by decide +kernel
theorem dX8_presentSign_22 : decode cX8_presentSign 22 = .ok (.aload_n 0, 1) := by decide +kernel
theorem dX8_presentSign_23 : decode cX8_presentSign 23 = .ok (.getfield 9, 3) := by decide +kernel
theorem dX8_presentSign_26 : decode cX8_presentSign 26 = .ok (.arraylength, 1) := by decide +kernel
theorem dX8_presentSign_27 : decode cX8_presentSign 27 = .ok (.if_icmp .ge 7, 3) := by decide +kernel
theorem dX8_presentSign_30 : decode cX8_presentSign 30 = .ok (.iconst 1, 1) := by decide +kernel
theorem dX8_presentSign_31 : decode cX8_presentSign 31 = .ok (.goto 4, 3) := by decide +kernel
theorem dX8_presentSign_34 : decode cX8_presentSign 34 = .ok (.iconst 0, 1) := by decide +kernel
theorem dX8_presentSign_35 : decode cX8_presentSign 35 = .ok (.istore_n 1, 1) := by decide +kernel
theorem dX8_presentSign_36 : decode cX8_presentSign 36 = .ok (.iload_n 1, 1) := by decide +kernel
theorem dX8_presentSign_37 : decode cX8_presentSign 37 = .ok (.ifCond .eq 15, 3) := by decide +kernel
theorem dX8_presentSign_40 : decode cX8_presentSign 40 = .ok (.aload_n 0, 1) := by decide +kernel
theorem dX8_presentSign_41 : decode cX8_presentSign 41 = .ok (.getfield 9, 3) := by decide +kernel
theorem dX8_presentSign_44 : decode cX8_presentSign 44 = .ok (.aload_n 0, 1) := by decide +kernel
theorem dX8_presentSign_45 : decode cX8_presentSign 45 = .ok (.getfield 28, 3) := by decide +kernel
theorem dX8_presentSign_48 : decode cX8_presentSign 48 = .ok (.caload, 1) := by decide +kernel
theorem dX8_presentSign_49 : decode cX8_presentSign 49 = .ok (.goto 4, 3) := by decide +kernel
theorem dX8_presentSign_52 : decode cX8_presentSign 52 = .ok (.iconst 0, 1) := by decide +kernel
theorem dX8_presentSign_53 : decode cX8_presentSign 53 = .ok (.ireturn, 1) := by decide +kernel
theorem dX9_init_0 : decode cX9_init 0 = .ok (.aload_n 0, 1) := by decide +kernel
theorem dX9_init_1 : decode cX9_init 1 = .ok (.invokespecial 3, 3) := by decide +kernel
theorem dX9_init_4 : decode cX9_init 4 = .ok (.aload_n 0, 1) := by decide +kernel
theorem dX9_init_5 : decode cX9_init 5 = .ok (.bipush 12, 2) := by decide +kernel
theorem dX9_init_7 : decode cX9_init 7 = .ok (.newarray .int, 2) := by decide +kernel
theorem dX9_init_9 : decode cX9_init 9 = .ok (.putfield 9, 3) := by decide +kernel
theorem dX9_init_12 : decode cX9_init 12 = .ok (.aload_n 0, 1) := by decide +kernel
theorem dX9_init_13 : decode cX9_init 13 = .ok (.bipush 12, 2) := by decide +kernel
theorem dX9_init_15 : decode cX9_init 15 = .ok (.newarray .int, 2) := by decide +kernel
theorem dX9_init_17 : decode cX9_init 17 = .ok (.putfield 15, 3) := by decide +kernel
theorem dX9_init_20 : decode cX9_init 20 = .ok (.return_, 1) := by decide +kernel
theorem dX9_copyFrom_0 : decode cX9_copyFrom 0 = .ok (.aload_n 1, 1) := by decide +kernel
theorem dX9_copyFrom_1 : decode cX9_copyFrom 1 = .ok (.getfield 9, 3) := by decide +kernel
theorem dX9_copyFrom_4 : decode cX9_copyFrom 4 = .ok (.aload_n 0, 1) := by decide +kernel
theorem dX9_copyFrom_5 : decode cX9_copyFrom 5 = .ok (.getfield 9, 3) := by decide +kernel
theorem dX9_copyFrom_8 : decode cX9_copyFrom 8 = .ok (.invokestatic 18, 3) := by decide +kernel
theorem dX9_copyFrom_11 : decode cX9_copyFrom 11 = .ok (.aload_n 1, 1) := by decide +kernel
theorem dX9_copyFrom_12 : decode cX9_copyFrom 12 = .ok (.getfield 15, 3) := by decide +kernel
theorem dX9_copyFrom_15 : decode cX9_copyFrom 15 = .ok (.aload_n 0, 1) := by decide +kernel
theorem dX9_copyFrom_16 : decode cX9_copyFrom 16 = .ok (.getfield 15, 3) := by decide +kernel
theorem dX9_copyFrom_19 : decode cX9_copyFrom 19 = .ok (.invokestatic 18, 3) := by decide +kernel
theorem dX9_copyFrom_22 : decode cX9_copyFrom 22 = .ok (.aload_n 0, 1) := by decide +kernel
theorem dX9_copyFrom_23 : decode cX9_copyFrom 23 = .ok (.aload_n 1, 1) := by decide +kernel
theorem dX9_copyFrom_24 : decode cX9_copyFrom 24 = .ok (.getfield 22, 3) := by decide +kernel
theorem dX9_copyFrom_27 : decode cX9_copyFrom 27 = .ok (.putfield 22, 3) := by decide +kernel
theorem dX9_copyFrom_30 : decode cX9_copyFrom 30 = .ok (.aload_n 0, 1) := by decide +kernel
theorem dX9_copyFrom_31 : decode cX9_copyFrom 31 = .ok (.aload_n 1, 1) := by decide +kernel
theorem dX9_copyFrom_32 : decode cX9_copyFrom 32 = .ok (.getfield 26, 3) := by decide +kernel
theorem dX9_copyFrom_35 : decode cX9_copyFrom 35 = .ok (.putfield 26, 3) := by decide +kernel
theorem dX9_copyFrom_38 : decode cX9_copyFrom 38 = .ok (.aload_n 0, 1) := by decide +kernel
theorem dX9_copyFrom_39 : decode cX9_copyFrom 39 = .ok (.aload_n 1, 1) := by decide +kernel
theorem dX9_copyFrom_40 : decode cX9_copyFrom 40 = .ok (.getfield 29, 3) := by decide +kernel
theorem dX9_copyFrom_43 : decode cX9_copyFrom 43 = .ok (.putfield 29, 3) := by decide +kernel
theorem dX9_copyFrom_46 : decode cX9_copyFrom 46 = .ok (.return_, 1) := by decide +kernel
theorem dX9_has_0 : decode cX9_has 0 = .ok (.iload_n 1, 1) := by decide +kernel
theorem dX9_has_1 : decode cX9_has 1 = .ok (.aload_n 0, 1) := by decide +kernel
theorem dX9_has_2 : decode cX9_has 2 = .ok (.getfield 26, 3) := by decide +kernel
theorem dX9_has_5 : decode cX9_has 5 = .ok (.invokestatic 32, 3) := by decide +kernel
theorem dX9_has_8 : decode cX9_has 8 = .ok (.ireturn, 1) := by decide +kernel
theorem dX9_add_0 : decode cX9_add 0 = .ok (.aload_n 0, 1) := by decide +kernel
theorem dX9_add_1 : decode cX9_add 1 = .ok (.getfield 9, 3) := by decide +kernel
theorem dX9_add_4 : decode cX9_add 4 = .ok (.aload_n 0, 1) := by decide +kernel
theorem dX9_add_5 : decode cX9_add 5 = .ok (.getfield 26, 3) := by decide +kernel
theorem dX9_add_8 : decode cX9_add 8 = .ok (.iload_n 1, 1) := by decide +kernel
theorem dX9_add_9 : decode cX9_add 9 = .ok (.invokestatic 36, 3) := by decide +kernel
theorem dX9_add_12 : decode cX9_add 12 = .ok (.aload_n 0, 1) := by decide +kernel
theorem dX9_add_13 : decode cX9_add 13 = .ok (.dup, 1) := by decide +kernel
theorem dX9_add_14 : decode cX9_add 14 = .ok (.getfield 26, 3) := by decide +kernel
theorem dX9_add_17 : decode cX9_add 17 = .ok (.iconst 1, 1) := by decide +kernel
theorem dX9_add_18 : decode cX9_add 18 = .ok (.iadd, 1) := by decide +kernel
theorem dX9_add_19 : decode cX9_add 19 = .ok (.putfield 26, 3) := by decide +kernel
theorem dX9_add_22 : decode cX9_add 22 = .ok (.aload_n 0, 1) := by decide +kernel
theorem dX9_add_23 : decode cX9_add 23 = .ok (.getfield 26, 3) := by decide +kernel
theorem dX9_add_26 : decode cX9_add 26 = .ok (.iconst 1, 1) := by decide +kernel
theorem dX9_add_27 : decode cX9_add 27 = .ok (.isub, 1) := by decide +kernel
theorem dX9_add_28 : decode cX9_add 28 = .ok (.ireturn, 1) := by decide +kernel
theorem dX9_addGrams_0 : decode cX9_addGrams 0 = .ok (.aload_n 0, 1) := by decide +kernel
theorem dX9_addGrams_1 : decode cX9_addGrams 1 = .ok (.getfield 9, 3) := by decide +kernel
theorem dX9_addGrams_4 : decode cX9_addGrams 4 = .ok (.iload_n 1, 1) := by decide +kernel
theorem dX9_addGrams_5 : decode cX9_addGrams 5 = .ok (.aload_n 0, 1) := by decide +kernel
theorem dX9_addGrams_6 : decode cX9_addGrams 6 = .ok (.getfield 9, 3) := by decide +kernel
theorem dX9_addGrams_9 : decode cX9_addGrams 9 = .ok (.iload_n 1, 1) := by decide +kernel
theorem dX9_addGrams_10 : decode cX9_addGrams 10 = .ok (.invokestatic 40, 3) := by decide +kernel
theorem dX9_addGrams_13 : decode cX9_addGrams 13 = .ok (.iload_n 2, 1) := by decide +kernel
theorem dX9_addGrams_14 : decode cX9_addGrams 14 = .ok (.iadd, 1) := by decide +kernel
theorem dX9_addGrams_15 : decode cX9_addGrams 15 = .ok (.invokestatic 36, 3) := by decide +kernel
theorem dX9_addGrams_18 : decode cX9_addGrams 18 = .ok (.aload_n 0, 1) := by decide +kernel
theorem dX9_addGrams_19 : decode cX9_addGrams 19 = .ok (.getfield 9, 3) := by decide +kernel
theorem dX9_addGrams_22 : decode cX9_addGrams 22 = .ok (.iload_n 1, 1) := by decide +kernel
theorem dX9_addGrams_23 : decode cX9_addGrams 23 = .ok (.invokestatic 40, 3) := by decide +kernel
theorem dX9_addGrams_26 : decode cX9_addGrams 26 = .ok (.ireturn, 1) := by decide +kernel
theorem dX9_replaceBlind_0 : decode cX9_replaceBlind 0 = .ok (.aload_n 0, 1) := by decide +kernel
theorem dX9_replaceBlind_1 : decode cX9_replaceBlind 1 = .ok (.iload_n 1, 1) := by decide +kernel
theorem dX9_replaceBlind_2 : decode cX9_replaceBlind 2 = .ok (.putfield 22, 3) := by decide +kernel
theorem dX9_replaceBlind_5 : decode cX9_replaceBlind 5 = .ok (.aload_n 0, 1) := by decide +kernel
theorem dX9_replaceBlind_6 : decode cX9_replaceBlind 6 = .ok (.getfield 22, 3) := by decide +kernel
theorem dX9_replaceBlind_9 : decode cX9_replaceBlind 9 = .ok (.invokestatic 44, 3) := by decide +kernel
theorem dX9_replaceBlind_12 : decode cX9_replaceBlind 12 = .ok (.ireturn, 1) := by decide +kernel
theorem dX9_areConnected_0 : decode cX9_areConnected 0 = .ok (.aload_n 0, 1) := by decide +kernel
theorem dX9_areConnected_1 : decode cX9_areConnected 1 = .ok (.getfield 15, 3) := by decide +kernel
theorem dX9_areConnected_4 : decode cX9_areConnected 4 = .ok (.iload_n 1, 1) := by decide +kernel
theorem dX9_areConnected_5 : decode cX9_areConnected 5 = .ok (.invokestatic 40, 3) := by decide +kernel
theorem dX9_areConnected_8 : decode cX9_areConnected 8 = .ok (.iload_n 2, 1) := by decide +kernel
theorem dX9_areConnected_9 : decode cX9_areConnected 9 = .ok (.invokestatic 50, 3) := by decide +kernel
theorem dX9_areConnected_12 : decode cX9_areConnected 12 = .ok (.ireturn, 1) := by decide +kernel
theorem dX9_connect_0 : decode cX9_connect 0 = .ok (.aload_n 0, 1) := by decide +kernel
theorem dX9_connect_1 : decode cX9_connect 1 = .ok (.getfield 15, 3) := by decide +kernel
theorem dX9_connect_4 : decode cX9_connect 4 = .ok (.iload_n 1, 1) := by decide +kernel
theorem dX9_connect_5 : decode cX9_connect 5 = .ok (.aload_n 0, 1) := by decide +kernel
theorem dX9_connect_6 : decode cX9_connect 6 = .ok (.getfield 15, 3) := by decide +kernel
theorem dX9_connect_9 : decode cX9_connect 9 = .ok (.iload_n 1, 1) := by decide +kernel
theorem dX9_connect_10 : decode cX9_connect 10 = .ok (.invokestatic 40, 3) := by decide +kernel
theorem dX9_connect_13 : decode cX9_connect 13 = .ok (.iload_n 2, 1) := by decide +kernel
theorem dX9_connect_14 : decode cX9_connect 14 = .ok (.invokestatic 53, 3) := by decide +kernel
theorem dX9_connect_17 : decode cX9_connect 17 = .ok (.ior, 1) := by decide +kernel
theorem dX9_connect_18 : decode cX9_connect 18 = .ok (.invokestatic 36, 3) := by decide +kernel
theorem dX9_connect_21 : decode cX9_connect 21 = .ok (.aload_n 0, 1) := by decide +kernel
theorem dX9_connect_22 : decode cX9_connect 22 = .ok (.getfield 15, 3) := by decide +kernel
theorem dX9_connect_25 : decode cX9_connect 25 = .ok (.iload_n 2, 1) := by decide +kernel
theorem dX9_connect_26 : decode cX9_connect 26 = .ok (.aload_n 0, 1) := by decide +kernel
theorem dX9_connect_27 : decode cX9_connect 27 = .ok (.getfield 15, 3) := by decide +kernel
theorem dX9_connect_30 : decode cX9_connect 30 = .ok (.iload_n 2, 1) := by decide +kernel
theorem dX9_connect_31 : decode cX9_connect 31 = .ok (.invokestatic 40, 3) := by decide +kernel
theorem dX9_connect_34 : decode cX9_connect 34 = .ok (.iload_n 1, 1) := by decide +kernel
theorem dX9_connect_35 : decode cX9_connect 35 = .ok (.invokestatic 53, 3) := by decide +kernel
theorem dX9_connect_38 : decode cX9_connect 38 = .ok (.ior, 1) := by decide +kernel
theorem dX9_connect_39 : decode cX9_connect 39 = .ok (.invokestatic 36, 3) := by decide +kernel
theorem dX9_connect_42 : decode cX9_connect 42 = .ok (.aload_n 0, 1) := by decide +kernel
theorem dX9_connect_43 : decode cX9_connect 43 = .ok (.dup, 1) := by decide +kernel
theorem dX9_connect_44 : decode cX9_connect 44 = .ok (.getfield 29, 3) := by decide +kernel
theorem dX9_connect_47 : decode cX9_connect 47 = .ok (.iconst 1, 1) := by decide +kernel
theorem dX9_connect_48 : decode cX9_connect 48 = .ok (.iadd, 1) := by decide +kernel
theorem dX9_connect_49 : decode cX9_connect 49 = .ok (.putfield 29, 3) := by decide +kernel
theorem dX9_connect_52 : decode cX9_connect 52 = .ok (.aload_n 0, 1) := by decide +kernel
theorem dX9_connect_53 : decode cX9_connect 53 = .ok (.getfield 29, 3) := by decide +kernel
theorem dX9_connect_56 : decode cX9_connect 56 = .ok (.ireturn, 1) := by decide +kernel
theorem dX9_disconnect_0 : decode cX9_disconnect 0 = .ok (.aload_n 0, 1) := by decide +kernel
theorem dX9_disconnect_1 : decode cX9_disconnect 1 = .ok (.getfield 15, 3) := by decide +kernel
theorem dX9_disconnect_4 : decode cX9_disconnect 4 = .ok (.iload_n 1, 1) := by decide +kernel
theorem dX9_disconnect_5 : decode cX9_disconnect 5 = .ok (.aload_n 0, 1) := by decide +kernel
theorem dX9_disconnect_6 : decode cX9_disconnect 6 = .ok (.getfield 15, 3) := by decide +kernel
theorem dX9_disconnect_9 : decode cX9_disconnect 9 = .ok (.iload_n 1, 1) := by decide +kernel
theorem dX9_disconnect_10 : decode cX9_disconnect 10 = .ok (.invokestatic 40, 3) := by decide +kernel
theorem dX9_disconnect_13 : decode cX9_disconnect 13 = .ok (.iload_n 2, 1) := by decide +kernel
theorem dX9_disconnect_14 : decode cX9_disconnect 14 = .ok (.invokestatic 53, 3) := by decide +kernel
theorem dX9_disconnect_17 : decode cX9_disconnect 17 = .ok (.iconst (-1), 1) := by decide +kernel
theorem dX9_disconnect_18 : decode cX9_disconnect 18 = .ok (.ixor, 1) := by decide +kernel
theorem dX9_disconnect_19 : decode cX9_disconnect 19 = .ok (.iand, 1) := by decide +kernel
theorem dX9_disconnect_20 : decode cX9_disconnect 20 = .ok (.invokestatic 36, 3) := by decide +kernel
theorem dX9_disconnect_23 : decode cX9_disconnect 23 = .ok (.aload_n 0, 1) := by decide +kernel
theorem dX9_disconnect_24 : decode cX9_disconnect 24 = .ok (.getfield 15, 3) := by decide +kernel
theorem dX9_disconnect_27 : decode cX9_disconnect 27 = .ok (.iload_n 2, 1) := by decide +kernel
theorem dX9_disconnect_28 : decode cX9_disconnect 28 = .ok (.aload_n 0, 1) := by decide +kernel
theorem dX9_disconnect_29 : decode cX9_disconnect 29 = .ok (.getfield 15, 3) := by decide +kernel
theorem dX9_disconnect_32 : decode cX9_disconnect 32 = .ok (.iload_n 2, 1) := by decide +kernel
theorem dX9_disconnect_33 : decode cX9_disconnect 33 = .ok (.invokestatic 40, 3) := by decide +kernel
theorem dX9_disconnect_36 : decode cX9_disconnect 36 = .ok (.iload_n 1, 1) := by decide +kernel
theorem dX9_disconnect_37 : decode cX9_disconnect 37 = .ok (.invokestatic 53, 3) := by decide +kernel
theorem dX9_disconnect_40 : decode cX9_disconnect 40 = .ok (.iconst (-1), 1) := by decide +kernel
theorem dX9_disconnect_41 : decode cX9_disconnect 41 = .ok (.ixor, 1) := by decide +kernel
theorem dX9_disconnect_42 : decode cX9_disconnect 42 = .ok (.iand, 1) := by decide +kernel
theorem dX9_disconnect_43 : decode cX9_disconnect 43 = .ok (.invokestatic 36, 3) := by decide +kernel
theorem dX9_disconnect_46 : decode cX9_disconnect 46 = .ok (.aload_n 0, 1) := by decide +kernel
theorem dX9_disconnect_47 : decode cX9_disconnect 47 = .ok (.dup, 1) := by decide +kernel
theorem dX9_disconnect_48 : decode cX9_disconnect 48 = .ok (.getfield 29, 3) := by decide +kernel
theorem dX9_disconnect_51 : decode cX9_disconnect 51 = .ok (.iconst 1, 1) := by decide +kernel
theorem dX9_disconnect_52 : decode cX9_disconnect 52 = .ok (.isub, 1) := by decide +kernel
theorem dX9_disconnect_53 : decode cX9_disconnect 53 = .ok (.putfield 29, 3) := by decide +kernel
theorem dX9_disconnect_56 : decode cX9_disconnect 56 = .ok (.aload_n 0, 1) := by decide +kernel
theorem dX9_disconnect_57 : decode cX9_disconnect 57 = .ok (.getfield 29, 3) := by decide +kernel
theorem dX9_disconnect_60 : decode cX9_disconnect 60 = .ok (.ireturn, 1) := by decide +kernel
theorem dX9_neighboursOfAll_0 : decode cX9_neighboursOfAll 0 = .ok (.iconst 0, 1) := by decide +kernel
theorem dX9_neighboursOfAll_1 : decode cX9_neighboursOfAll 1 = .ok (.istore_n 2, 1) := by decide +kernel
theorem dX9_neighboursOfAll_2 : decode cX9_neighboursOfAll 2 = .ok (.iconst 0, 1) := by decide +kernel
theorem dX9_neighboursOfAll_3 : decode cX9_neighboursOfAll 3 = .ok (.istore_n 3, 1) := by decide +kernel
theorem dX9_neighboursOfAll_4 : decode cX9_neighboursOfAll 4 = .ok (.iload_n 3, 1) := by decide +kernel
theorem dX9_neighboursOfAll_5 : decode cX9_neighboursOfAll 5 = .ok (.aload_n 0, 1) := by decide +kernel
theorem dX9_neighboursOfAll_6 : decode cX9_neighboursOfAll 6 = .ok (.getfield 15, 3) := by decide +kernel
theorem dX9_neighboursOfAll_9 : decode cX9_neighboursOfAll 9 = .ok (.arraylength, 1) := by decide +kernel
theorem dX9_neighboursOfAll_10 : decode cX9_neighboursOfAll 10 = .ok (.if_icmp .ge 26, 3) := by decide +kernel
theorem dX9_neighboursOfAll_13 : decode cX9_neighboursOfAll 13 = .ok (.iload_n 1, 1) := by decide +kernel
theorem dX9_neighboursOfAll_14 : decode cX9_neighboursOfAll 14 = .ok (.iload_n 3, 1) := by decide +kernel
theorem dX9_neighboursOfAll_15 : decode cX9_neighboursOfAll 15 = .ok (.invokestatic 50, 3) := by decide +kernel
theorem dX9_neighboursOfAll_18 : decode cX9_neighboursOfAll 18 = .ok (.ifCond .eq 12, 3) := by decide +kernel
theorem dX9_neighboursOfAll_21 : decode cX9_neighboursOfAll 21 = .ok (.iload_n 2, 1) := by decide +kernel
theorem dX9_neighboursOfAll_22 : decode cX9_neighboursOfAll 22 = .ok (.aload_n 0, 1) := by decide +kernel
theorem dX9_neighboursOfAll_23 : decode cX9_neighboursOfAll 23 = .ok (.getfield 15, 3) := by decide +kernel
theorem dX9_neighboursOfAll_26 : decode cX9_neighboursOfAll 26 = .ok (.iload_n 3, 1) := by decide +kernel
theorem dX9_neighboursOfAll_27 : decode cX9_neighboursOfAll 27 = .ok (.iaload, 1) := by decide +kernel
theorem dX9_neighboursOfAll_28 : decode cX9_neighboursOfAll 28 = .ok (.ior, 1) := by decide +kernel
theorem dX9_neighboursOfAll_29 : decode cX9_neighboursOfAll 29 = .ok (.istore_n 2, 1) := by decide +kernel
theorem dX9_neighboursOfAll_30 : decode cX9_neighboursOfAll 30 = .ok (.iinc 3 1, 3) := by decide +kernel
theorem dX9_neighboursOfAll_33 : decode cX9_neighboursOfAll 33 = .ok (.goto (-29), 3) := by decide +kernel
theorem dX9_neighboursOfAll_36 : decode cX9_neighboursOfAll 36 = .ok (.iload_n 2, 1) := by decide +kernel
theorem dX9_neighboursOfAll_37 : decode cX9_neighboursOfAll 37 = .ok (.ireturn, 1) := by decide +kernel
theorem dX9_stepsBetween_0 : decode cX9_stepsBetween 0 = .ok (.iload_n 1, 1) := by decide +kernel
theorem dX9_stepsBetween_1 : decode cX9_stepsBetween 1 = .ok (.invokestatic 53, 3) := by decide +kernel
theorem dX9_stepsBetween_4 : decode cX9_stepsBetween 4 = .ok (.istore_n 3, 1) := by decide +kernel
theorem dX9_stepsBetween_5 : decode cX9_stepsBetween 5 = .ok (.iload_n 3, 1) := by decide +kernel
theorem dX9_stepsBetween_6 : decode cX9_stepsBetween 6 = .ok (.istore 4, 2) := by decide +kernel
theorem dX9_stepsBetween_8 : decode cX9_stepsBetween 8 = .ok (.iconst 0, 1) := by decide +kernel
theorem dX9_stepsBetween_9 : decode cX9_stepsBetween 9 = .ok (.istore 5, 2) := by decide +kernel
theorem dX9_stepsBetween_11 : decode cX9_stepsBetween 11 = .ok (.iload 5, 2) := by decide +kernel
theorem dX9_stepsBetween_13 : decode cX9_stepsBetween 13 = .ok (.bipush 12, 2) := by decide +kernel
theorem dX9_stepsBetween_15 : decode cX9_stepsBetween 15 = .ok (.if_icmp .ge 37, 3) := by decide +kernel
theorem dX9_stepsBetween_18 : decode cX9_stepsBetween 18 = .ok (.iload_n 3, 1) := by decide +kernel
theorem dX9_stepsBetween_19 : decode cX9_stepsBetween 19 = .ok (.iload_n 2, 1) := by decide +kernel
theorem dX9_stepsBetween_20 : decode cX9_stepsBetween 20 = .ok (.invokestatic 50, 3) := by decide +kernel
theorem dX9_stepsBetween_23 : decode cX9_stepsBetween 23 = .ok (.ifCond .eq 6, 3) := by decide +kernel
theorem dX9_stepsBetween_26 : decode cX9_stepsBetween 26 = .ok (.iload 5, 2) := by decide +kernel
theorem dX9_stepsBetween_28 : decode cX9_stepsBetween 28 = .ok (.ireturn, 1) := by decide +kernel
theorem dX9_stepsBetween_29 : decode cX9_stepsBetween 29 = .ok (.aload_n 0, 1) := by decide +kernel
theorem dX9_stepsBetween_30 : decode cX9_stepsBetween 30 = .ok (.iload_n 3, 1) := by decide +kernel
theorem dX9_stepsBetween_31 : decode cX9_stepsBetween 31 = .ok (.invokevirtual 56, 3) := by decide +kernel
theorem dX9_stepsBetween_34 : decode cX9_stepsBetween 34 = .ok (.iload 4, 2) := by decide +kernel
theorem dX9_stepsBetween_36 : decode cX9_stepsBetween 36 = .ok (.iconst (-1), 1) := by decide +kernel
theorem dX9_stepsBetween_37 : decode cX9_stepsBetween 37 = .ok (.ixor, 1) := by decide +kernel
theorem dX9_stepsBetween_38 : decode cX9_stepsBetween 38 = .ok (.iand, 1) := by decide +kernel
theorem dX9_stepsBetween_39 : decode cX9_stepsBetween 39 = .ok (.istore_n 3, 1) := by decide +kernel
theorem dX9_stepsBetween_40 : decode cX9_stepsBetween 40 = .ok (.iload 4, 2) := by decide +kernel
theorem dX9_stepsBetween_42 : decode cX9_stepsBetween 42 = .ok (.iload_n 3, 1) := by decide +kernel
theorem dX9_stepsBetween_43 : decode cX9_stepsBetween 43 = .ok (.ior, 1) := by decide +kernel
theorem dX9_stepsBetween_44 : decode cX9_stepsBetween 44 = .ok (.istore 4, 2) := by decide +kernel
theorem dX9_stepsBetween_46 : decode cX9_stepsBetween 46 = .ok (.iinc 5 1, 3) := by decide +kernel
theorem dX9_stepsBetween_49 : decode cX9_stepsBetween 49 = .ok (.goto (-38), 3) := by decide +kernel
theorem dX9_stepsBetween_52 : decode cX9_stepsBetween 52 = .ok (.iconst (-1), 1) := by decide +kernel
theorem dX9_stepsBetween_53 : decode cX9_stepsBetween 53 = .ok (.ireturn, 1) := by decide +kernel
theorem dX9_shelfTowards_0 : decode cX9_shelfTowards 0 = .ok (.iload_n 1, 1) := by decide +kernel
theorem dX9_shelfTowards_1 : decode cX9_shelfTowards 1 = .ok (.iload_n 2, 1) := by decide +kernel
theorem dX9_shelfTowards_2 : decode cX9_shelfTowards 2 = .ok (.if_icmp .ne 5, 3) := by decide +kernel
theorem dX9_shelfTowards_5 : decode cX9_shelfTowards 5 = .ok (.iload_n 1, 1) := by decide +kernel
theorem dX9_shelfTowards_6 : decode cX9_shelfTowards 6 = .ok (.ireturn, 1) := by decide +kernel
theorem dX9_shelfTowards_7 : decode cX9_shelfTowards 7 = .ok (.aload_n 0, 1) := by decide +kernel
theorem dX9_shelfTowards_8 : decode cX9_shelfTowards 8 = .ok (.getfield 15, 3) := by decide +kernel
theorem dX9_shelfTowards_11 : decode cX9_shelfTowards 11 = .ok (.iload_n 1, 1) := by decide +kernel
theorem dX9_shelfTowards_12 : decode cX9_shelfTowards 12 = .ok (.invokestatic 40, 3) := by decide +kernel
theorem dX9_shelfTowards_15 : decode cX9_shelfTowards 15 = .ok (.istore_n 3, 1) := by decide +kernel
theorem dX9_shelfTowards_16 : decode cX9_shelfTowards 16 = .ok (.iload_n 2, 1) := by decide +kernel
theorem dX9_shelfTowards_17 : decode cX9_shelfTowards 17 = .ok (.invokestatic 53, 3) := by decide +kernel
theorem dX9_shelfTowards_20 : decode cX9_shelfTowards 20 = .ok (.istore 4, 2) := by decide +kernel
theorem dX9_shelfTowards_22 : decode cX9_shelfTowards 22 = .ok (.iload 4, 2) := by decide +kernel
theorem dX9_shelfTowards_24 : decode cX9_shelfTowards 24 = .ok (.istore 5, 2) := by decide +kernel
theorem dX9_shelfTowards_26 : decode cX9_shelfTowards 26 = .ok (.iconst 0, 1) := by decide +kernel
theorem dX9_shelfTowards_27 : decode cX9_shelfTowards 27 = .ok (.istore 6, 2) := by decide +kernel
theorem dX9_shelfTowards_29 : decode cX9_shelfTowards 29 = .ok (.iload 6, 2) := by decide +kernel
theorem dX9_shelfTowards_31 : decode cX9_shelfTowards 31 = .ok (.bipush 12, 2) := by decide +kernel
theorem dX9_shelfTowards_33 : decode cX9_shelfTowards 33 = .ok (.if_icmp .ge 46, 3) := by decide +kernel
theorem dX9_shelfTowards_36 : decode cX9_shelfTowards 36 = .ok (.iload 4, 2) := by decide +kernel
theorem dX9_shelfTowards_38 : decode cX9_shelfTowards 38 = .ok (.iload_n 3, 1) := by decide +kernel
theorem dX9_shelfTowards_39 : decode cX9_shelfTowards 39 = .ok (.iand, 1) := by decide +kernel
theorem dX9_shelfTowards_40 : decode cX9_shelfTowards 40 = .ok (.ifCond .eq 13, 3) := by decide +kernel
theorem dX9_shelfTowards_43 : decode cX9_shelfTowards 43 = .ok (.aload_n 0, 1) := by decide +kernel
theorem dX9_shelfTowards_44 : decode cX9_shelfTowards 44 = .ok (.iload 4, 2) := by decide +kernel
theorem dX9_shelfTowards_46 : decode cX9_shelfTowards 46 = .ok (.iload_n 3, 1) := by decide +kernel
theorem dX9_shelfTowards_47 : decode cX9_shelfTowards 47 = .ok (.iand, 1) := by decide +kernel
theorem dX9_shelfTowards_48 : decode cX9_shelfTowards 48 = .ok (.iload_n 1, 1) := by decide +kernel
theorem dX9_shelfTowards_49 : decode cX9_shelfTowards 49 = .ok (.invokevirtual 59, 3) := by decide +kernel
theorem dX9_shelfTowards_52 : decode cX9_shelfTowards 52 = .ok (.ireturn, 1) := by decide +kernel
theorem dX9_shelfTowards_53 : decode cX9_shelfTowards 53 = .ok (.aload_n 0, 1) := by decide +kernel
theorem dX9_shelfTowards_54 : decode cX9_shelfTowards 54 = .ok (.iload 4, 2) := by decide +kernel
theorem dX9_shelfTowards_56 : decode cX9_shelfTowards 56 = .ok (.invokevirtual 56, 3) := by decide +kernel
theorem dX9_shelfTowards_59 : decode cX9_shelfTowards 59 = .ok (.iload 5, 2) := by decide +kernel
theorem dX9_shelfTowards_61 : decode cX9_shelfTowards 61 = .ok (.iconst (-1), 1) := by decide +kernel
theorem dX9_shelfTowards_62 : decode cX9_shelfTowards 62 = .ok (.ixor, 1) := by decide +kernel
theorem dX9_shelfTowards_63 : decode cX9_shelfTowards 63 = .ok (.iand, 1) := by decide +kernel
theorem dX9_shelfTowards_64 : decode cX9_shelfTowards 64 = .ok (.istore 4, 2) := by decide +kernel
theorem dX9_shelfTowards_66 : decode cX9_shelfTowards 66 = .ok (.iload 5, 2) := by decide +kernel
theorem dX9_shelfTowards_68 : decode cX9_shelfTowards 68 = .ok (.iload 4, 2) := by decide +kernel
theorem dX9_shelfTowards_70 : decode cX9_shelfTowards 70 = .ok (.ior, 1) := by decide +kernel
theorem dX9_shelfTowards_71 : decode cX9_shelfTowards 71 = .ok (.istore 5, 2) := by decide +kernel
theorem dX9_shelfTowards_73 : decode cX9_shelfTowards 73 = .ok (.iinc 6 1, 3) := by decide +kernel
theorem dX9_shelfTowards_76 : decode cX9_shelfTowards 76 = .ok (.goto (-47), 3) := by decide +kernel
theorem dX9_shelfTowards_79 : decode cX9_shelfTowards 79 = .ok (.iload_n 1, 1) := by decide +kernel
theorem dX9_shelfTowards_80 : decode cX9_shelfTowards 80 = .ok (.ireturn, 1) := by decide +kernel
theorem dX9_smallestIn_0 : decode cX9_smallestIn 0 = .ok (.iconst 0, 1) := by decide +kernel
theorem dX9_smallestIn_1 : decode cX9_smallestIn 1 = .ok (.istore_n 3, 1) := by decide +kernel
theorem dX9_smallestIn_2 : decode cX9_smallestIn 2 = .ok (.iload_n 3, 1) := by decide +kernel
theorem dX9_smallestIn_3 : decode cX9_smallestIn 3 = .ok (.bipush 12, 2) := by decide +kernel
theorem dX9_smallestIn_5 : decode cX9_smallestIn 5 = .ok (.if_icmp .ge 19, 3) := by decide +kernel
theorem dX9_smallestIn_8 : decode cX9_smallestIn 8 = .ok (.iload_n 1, 1) := by decide +kernel
theorem dX9_smallestIn_9 : decode cX9_smallestIn 9 = .ok (.iload_n 3, 1) := by decide +kernel
theorem dX9_smallestIn_10 : decode cX9_smallestIn 10 = .ok (.invokestatic 50, 3) := by decide +kernel
theorem dX9_smallestIn_13 : decode cX9_smallestIn 13 = .ok (.ifCond .eq 5, 3) := by decide +kernel
theorem dX9_smallestIn_16 : decode cX9_smallestIn 16 = .ok (.iload_n 3, 1) := by decide +kernel
theorem dX9_smallestIn_17 : decode cX9_smallestIn 17 = .ok (.ireturn, 1) := by decide +kernel
theorem dX9_smallestIn_18 : decode cX9_smallestIn 18 = .ok (.iinc 3 1, 3) := by decide +kernel
theorem dX9_smallestIn_21 : decode cX9_smallestIn 21 = .ok (.goto (-19), 3) := by decide +kernel
theorem dX9_smallestIn_24 : decode cX9_smallestIn 24 = .ok (.iload_n 2, 1) := by decide +kernel
theorem dX9_smallestIn_25 : decode cX9_smallestIn 25 = .ok (.ireturn, 1) := by decide +kernel
theorem dX9_richestNeighbour_0 : decode cX9_richestNeighbour 0 = .ok (.aload_n 0, 1) := by decide +kernel
theorem dX9_richestNeighbour_1 : decode cX9_richestNeighbour 1 = .ok (.getfield 15, 3) := by decide +kernel
theorem dX9_richestNeighbour_4 : decode cX9_richestNeighbour 4 = .ok (.iload_n 1, 1) := by decide +kernel
theorem dX9_richestNeighbour_5 : decode cX9_richestNeighbour 5 = .ok (.invokestatic 40, 3) := by decide +kernel
theorem dX9_richestNeighbour_8 : decode cX9_richestNeighbour 8 = .ok (.istore_n 2, 1) := by decide +kernel
theorem dX9_richestNeighbour_9 : decode cX9_richestNeighbour 9 = .ok (.iload_n 1, 1) := by decide +kernel
theorem dX9_richestNeighbour_10 : decode cX9_richestNeighbour 10 = .ok (.istore_n 3, 1) := by decide +kernel
theorem dX9_richestNeighbour_11 : decode cX9_richestNeighbour 11 = .ok (.iconst (-1), 1) := by decide +kernel
theorem dX9_richestNeighbour_12 : decode cX9_richestNeighbour 12 = .ok (.istore 4, 2) := by decide +kernel
theorem dX9_richestNeighbour_14 : decode cX9_richestNeighbour 14 = .ok (.iconst 0, 1) := by decide +kernel
theorem dX9_richestNeighbour_15 : decode cX9_richestNeighbour 15 = .ok (.istore 5, 2) := by decide +kernel
theorem dX9_richestNeighbour_17 : decode cX9_richestNeighbour 17 = .ok (.iload 5, 2) := by decide +kernel
theorem dX9_richestNeighbour_19 : decode cX9_richestNeighbour 19 = .ok (.aload_n 0, 1) := by decide +kernel
theorem dX9_richestNeighbour_20 : decode cX9_richestNeighbour 20 = .ok (.getfield 9, 3) := by decide +kernel
theorem dX9_richestNeighbour_23 : decode cX9_richestNeighbour 23 = .ok (.arraylength, 1) := by decide +kernel
theorem dX9_richestNeighbour_24 : decode cX9_richestNeighbour 24 = .ok (.if_icmp .ge 42, 3) := by decide +kernel
theorem dX9_richestNeighbour_27 : decode cX9_richestNeighbour 27 = .ok (.iload_n 2, 1) := by decide +kernel
theorem dX9_richestNeighbour_28 : decode cX9_richestNeighbour 28 = .ok (.iload 5, 2) := by decide +kernel
theorem dX9_richestNeighbour_30 : decode cX9_richestNeighbour 30 = .ok (.invokestatic 50, 3) := by decide +kernel
theorem dX9_richestNeighbour_33 : decode cX9_richestNeighbour 33 = .ok (.ifCond .eq 27, 3) := by decide +kernel
theorem dX9_richestNeighbour_36 : decode cX9_richestNeighbour 36 = .ok (.aload_n 0, 1) := by decide +kernel
theorem dX9_richestNeighbour_37 : decode cX9_richestNeighbour 37 = .ok (.getfield 9, 3) := by decide +kernel
theorem dX9_richestNeighbour_40 : decode cX9_richestNeighbour 40 = .ok (.iload 5, 2) := by decide +kernel
theorem dX9_richestNeighbour_42 : decode cX9_richestNeighbour 42 = .ok (.iaload, 1) := by decide +kernel
theorem dX9_richestNeighbour_43 : decode cX9_richestNeighbour 43 = .ok (.iload 4, 2) := by decide +kernel
theorem dX9_richestNeighbour_45 : decode cX9_richestNeighbour 45 = .ok (.if_icmp .le 15, 3) := by decide +kernel
theorem dX9_richestNeighbour_48 : decode cX9_richestNeighbour 48 = .ok (.iload 5, 2) := by decide +kernel
theorem dX9_richestNeighbour_50 : decode cX9_richestNeighbour 50 = .ok (.istore_n 3, 1) := by decide +kernel
theorem dX9_richestNeighbour_51 : decode cX9_richestNeighbour 51 = .ok (.aload_n 0, 1) := by decide +kernel
theorem dX9_richestNeighbour_52 : decode cX9_richestNeighbour 52 = .ok (.getfield 9, 3) := by decide +kernel
theorem dX9_richestNeighbour_55 : decode cX9_richestNeighbour 55 = .ok (.iload 5, 2) := by decide +kernel
theorem dX9_richestNeighbour_57 : decode cX9_richestNeighbour 57 = .ok (.iaload, 1) := by decide +kernel
theorem dX9_richestNeighbour_58 : decode cX9_richestNeighbour 58 = .ok (.istore 4, 2) := by decide +kernel
theorem dX9_richestNeighbour_60 : decode cX9_richestNeighbour 60 = .ok (.iinc 5 1, 3) := by decide +kernel
theorem dX9_richestNeighbour_63 : decode cX9_richestNeighbour 63 = .ok (.goto (-46), 3) := by decide +kernel
theorem dX9_richestNeighbour_66 : decode cX9_richestNeighbour 66 = .ok (.iload_n 3, 1) := by decide +kernel
theorem dX9_richestNeighbour_67 : decode cX9_richestNeighbour 67 = .ok (.ireturn, 1) := by decide +kernel
theorem dX9_countGroups_0 : decode cX9_countGroups 0 = .ok (.iconst 0, 1) := by decide +kernel
theorem dX9_countGroups_1 : decode cX9_countGroups 1 = .ok (.istore_n 1, 1) := by decide +kernel
theorem dX9_countGroups_2 : decode cX9_countGroups 2 = .ok (.iconst 0, 1) := by decide +kernel
theorem dX9_countGroups_3 : decode cX9_countGroups 3 = .ok (.istore_n 2, 1) := by decide +kernel
theorem dX9_countGroups_4 : decode cX9_countGroups 4 = .ok (.iconst 0, 1) := by decide +kernel
theorem dX9_countGroups_5 : decode cX9_countGroups 5 = .ok (.istore_n 3, 1) := by decide +kernel
theorem dX9_countGroups_6 : decode cX9_countGroups 6 = .ok (.iload_n 3, 1) := by decide +kernel
theorem dX9_countGroups_7 : decode cX9_countGroups 7 = .ok (.aload_n 0, 1) := by decide +kernel
theorem dX9_countGroups_8 : decode cX9_countGroups 8 = .ok (.getfield 26, 3) := by decide +kernel
theorem dX9_countGroups_11 : decode cX9_countGroups 11 = .ok (.if_icmp .ge 28, 3) := by decide +kernel
theorem dX9_countGroups_14 : decode cX9_countGroups 14 = .ok (.iload_n 2, 1) := by decide +kernel
theorem dX9_countGroups_15 : decode cX9_countGroups 15 = .ok (.iload_n 3, 1) := by decide +kernel
theorem dX9_countGroups_16 : decode cX9_countGroups 16 = .ok (.invokestatic 50, 3) := by decide +kernel
theorem dX9_countGroups_19 : decode cX9_countGroups 19 = .ok (.ifCond .ne 14, 3) := by decide +kernel
theorem dX9_countGroups_22 : decode cX9_countGroups 22 = .ok (.iinc 1 1, 3) := by decide +kernel
theorem dX9_countGroups_25 : decode cX9_countGroups 25 = .ok (.iload_n 2, 1) := by decide +kernel
theorem dX9_countGroups_26 : decode cX9_countGroups 26 = .ok (.aload_n 0, 1) := by decide +kernel
theorem dX9_countGroups_27 : decode cX9_countGroups 27 = .ok (.iload_n 3, 1) := by decide +kernel
theorem dX9_countGroups_28 : decode cX9_countGroups 28 = .ok (.invokevirtual 63, 3) := by decide +kernel
theorem dX9_countGroups_31 : decode cX9_countGroups 31 = .ok (.ior, 1) := by decide +kernel
theorem dX9_countGroups_32 : decode cX9_countGroups 32 = .ok (.istore_n 2, 1) := by decide +kernel
theorem dX9_countGroups_33 : decode cX9_countGroups 33 = .ok (.iinc 3 1, 3) := by decide +kernel
theorem dX9_countGroups_36 : decode cX9_countGroups 36 = .ok (.goto (-30), 3) := by decide +kernel
theorem dX9_countGroups_39 : decode cX9_countGroups 39 = .ok (.iload_n 1, 1) := by decide +kernel
theorem dX9_countGroups_40 : decode cX9_countGroups 40 = .ok (.ireturn, 1) := by decide +kernel
theorem dX9_groupOf_0 : decode cX9_groupOf 0 = .ok (.iload_n 1, 1) := by decide +kernel
theorem dX9_groupOf_1 : decode cX9_groupOf 1 = .ok (.invokestatic 53, 3) := by decide +kernel
theorem dX9_groupOf_4 : decode cX9_groupOf 4 = .ok (.istore_n 2, 1) := by decide +kernel
theorem dX9_groupOf_5 : decode cX9_groupOf 5 = .ok (.iconst 0, 1) := by decide +kernel
theorem dX9_groupOf_6 : decode cX9_groupOf 6 = .ok (.istore_n 3, 1) := by decide +kernel
theorem dX9_groupOf_7 : decode cX9_groupOf 7 = .ok (.iload_n 3, 1) := by decide +kernel
theorem dX9_groupOf_8 : decode cX9_groupOf 8 = .ok (.bipush 12, 2) := by decide +kernel
theorem dX9_groupOf_10 : decode cX9_groupOf 10 = .ok (.if_icmp .ge 17, 3) := by decide +kernel
theorem dX9_groupOf_13 : decode cX9_groupOf 13 = .ok (.iload_n 2, 1) := by decide +kernel
theorem dX9_groupOf_14 : decode cX9_groupOf 14 = .ok (.aload_n 0, 1) := by decide +kernel
theorem dX9_groupOf_15 : decode cX9_groupOf 15 = .ok (.iload_n 2, 1) := by decide +kernel
theorem dX9_groupOf_16 : decode cX9_groupOf 16 = .ok (.invokevirtual 56, 3) := by decide +kernel
theorem dX9_groupOf_19 : decode cX9_groupOf 19 = .ok (.ior, 1) := by decide +kernel
theorem dX9_groupOf_20 : decode cX9_groupOf 20 = .ok (.istore_n 2, 1) := by decide +kernel
theorem dX9_groupOf_21 : decode cX9_groupOf 21 = .ok (.iinc 3 1, 3) := by decide +kernel
theorem dX9_groupOf_24 : decode cX9_groupOf 24 = .ok (.goto (-17), 3) := by decide +kernel
theorem dX9_groupOf_27 : decode cX9_groupOf 27 = .ok (.iload_n 2, 1) := by decide +kernel
theorem dX9_groupOf_28 : decode cX9_groupOf 28 = .ok (.ireturn, 1) := by decide +kernel
theorem dX9_shelfAtRank_0 : decode cX9_shelfAtRank 0 = .ok (.iconst 0, 1) := by decide +kernel
theorem dX9_shelfAtRank_1 : decode cX9_shelfAtRank 1 = .ok (.istore_n 2, 1) := by decide +kernel
theorem dX9_shelfAtRank_2 : decode cX9_shelfAtRank 2 = .ok (.iload_n 2, 1) := by decide +kernel
theorem dX9_shelfAtRank_3 : decode cX9_shelfAtRank 3 = .ok (.aload_n 0, 1) := by decide +kernel
theorem dX9_shelfAtRank_4 : decode cX9_shelfAtRank 4 = .ok (.getfield 26, 3) := by decide +kernel
theorem dX9_shelfAtRank_7 : decode cX9_shelfAtRank 7 = .ok (.if_icmp .ge 20, 3) := by decide +kernel
theorem dX9_shelfAtRank_10 : decode cX9_shelfAtRank 10 = .ok (.aload_n 0, 1) := by decide +kernel
theorem dX9_shelfAtRank_11 : decode cX9_shelfAtRank 11 = .ok (.iload_n 2, 1) := by decide +kernel
theorem dX9_shelfAtRank_12 : decode cX9_shelfAtRank 12 = .ok (.invokevirtual 66, 3) := by decide +kernel
theorem dX9_shelfAtRank_15 : decode cX9_shelfAtRank 15 = .ok (.iload_n 1, 1) := by decide +kernel
theorem dX9_shelfAtRank_16 : decode cX9_shelfAtRank 16 = .ok (.if_icmp .ne 5, 3) := by decide +kernel
theorem dX9_shelfAtRank_19 : decode cX9_shelfAtRank 19 = .ok (.iload_n 2, 1) := by decide +kernel
theorem dX9_shelfAtRank_20 : decode cX9_shelfAtRank 20 = .ok (.ireturn, 1) := by decide +kernel
theorem dX9_shelfAtRank_21 : decode cX9_shelfAtRank 21 = .ok (.iinc 2 1, 3) := by decide +kernel
theorem dX9_shelfAtRank_24 : decode cX9_shelfAtRank 24 = .ok (.goto (-22), 3) := by decide +kernel
theorem dX9_shelfAtRank_27 : decode cX9_shelfAtRank 27 = .ok (.iconst (-1), 1) := by decide +kernel
theorem dX9_shelfAtRank_28 : decode cX9_shelfAtRank 28 = .ok (.ireturn, 1) := by decide +kernel
theorem dX9_rankOf_0 : decode cX9_rankOf 0 = .ok (.aload_n 0, 1) := by decide +kernel
theorem dX9_rankOf_1 : decode cX9_rankOf 1 = .ok (.getfield 9, 3) := by decide +kernel
theorem dX9_rankOf_4 : decode cX9_rankOf 4 = .ok (.iload_n 1, 1) := by decide +kernel
theorem dX9_rankOf_5 : decode cX9_rankOf 5 = .ok (.invokestatic 40, 3) := by decide +kernel
theorem dX9_rankOf_8 : decode cX9_rankOf 8 = .ok (.istore_n 2, 1) := by decide +kernel
theorem dX9_rankOf_9 : decode cX9_rankOf 9 = .ok (.iconst 0, 1) := by decide +kernel
theorem dX9_rankOf_10 : decode cX9_rankOf 10 = .ok (.istore_n 3, 1) := by decide +kernel
theorem dX9_rankOf_11 : decode cX9_rankOf 11 = .ok (.iconst 0, 1) := by decide +kernel
theorem dX9_rankOf_12 : decode cX9_rankOf 12 = .ok (.istore 4, 2) := by decide +kernel
theorem dX9_rankOf_14 : decode cX9_rankOf 14 = .ok (.iload 4, 2) := by decide +kernel
theorem dX9_rankOf_16 : decode cX9_rankOf 16 = .ok (.aload_n 0, 1) := by decide +kernel
theorem dX9_rankOf_17 : decode cX9_rankOf 17 = .ok (.getfield 26, 3) := by decide +kernel
theorem dX9_rankOf_20 : decode cX9_rankOf 20 = .ok (.if_icmp .ge 41, 3) := by decide +kernel
theorem dX9_rankOf_23 : decode cX9_rankOf 23 = .ok (.aload_n 0, 1) := by decide +kernel
theorem dX9_rankOf_24 : decode cX9_rankOf 24 = .ok (.getfield 9, 3) := by decide +kernel
theorem dX9_rankOf_27 : decode cX9_rankOf 27 = .ok (.iload 4, 2) := by decide +kernel
theorem dX9_rankOf_29 : decode cX9_rankOf 29 = .ok (.invokestatic 40, 3) := by decide +kernel
theorem dX9_rankOf_32 : decode cX9_rankOf 32 = .ok (.istore 5, 2) := by decide +kernel
theorem dX9_rankOf_34 : decode cX9_rankOf 34 = .ok (.iload 5, 2) := by decide +kernel
theorem dX9_rankOf_36 : decode cX9_rankOf 36 = .ok (.iload_n 2, 1) := by decide +kernel
theorem dX9_rankOf_37 : decode cX9_rankOf 37 = .ok (.if_icmp .gt 15, 3) := by decide +kernel
theorem dX9_rankOf_40 : decode cX9_rankOf 40 = .ok (.iload 5, 2) := by decide +kernel
theorem dX9_rankOf_42 : decode cX9_rankOf 42 = .ok (.iload_n 2, 1) := by decide +kernel
theorem dX9_rankOf_43 : decode cX9_rankOf 43 = .ok (.if_icmp .ne 12, 3) := by decide +kernel
theorem dX9_rankOf_46 : decode cX9_rankOf 46 = .ok (.iload 4, 2) := by decide +kernel
theorem dX9_rankOf_48 : decode cX9_rankOf 48 = .ok (.iload_n 1, 1) := by decide +kernel
theorem dX9_rankOf_49 : decode cX9_rankOf 49 = .ok (.if_icmp .ge 6, 3) := by decide +kernel
theorem dX9_rankOf_52 : decode cX9_rankOf 52 = .ok (.iinc 3 1, 3) := by decide +kernel
theorem dX9_rankOf_55 : decode cX9_rankOf 55 = .ok (.iinc 4 1, 3) := by decide +kernel
theorem dX9_rankOf_58 : decode cX9_rankOf 58 = .ok (.goto (-44), 3) := by decide +kernel
theorem dX9_rankOf_61 : decode cX9_rankOf 61 = .ok (.iload_n 3, 1) := by decide +kernel
theorem dX9_rankOf_62 : decode cX9_rankOf 62 = .ok (.ireturn, 1) := by decide +kernel
theorem dX9_sumOfGrams_0 : decode cX9_sumOfGrams 0 = .ok (.iconst 0, 1) := by decide +kernel
theorem dX9_sumOfGrams_1 : decode cX9_sumOfGrams 1 = .ok (.istore_n 1, 1) := by decide +kernel
theorem dX9_sumOfGrams_2 : decode cX9_sumOfGrams 2 = .ok (.iconst 0, 1) := by decide +kernel
theorem dX9_sumOfGrams_3 : decode cX9_sumOfGrams 3 = .ok (.istore_n 2, 1) := by decide +kernel
theorem dX9_sumOfGrams_4 : decode cX9_sumOfGrams 4 = .ok (.iload_n 2, 1) := by decide +kernel
theorem dX9_sumOfGrams_5 : decode cX9_sumOfGrams 5 = .ok (.aload_n 0, 1) := by decide +kernel
theorem dX9_sumOfGrams_6 : decode cX9_sumOfGrams 6 = .ok (.getfield 26, 3) := by decide +kernel
theorem dX9_sumOfGrams_9 : decode cX9_sumOfGrams 9 = .ok (.if_icmp .ge 20, 3) := by decide +kernel
theorem dX9_sumOfGrams_12 : decode cX9_sumOfGrams 12 = .ok (.iload_n 1, 1) := by decide +kernel
theorem dX9_sumOfGrams_13 : decode cX9_sumOfGrams 13 = .ok (.aload_n 0, 1) := by decide +kernel
theorem dX9_sumOfGrams_14 : decode cX9_sumOfGrams 14 = .ok (.getfield 9, 3) := by decide +kernel
theorem dX9_sumOfGrams_17 : decode cX9_sumOfGrams 17 = .ok (.iload_n 2, 1) := by decide +kernel
theorem dX9_sumOfGrams_18 : decode cX9_sumOfGrams 18 = .ok (.invokestatic 40, 3) := by decide +kernel
theorem dX9_sumOfGrams_21 : decode cX9_sumOfGrams 21 = .ok (.iadd, 1) := by decide +kernel
theorem dX9_sumOfGrams_22 : decode cX9_sumOfGrams 22 = .ok (.istore_n 1, 1) := by decide +kernel
theorem dX9_sumOfGrams_23 : decode cX9_sumOfGrams 23 = .ok (.iinc 2 1, 3) := by decide +kernel
theorem dX9_sumOfGrams_26 : decode cX9_sumOfGrams 26 = .ok (.goto (-22), 3) := by decide +kernel
theorem dX9_sumOfGrams_29 : decode cX9_sumOfGrams 29 = .ok (.iload_n 1, 1) := by decide +kernel
theorem dX9_sumOfGrams_30 : decode cX9_sumOfGrams 30 = .ok (.ireturn, 1) := by decide +kernel
theorem dX11_init_0 : decode cX11_init 0 = .ok (.aload_n 0, 1) := by decide +kernel
theorem dX11_init_1 : decode cX11_init 1 = .ok (.invokespecial 1, 3) := by decide +kernel
theorem dX11_init_4 : decode cX11_init 4 = .ok (.aload_n 0, 1) := by decide +kernel
theorem dX11_init_5 : decode cX11_init 5 = .ok (.new 7, 3) := by decide +kernel
theorem dX11_init_8 : decode cX11_init 8 = .ok (.dup, 1) := by decide +kernel
theorem dX11_init_9 : decode cX11_init 9 = .ok (.invokespecial 9, 3) := by decide +kernel
theorem dX11_init_12 : decode cX11_init 12 = .ok (.putfield 10, 3) := by decide +kernel
theorem dX11_init_15 : decode cX11_init 15 = .ok (.aload_n 0, 1) := by decide +kernel
theorem dX11_init_16 : decode cX11_init 16 = .ok (.new 7, 3) := by decide +kernel
theorem dX11_init_19 : decode cX11_init 19 = .ok (.dup, 1) := by decide +kernel
theorem dX11_init_20 : decode cX11_init 20 = .ok (.invokespecial 9, 3) := by decide +kernel
theorem dX11_init_23 : decode cX11_init 23 = .ok (.putfield 16, 3) := by decide +kernel
theorem dX11_init_26 : decode cX11_init 26 = .ok (.aload_n 0, 1) := by decide +kernel
theorem dX11_init_27 : decode cX11_init 27 = .ok (.new 7, 3) := by decide +kernel
theorem dX11_init_30 : decode cX11_init 30 = .ok (.dup, 1) := by decide +kernel
theorem dX11_init_31 : decode cX11_init 31 = .ok (.invokespecial 9, 3) := by decide +kernel
theorem dX11_init_34 : decode cX11_init 34 = .ok (.putfield 19, 3) := by decide +kernel
theorem dX11_init_37 : decode cX11_init 37 = .ok (.aload_n 0, 1) := by decide +kernel
theorem dX11_init_38 : decode cX11_init 38 = .ok (.new 22, 3) := by decide +kernel
theorem dX11_init_41 : decode cX11_init 41 = .ok (.dup, 1) := by decide +kernel
theorem dX11_init_42 : decode cX11_init 42 = .ok (.invokespecial 24, 3) := by decide +kernel
theorem dX11_init_45 : decode cX11_init 45 = .ok (.putfield 25, 3) := by decide +kernel
theorem dX11_init_48 : decode cX11_init 48 = .ok (.aload_n 0, 1) := by decide +kernel
theorem dX11_init_49 : decode cX11_init 49 = .ok (.new 29, 3) := by decide +kernel
theorem dX11_init_52 : decode cX11_init 52 = .ok (.dup, 1) := by decide +kernel
theorem dX11_init_53 : decode cX11_init 53 = .ok (.invokespecial 31, 3) := by decide +kernel
theorem dX11_init_56 : decode cX11_init 56 = .ok (.putfield 32, 3) := by decide +kernel
theorem dX11_init_59 : decode cX11_init 59 = .ok (.aload_n 0, 1) := by decide +kernel
theorem dX11_init_60 : decode cX11_init 60 = .ok (.new 36, 3) := by decide +kernel
theorem dX11_init_63 : decode cX11_init 63 = .ok (.dup, 1) := by decide +kernel
theorem dX11_init_64 : decode cX11_init 64 = .ok (.invokespecial 38, 3) := by decide +kernel
theorem dX11_init_67 : decode cX11_init 67 = .ok (.putfield 39, 3) := by decide +kernel
theorem dX11_init_70 : decode cX11_init 70 = .ok (.aload_n 0, 1) := by decide +kernel
theorem dX11_init_71 : decode cX11_init 71 = .ok (.new 43, 3) := by decide +kernel
theorem dX11_init_74 : decode cX11_init 74 = .ok (.dup, 1) := by decide +kernel
theorem dX11_init_75 : decode cX11_init 75 = .ok (.invokespecial 45, 3) := by decide +kernel
theorem dX11_init_78 : decode cX11_init 78 = .ok (.putfield 46, 3) := by decide +kernel
theorem dX11_init_81 : decode cX11_init 81 = .ok (.aload_n 0, 1) := by decide +kernel
theorem dX11_init_82 : decode cX11_init 82 = .ok (.iconst (-1), 1) := by decide +kernel
theorem dX11_init_83 : decode cX11_init 83 = .ok (.putfield 50, 3) := by decide +kernel
theorem dX11_init_86 : decode cX11_init 86 = .ok (.aload_n 0, 1) := by decide +kernel
theorem dX11_init_87 : decode cX11_init 87 = .ok (.iconst (-1), 1) := by decide +kernel
theorem dX11_init_88 : decode cX11_init 88 = .ok (.putfield 54, 3) := by decide +kernel
theorem dX11_init_91 : decode cX11_init 91 = .ok (.aload_n 0, 1) := by decide +kernel
theorem dX11_init_92 : decode cX11_init 92 = .ok (.iconst (-1), 1) := by decide +kernel
theorem dX11_init_93 : decode cX11_init 93 = .ok (.putfield 57, 3) := by decide +kernel
theorem dX11_init_96 : decode cX11_init 96 = .ok (.return_, 1) := by decide +kernel
theorem dX11_addShelf_0 : decode cX11_addShelf 0 = .ok (.aload_n 0, 1) := by decide +kernel
theorem dX11_addShelf_1 : decode cX11_addShelf 1 = .ok (.getstatic 60, 3) := by decide +kernel
theorem dX11_addShelf_4 : decode cX11_addShelf 4 = .ok (.iload_n 1, 1) := by decide +kernel
theorem dX11_addShelf_5 : decode cX11_addShelf 5 = .ok (.iconst 0, 1) := by decide +kernel
theorem dX11_addShelf_6 : decode cX11_addShelf 6 = .ok (.invokevirtual 66, 3) := by decide +kernel
theorem dX11_addShelf_9 : decode cX11_addShelf 9 = .ok (.ireturn, 1) := by decide +kernel
theorem dX11_link_0 : decode cX11_link 0 = .ok (.aload_n 0, 1) := by decide +kernel
theorem dX11_link_1 : decode cX11_link 1 = .ok (.getstatic 70, 3) := by decide +kernel
theorem dX11_link_4 : decode cX11_link 4 = .ok (.iload_n 1, 1) := by decide +kernel
theorem dX11_link_5 : decode cX11_link 5 = .ok (.iload_n 2, 1) := by decide +kernel
theorem dX11_link_6 : decode cX11_link 6 = .ok (.invokevirtual 66, 3) := by decide +kernel
theorem dX11_link_9 : decode cX11_link 9 = .ok (.ireturn, 1) := by decide +kernel
theorem dX11_unlink_0 : decode cX11_unlink 0 = .ok (.aload_n 0, 1) := by decide +kernel
theorem dX11_unlink_1 : decode cX11_unlink 1 = .ok (.getstatic 73, 3) := by decide +kernel
theorem dX11_unlink_4 : decode cX11_unlink 4 = .ok (.iload_n 1, 1) := by decide +kernel
theorem dX11_unlink_5 : decode cX11_unlink 5 = .ok (.iload_n 2, 1) := by decide +kernel
theorem dX11_unlink_6 : decode cX11_unlink 6 = .ok (.invokevirtual 66, 3) := by decide +kernel
theorem dX11_unlink_9 : decode cX11_unlink 9 = .ok (.ireturn, 1) := by decide +kernel
theorem dX11_setBlind_0 : decode cX11_setBlind 0 = .ok (.aload_n 0, 1) := by decide +kernel
theorem dX11_setBlind_1 : decode cX11_setBlind 1 = .ok (.iload_n 2, 1) := by decide +kernel
theorem dX11_setBlind_2 : decode cX11_setBlind 2 = .ok (.ifCond .eq 9, 3) := by decide +kernel
theorem dX11_setBlind_5 : decode cX11_setBlind 5 = .ok (.getstatic 76, 3) := by decide +kernel
theorem dX11_setBlind_8 : decode cX11_setBlind 8 = .ok (.goto 6, 3) := by decide +kernel
theorem dX11_setBlind_11 : decode cX11_setBlind 11 = .ok (.getstatic 79, 3) := by decide +kernel
theorem dX11_setBlind_14 : decode cX11_setBlind 14 = .ok (.iload_n 1, 1) := by decide +kernel
theorem dX11_setBlind_15 : decode cX11_setBlind 15 = .ok (.iconst 0, 1) := by decide +kernel
theorem dX11_setBlind_16 : decode cX11_setBlind 16 = .ok (.invokevirtual 66, 3) := by decide +kernel
theorem dX11_setBlind_19 : decode cX11_setBlind 19 = .ok (.ireturn, 1) := by decide +kernel
theorem dX11_fill_0 : decode cX11_fill 0 = .ok (.aload_n 0, 1) := by decide +kernel
theorem dX11_fill_1 : decode cX11_fill 1 = .ok (.getstatic 82, 3) := by decide +kernel
theorem dX11_fill_4 : decode cX11_fill 4 = .ok (.iload_n 1, 1) := by decide +kernel
theorem dX11_fill_5 : decode cX11_fill 5 = .ok (.iload_n 2, 1) := by decide +kernel
theorem dX11_fill_6 : decode cX11_fill 6 = .ok (.invokevirtual 66, 3) := by decide +kernel
theorem dX11_fill_9 : decode cX11_fill 9 = .ok (.ireturn, 1) := by decide +kernel
theorem dX11_shelfCount_0 : decode cX11_shelfCount 0 = .ok (.aload_n 0, 1) := by decide +kernel
theorem dX11_shelfCount_1 : decode cX11_shelfCount 1 = .ok (.getfield 10, 3) := by decide +kernel
theorem dX11_shelfCount_4 : decode cX11_shelfCount 4 = .ok (.getfield 85, 3) := by decide +kernel
theorem dX11_shelfCount_7 : decode cX11_shelfCount 7 = .ok (.getfield 89, 3) := by decide +kernel
theorem dX11_shelfCount_10 : decode cX11_shelfCount 10 = .ok (.ireturn, 1) := by decide +kernel
theorem dX11_passageCount_0 : decode cX11_passageCount 0 = .ok (.aload_n 0, 1) := by decide +kernel
theorem dX11_passageCount_1 : decode cX11_passageCount 1 = .ok (.getfield 10, 3) := by decide +kernel
theorem dX11_passageCount_4 : decode cX11_passageCount 4 = .ok (.getfield 85, 3) := by decide +kernel
theorem dX11_passageCount_7 : decode cX11_passageCount 7 = .ok (.getfield 94, 3) := by decide +kernel
theorem dX11_passageCount_10 : decode cX11_passageCount 10 = .ok (.ireturn, 1) := by decide +kernel
theorem dX11_cheese_0 : decode cX11_cheese 0 = .ok (.aload_n 0, 1) := by decide +kernel
theorem dX11_cheese_1 : decode cX11_cheese 1 = .ok (.iload_n 1, 1) := by decide +kernel
theorem dX11_cheese_2 : decode cX11_cheese 2 = .ok (.invokevirtual 97, 3) := by decide +kernel
theorem dX11_cheese_5 : decode cX11_cheese 5 = .ok (.aload_n 0, 1) := by decide +kernel
theorem dX11_cheese_6 : decode cX11_cheese 6 = .ok (.getfield 10, 3) := by decide +kernel
theorem dX11_cheese_9 : decode cX11_cheese 9 = .ok (.getfield 85, 3) := by decide +kernel
theorem dX11_cheese_12 : decode cX11_cheese 12 = .ok (.getfield 101, 3) := by decide +kernel
theorem dX11_cheese_15 : decode cX11_cheese 15 = .ok (.iload_n 1, 1) := by decide +kernel
theorem dX11_cheese_16 : decode cX11_cheese 16 = .ok (.invokestatic 105, 3) := by decide +kernel
theorem dX11_cheese_19 : decode cX11_cheese 19 = .ok (.ireturn, 1) := by decide +kernel
theorem dX11_isBlind_0 : decode cX11_isBlind 0 = .ok (.aload_n 0, 1) := by decide +kernel
theorem dX11_isBlind_1 : decode cX11_isBlind 1 = .ok (.iload_n 1, 1) := by decide +kernel
theorem dX11_isBlind_2 : decode cX11_isBlind 2 = .ok (.invokevirtual 97, 3) := by decide +kernel
theorem dX11_isBlind_5 : decode cX11_isBlind 5 = .ok (.aload_n 0, 1) := by decide +kernel
theorem dX11_isBlind_6 : decode cX11_isBlind 6 = .ok (.getfield 10, 3) := by decide +kernel
theorem dX11_isBlind_9 : decode cX11_isBlind 9 = .ok (.getfield 85, 3) := by decide +kernel
theorem dX11_isBlind_12 : decode cX11_isBlind 12 = .ok (.getfield 109, 3) := by decide +kernel
theorem dX11_isBlind_15 : decode cX11_isBlind 15 = .ok (.iload_n 1, 1) := by decide +kernel
theorem dX11_isBlind_16 : decode cX11_isBlind 16 = .ok (.invokestatic 112, 3) := by decide +kernel
theorem dX11_isBlind_19 : decode cX11_isBlind 19 = .ok (.ireturn, 1) := by decide +kernel
theorem dX11_neighbourCount_0 : decode cX11_neighbourCount 0 = .ok (.aload_n 0, 1) := by decide +kernel
theorem dX11_neighbourCount_1 : decode cX11_neighbourCount 1 = .ok (.iload_n 1, 1) := by decide +kernel
theorem dX11_neighbourCount_2 : decode cX11_neighbourCount 2 = .ok (.invokevirtual 97, 3) := by decide +kernel
theorem dX11_neighbourCount_5 : decode cX11_neighbourCount 5 = .ok (.aload_n 0, 1) := by decide +kernel
theorem dX11_neighbourCount_6 : decode cX11_neighbourCount 6 = .ok (.getfield 10, 3) := by decide +kernel
theorem dX11_neighbourCount_9 : decode cX11_neighbourCount 9 = .ok (.getfield 85, 3) := by decide +kernel
theorem dX11_neighbourCount_12 : decode cX11_neighbourCount 12 = .ok (.getfield 116, 3) := by decide +kernel
theorem dX11_neighbourCount_15 : decode cX11_neighbourCount 15 = .ok (.iload_n 1, 1) := by decide +kernel
theorem dX11_neighbourCount_16 : decode cX11_neighbourCount 16 = .ok (.invokestatic 105, 3) := by decide +kernel
theorem dX11_neighbourCount_19 : decode cX11_neighbourCount 19 = .ok (.invokestatic 119, 3) := by decide +kernel
theorem dX11_neighbourCount_22 : decode cX11_neighbourCount 22 = .ok (.ireturn, 1) := by decide +kernel
theorem dX11_distance_0 : decode cX11_distance 0 = .ok (.aload_n 0, 1) := by decide +kernel
theorem dX11_distance_1 : decode cX11_distance 1 = .ok (.iload_n 1, 1) := by decide +kernel
theorem dX11_distance_2 : decode cX11_distance 2 = .ok (.invokevirtual 97, 3) := by decide +kernel
theorem dX11_distance_5 : decode cX11_distance 5 = .ok (.aload_n 0, 1) := by decide +kernel
theorem dX11_distance_6 : decode cX11_distance 6 = .ok (.iload_n 2, 1) := by decide +kernel
theorem dX11_distance_7 : decode cX11_distance 7 = .ok (.invokevirtual 97, 3) := by decide +kernel
theorem dX11_distance_10 : decode cX11_distance 10 = .ok (.aload_n 0, 1) := by decide +kernel
theorem dX11_distance_11 : decode cX11_distance 11 = .ok (.getfield 10, 3) := by decide +kernel
theorem dX11_distance_14 : decode cX11_distance 14 = .ok (.getfield 85, 3) := by decide +kernel
theorem dX11_distance_17 : decode cX11_distance 17 = .ok (.iload_n 1, 1) := by decide +kernel
theorem dX11_distance_18 : decode cX11_distance 18 = .ok (.iload_n 2, 1) := by decide +kernel
theorem dX11_distance_19 : decode cX11_distance 19 = .ok (.invokevirtual 125, 3) := by decide +kernel
theorem dX11_distance_22 : decode cX11_distance 22 = .ok (.istore_n 3, 1) := by decide +kernel
theorem dX11_distance_23 : decode cX11_distance 23 = .ok (.iload_n 3, 1) := by decide +kernel
theorem dX11_distance_24 : decode cX11_distance 24 = .ok (.iconst (-1), 1) := by decide +kernel
theorem dX11_distance_25 : decode cX11_distance 25 = .ok (.if_icmp .ne 13, 3) := by decide +kernel
theorem dX11_distance_28 : decode cX11_distance 28 = .ok (.new 129, 3) := by decide +kernel
theorem dX11_distance_31 : decode cX11_distance 31 = .ok (.dup, 1) := by decide +kernel
theorem dX11_distance_32 : decode cX11_distance 32 = .ok (.ldc 131, 2) := by decide +kernel
theorem dX11_distance_34 : decode cX11_distance 34 = .ok (.invokespecial 133, 3) := by decide +kernel
theorem dX11_distance_37 : decode cX11_distance 37 = .ok (.athrow, 1) := by decide +kernel
theorem dX11_distance_38 : decode cX11_distance 38 = .ok (.iload_n 3, 1) := by decide +kernel
theorem dX11_distance_39 : decode cX11_distance 39 = .ok (.ireturn, 1) := by decide +kernel
theorem dX11_distanceByTable_0 : decode cX11_distanceByTable 0 = .ok (.aload_n 0, 1) := by decide +kernel
theorem dX11_distanceByTable_1 : decode cX11_distanceByTable 1 = .ok (.iload_n 1, 1) := by decide +kernel
theorem dX11_distanceByTable_2 : decode cX11_distanceByTable 2 = .ok (.invokevirtual 97, 3) := by decide +kernel
theorem dX11_distanceByTable_5 : decode cX11_distanceByTable 5 = .ok (.aload_n 0, 1) := by decide +kernel
theorem dX11_distanceByTable_6 : decode cX11_distanceByTable 6 = .ok (.iload_n 2, 1) := by decide +kernel
theorem dX11_distanceByTable_7 : decode cX11_distanceByTable 7 = .ok (.invokevirtual 97, 3) := by decide +kernel
theorem dX11_distanceByTable_10 : decode cX11_distanceByTable 10 = .ok (.aload_n 0, 1) := by decide +kernel
theorem dX11_distanceByTable_11 : decode cX11_distanceByTable 11 = .ok (.getfield 32, 3) := by decide +kernel
theorem dX11_distanceByTable_14 : decode cX11_distanceByTable 14 = .ok (.aload_n 0, 1) := by decide +kernel
theorem dX11_distanceByTable_15 : decode cX11_distanceByTable 15 = .ok (.getfield 10, 3) := by decide +kernel
theorem dX11_distanceByTable_18 : decode cX11_distanceByTable 18 = .ok (.getfield 85, 3) := by decide +kernel
theorem dX11_distanceByTable_21 : decode cX11_distanceByTable 21 = .ok (.iload_n 1, 1) := by decide +kernel
theorem dX11_distanceByTable_22 : decode cX11_distanceByTable 22 = .ok (.iload_n 2, 1) := by decide +kernel
theorem dX11_distanceByTable_23 : decode cX11_distanceByTable 23 = .ok (.invokevirtual 136, 3) := by decide +kernel
theorem dX11_distanceByTable_26 : decode cX11_distanceByTable 26 = .ok (.istore_n 3, 1) := by decide +kernel
theorem dX11_distanceByTable_27 : decode cX11_distanceByTable 27 = .ok (.iload_n 3, 1) := by decide +kernel
theorem dX11_distanceByTable_28 : decode cX11_distanceByTable 28 = .ok (.sipush 1000, 3) := by decide +kernel
theorem dX11_distanceByTable_31 : decode cX11_distanceByTable 31 = .ok (.if_icmp .lt 13, 3) := by decide +kernel
theorem dX11_distanceByTable_34 : decode cX11_distanceByTable 34 = .ok (.new 129, 3) := by decide +kernel
theorem dX11_distanceByTable_37 : decode cX11_distanceByTable 37 = .ok (.dup, 1) := by decide +kernel
theorem dX11_distanceByTable_38 : decode cX11_distanceByTable 38 = .ok (.ldc 131, 2) := by decide +kernel
theorem dX11_distanceByTable_40 : decode cX11_distanceByTable 40 = .ok (.invokespecial 133, 3) := by decide +kernel
theorem dX11_distanceByTable_43 : decode cX11_distanceByTable 43 = .ok (.athrow, 1) := by decide +kernel
theorem dX11_distanceByTable_44 : decode cX11_distanceByTable 44 = .ok (.iload_n 3, 1) := by decide +kernel
theorem dX11_distanceByTable_45 : decode cX11_distanceByTable 45 = .ok (.ireturn, 1) := by decide +kernel
theorem dX11_groupCount_0 : decode cX11_groupCount 0 = .ok (.aload_n 0, 1) := by decide +kernel
theorem dX11_groupCount_1 : decode cX11_groupCount 1 = .ok (.getfield 10, 3) := by decide +kernel
theorem dX11_groupCount_4 : decode cX11_groupCount 4 = .ok (.getfield 85, 3) := by decide +kernel
theorem dX11_groupCount_7 : decode cX11_groupCount 7 = .ok (.invokevirtual 139, 3) := by decide +kernel
theorem dX11_groupCount_10 : decode cX11_groupCount 10 = .ok (.ireturn, 1) := by decide +kernel
theorem dX11_shelfByCheese_0 : decode cX11_shelfByCheese 0 = .ok (.aload_n 0, 1) := by decide +kernel
theorem dX11_shelfByCheese_1 : decode cX11_shelfByCheese 1 = .ok (.getfield 10, 3) := by decide +kernel
theorem dX11_shelfByCheese_4 : decode cX11_shelfByCheese 4 = .ok (.getfield 85, 3) := by decide +kernel
theorem dX11_shelfByCheese_7 : decode cX11_shelfByCheese 7 = .ok (.iload_n 1, 1) := by decide +kernel
theorem dX11_shelfByCheese_8 : decode cX11_shelfByCheese 8 = .ok (.invokevirtual 143, 3) := by decide +kernel
theorem dX11_shelfByCheese_11 : decode cX11_shelfByCheese 11 = .ok (.istore_n 2, 1) := by decide +kernel
