theorem dX12_isBlind_41 : decode cX12_isBlind 41 = .ok (.goto 4, 3) := by decide +kernel
theorem dX12_isBlind_44 : decode cX12_isBlind 44 = .ok (.iconst 0, 1) := by decide +kernel
theorem dX12_isBlind_45 : decode cX12_isBlind 45 = .ok (.ireturn, 1) := by decide +kernel
theorem dX12_neighbourCount_0 : decode cX12_neighbourCount 0 = .ok (.aload_n 0, 1) := by decide +kernel
theorem dX12_neighbourCount_1 : decode cX12_neighbourCount 1 = .ok (.iconst 0, 1) := by decide +kernel
theorem dX12_neighbourCount_2 : decode cX12_neighbourCount 2 = .ok (.putfield 1, 3) := by decide +kernel
theorem dX12_neighbourCount_5 : decode cX12_neighbourCount 5 = .ok (.aload_n 0, 1) := by decide +kernel
theorem dX12_neighbourCount_6 : decode cX12_neighbourCount 6 = .ok (.iload_n 1, 1) := by decide +kernel
theorem dX12_neighbourCount_7 : decode cX12_neighbourCount 7 = .ok (.invokevirtual 96, 3) := by decide +kernel
theorem dX12_neighbourCount_10 : decode cX12_neighbourCount 10 = .ok (.ifCond .ne 9, 3) := by decide +kernel
theorem dX12_neighbourCount_13 : decode cX12_neighbourCount 13 = .ok (.aload_n 0, 1) := by decide +kernel
theorem dX12_neighbourCount_14 : decode cX12_neighbourCount 14 = .ok (.iconst 1, 1) := by decide +kernel
theorem dX12_neighbourCount_15 : decode cX12_neighbourCount 15 = .ok (.invokevirtual 22, 3) := by decide +kernel
theorem dX12_neighbourCount_18 : decode cX12_neighbourCount 18 = .ok (.ireturn, 1) := by decide +kernel
theorem dX12_neighbourCount_19 : decode cX12_neighbourCount 19 = .ok (.iconst 0, 1) := by decide +kernel
theorem dX12_neighbourCount_20 : decode cX12_neighbourCount 20 = .ok (.istore_n 2, 1) := by decide +kernel
theorem dX12_neighbourCount_21 : decode cX12_neighbourCount 21 = .ok (.iconst 0, 1) := by decide +kernel
theorem dX12_neighbourCount_22 : decode cX12_neighbourCount 22 = .ok (.istore_n 3, 1) := by decide +kernel
theorem dX12_neighbourCount_23 : decode cX12_neighbourCount 23 = .ok (.iload_n 3, 1) := by decide +kernel
theorem dX12_neighbourCount_24 : decode cX12_neighbourCount 24 = .ok (.aload_n 0, 1) := by decide +kernel
theorem dX12_neighbourCount_25 : decode cX12_neighbourCount 25 = .ok (.getfield 32, 3) := by decide +kernel
theorem dX12_neighbourCount_28 : decode cX12_neighbourCount 28 = .ok (.iconst 0, 1) := by decide +kernel
theorem dX12_neighbourCount_29 : decode cX12_neighbourCount 29 = .ok (.iaload, 1) := by decide +kernel
theorem dX12_neighbourCount_30 : decode cX12_neighbourCount 30 = .ok (.if_icmp .ge 26, 3) := by decide +kernel
theorem dX12_neighbourCount_33 : decode cX12_neighbourCount 33 = .ok (.iload_n 2, 1) := by decide +kernel
theorem dX12_neighbourCount_34 : decode cX12_neighbourCount 34 = .ok (.aload_n 0, 1) := by decide +kernel
theorem dX12_neighbourCount_35 : decode cX12_neighbourCount 35 = .ok (.iload_n 1, 1) := by decide +kernel
theorem dX12_neighbourCount_36 : decode cX12_neighbourCount 36 = .ok (.iload_n 3, 1) := by decide +kernel
theorem dX12_neighbourCount_37 : decode cX12_neighbourCount 37 = .ok (.invokevirtual 100, 3) := by decide +kernel
theorem dX12_neighbourCount_40 : decode cX12_neighbourCount 40 = .ok (.ifCond .eq 7, 3) := by decide +kernel
theorem dX12_neighbourCount_43 : decode cX12_neighbourCount 43 = .ok (.iconst 1, 1) := by decide +kernel
theorem dX12_neighbourCount_44 : decode cX12_neighbourCount 44 = .ok (.goto 4, 3) := by decide +kernel
theorem dX12_neighbourCount_47 : decode cX12_neighbourCount 47 = .ok (.iconst 0, 1) := by decide +kernel
theorem dX12_neighbourCount_48 : decode cX12_neighbourCount 48 = .ok (.iadd, 1) := by decide +kernel
theorem dX12_neighbourCount_49 : decode cX12_neighbourCount 49 = .ok (.istore_n 2, 1) := by decide +kernel
theorem dX12_neighbourCount_50 : decode cX12_neighbourCount 50 = .ok (.iinc 3 1, 3) := by decide +kernel
theorem dX12_neighbourCount_53 : decode cX12_neighbourCount 53 = .ok (.goto (-30), 3) := by decide +kernel
theorem dX12_neighbourCount_56 : decode cX12_neighbourCount 56 = .ok (.iload_n 2, 1) := by decide +kernel
theorem dX12_neighbourCount_57 : decode cX12_neighbourCount 57 = .ok (.ireturn, 1) := by decide +kernel
theorem dX12_distance_0 : decode cX12_distance 0 = .ok (.aload_n 0, 1) := by decide +kernel
theorem dX12_distance_1 : decode cX12_distance 1 = .ok (.iconst 0, 1) := by decide +kernel
theorem dX12_distance_2 : decode cX12_distance 2 = .ok (.putfield 1, 3) := by decide +kernel
theorem dX12_distance_5 : decode cX12_distance 5 = .ok (.aload_n 0, 1) := by decide +kernel
theorem dX12_distance_6 : decode cX12_distance 6 = .ok (.iload_n 1, 1) := by decide +kernel
theorem dX12_distance_7 : decode cX12_distance 7 = .ok (.invokevirtual 96, 3) := by decide +kernel
theorem dX12_distance_10 : decode cX12_distance 10 = .ok (.ifCond .eq 11, 3) := by decide +kernel
theorem dX12_distance_13 : decode cX12_distance 13 = .ok (.aload_n 0, 1) := by decide +kernel
theorem dX12_distance_14 : decode cX12_distance 14 = .ok (.iload_n 2, 1) := by decide +kernel
theorem dX12_distance_15 : decode cX12_distance 15 = .ok (.invokevirtual 96, 3) := by decide +kernel
theorem dX12_distance_18 : decode cX12_distance 18 = .ok (.ifCond .ne 9, 3) := by decide +kernel
theorem dX12_distance_21 : decode cX12_distance 21 = .ok (.aload_n 0, 1) := by decide +kernel
theorem dX12_distance_22 : decode cX12_distance 22 = .ok (.iconst 1, 1) := by decide +kernel
theorem dX12_distance_23 : decode cX12_distance 23 = .ok (.invokevirtual 22, 3) := by decide +kernel
theorem dX12_distance_26 : decode cX12_distance 26 = .ok (.ireturn, 1) := by decide +kernel
theorem dX12_distance_27 : decode cX12_distance 27 = .ok (.aload_n 0, 1) := by decide +kernel
theorem dX12_distance_28 : decode cX12_distance 28 = .ok (.iload_n 2, 1) := by decide +kernel
theorem dX12_distance_29 : decode cX12_distance 29 = .ok (.invokevirtual 145, 3) := by decide +kernel
theorem dX12_distance_32 : decode cX12_distance 32 = .ok (.aload_n 0, 1) := by decide +kernel
theorem dX12_distance_33 : decode cX12_distance 33 = .ok (.getfield 48, 3) := by decide +kernel
theorem dX12_distance_36 : decode cX12_distance 36 = .ok (.iload_n 1, 1) := by decide +kernel
theorem dX12_distance_37 : decode cX12_distance 37 = .ok (.iaload, 1) := by decide +kernel
theorem dX12_distance_38 : decode cX12_distance 38 = .ok (.bipush 99, 2) := by decide +kernel
theorem dX12_distance_40 : decode cX12_distance 40 = .ok (.if_icmp .ne 11, 3) := by decide +kernel
theorem dX12_distance_43 : decode cX12_distance 43 = .ok (.aload_n 0, 1) := by decide +kernel
theorem dX12_distance_44 : decode cX12_distance 44 = .ok (.iconst 2, 1) := by decide +kernel
theorem dX12_distance_45 : decode cX12_distance 45 = .ok (.invokevirtual 22, 3) := by decide +kernel
theorem dX12_distance_48 : decode cX12_distance 48 = .ok (.goto 9, 3) := by decide +kernel
theorem dX12_distance_51 : decode cX12_distance 51 = .ok (.aload_n 0, 1) := by decide +kernel
theorem dX12_distance_52 : decode cX12_distance 52 = .ok (.getfield 48, 3) := by decide +kernel
theorem dX12_distance_55 : decode cX12_distance 55 = .ok (.iload_n 1, 1) := by decide +kernel
theorem dX12_distance_56 : decode cX12_distance 56 = .ok (.iaload, 1) := by decide +kernel
theorem dX12_distance_57 : decode cX12_distance 57 = .ok (.ireturn, 1) := by decide +kernel
theorem dX12_distanceByTable_0 : decode cX12_distanceByTable 0 = .ok (.aload_n 0, 1) := by decide +kernel
theorem dX12_distanceByTable_1 : decode cX12_distanceByTable 1 = .ok (.iload_n 1, 1) := by decide +kernel
theorem dX12_distanceByTable_2 : decode cX12_distanceByTable 2 = .ok (.iload_n 2, 1) := by decide +kernel
theorem dX12_distanceByTable_3 : decode cX12_distanceByTable 3 = .ok (.invokevirtual 195, 3) := by decide +kernel
theorem dX12_distanceByTable_6 : decode cX12_distanceByTable 6 = .ok (.ireturn, 1) := by decide +kernel
theorem dX12_groupCount_0 : decode cX12_groupCount 0 = .ok (.aload_n 0, 1) := by decide +kernel
theorem dX12_groupCount_1 : decode cX12_groupCount 1 = .ok (.iconst 0, 1) := by decide +kernel
theorem dX12_groupCount_2 : decode cX12_groupCount 2 = .ok (.putfield 1, 3) := by decide +kernel
theorem dX12_groupCount_5 : decode cX12_groupCount 5 = .ok (.iconst 0, 1) := by decide +kernel
theorem dX12_groupCount_6 : decode cX12_groupCount 6 = .ok (.istore_n 1, 1) := by decide +kernel
theorem dX12_groupCount_7 : decode cX12_groupCount 7 = .ok (.iconst 0, 1) := by decide +kernel
theorem dX12_groupCount_8 : decode cX12_groupCount 8 = .ok (.istore_n 2, 1) := by decide +kernel
theorem dX12_groupCount_9 : decode cX12_groupCount 9 = .ok (.iload_n 2, 1) := by decide +kernel
theorem dX12_groupCount_10 : decode cX12_groupCount 10 = .ok (.aload_n 0, 1) := by decide +kernel
theorem dX12_groupCount_11 : decode cX12_groupCount 11 = .ok (.getfield 32, 3) := by decide +kernel
theorem dX12_groupCount_14 : decode cX12_groupCount 14 = .ok (.iconst 0, 1) := by decide +kernel
theorem dX12_groupCount_15 : decode cX12_groupCount 15 = .ok (.iaload, 1) := by decide +kernel
theorem dX12_groupCount_16 : decode cX12_groupCount 16 = .ok (.if_icmp .ge 65, 3) := by decide +kernel
theorem dX12_groupCount_19 : decode cX12_groupCount 19 = .ok (.aload_n 0, 1) := by decide +kernel
theorem dX12_groupCount_20 : decode cX12_groupCount 20 = .ok (.iload_n 2, 1) := by decide +kernel
theorem dX12_groupCount_21 : decode cX12_groupCount 21 = .ok (.invokevirtual 145, 3) := by decide +kernel
theorem dX12_groupCount_24 : decode cX12_groupCount 24 = .ok (.iconst 1, 1) := by decide +kernel
theorem dX12_groupCount_25 : decode cX12_groupCount 25 = .ok (.istore_n 3, 1) := by decide +kernel
theorem dX12_groupCount_26 : decode cX12_groupCount 26 = .ok (.iconst 0, 1) := by decide +kernel
theorem dX12_groupCount_27 : decode cX12_groupCount 27 = .ok (.istore 4, 2) := by decide +kernel
theorem dX12_groupCount_29 : decode cX12_groupCount 29 = .ok (.iload 4, 2) := by decide +kernel
theorem dX12_groupCount_31 : decode cX12_groupCount 31 = .ok (.iload_n 2, 1) := by decide +kernel
theorem dX12_groupCount_32 : decode cX12_groupCount 32 = .ok (.if_icmp .ge 31, 3) := by decide +kernel
theorem dX12_groupCount_35 : decode cX12_groupCount 35 = .ok (.iload_n 3, 1) := by decide +kernel
theorem dX12_groupCount_36 : decode cX12_groupCount 36 = .ok (.ifCond .eq 19, 3) := by decide +kernel
theorem dX12_groupCount_39 : decode cX12_groupCount 39 = .ok (.aload_n 0, 1) := by decide +kernel
theorem dX12_groupCount_40 : decode cX12_groupCount 40 = .ok (.getfield 48, 3) := by decide +kernel
theorem dX12_groupCount_43 : decode cX12_groupCount 43 = .ok (.iload 4, 2) := by decide +kernel
theorem dX12_groupCount_45 : decode cX12_groupCount 45 = .ok (.iaload, 1) := by decide +kernel
theorem dX12_groupCount_46 : decode cX12_groupCount 46 = .ok (.bipush 99, 2) := by decide +kernel
theorem dX12_groupCount_48 : decode cX12_groupCount 48 = .ok (.if_icmp .ne 7, 3) := by decide +kernel
theorem dX12_groupCount_51 : decode cX12_groupCount 51 = .ok (.iconst 1, 1) := by decide +kernel
theorem dX12_groupCount_52 : decode cX12_groupCount 52 = .ok (.goto 4, 3) := by decide +kernel
theorem dX12_groupCount_55 : decode cX12_groupCount 55 = .ok (.iconst 0, 1) := by decide +kernel
theorem dX12_groupCount_56 : decode cX12_groupCount 56 = .ok (.istore_n 3, 1) := by decide +kernel
theorem dX12_groupCount_57 : decode cX12_groupCount 57 = .ok (.iinc 4 1, 3) := by decide +kernel
theorem dX12_groupCount_60 : decode cX12_groupCount 60 = .ok (.goto (-31), 3) := by decide +kernel
theorem dX12_groupCount_63 : decode cX12_groupCount 63 = .ok (.iload_n 1, 1) := by decide +kernel
theorem dX12_groupCount_64 : decode cX12_groupCount 64 = .ok (.iload_n 3, 1) := by decide +kernel
theorem dX12_groupCount_65 : decode cX12_groupCount 65 = .ok (.ifCond .eq 7, 3) := by decide +kernel
theorem dX12_groupCount_68 : decode cX12_groupCount 68 = .ok (.iconst 1, 1) := by decide +kernel
theorem dX12_groupCount_69 : decode cX12_groupCount 69 = .ok (.goto 4, 3) := by decide +kernel
theorem dX12_groupCount_72 : decode cX12_groupCount 72 = .ok (.iconst 0, 1) := by decide +kernel
theorem dX12_groupCount_73 : decode cX12_groupCount 73 = .ok (.iadd, 1) := by decide +kernel
theorem dX12_groupCount_74 : decode cX12_groupCount 74 = .ok (.istore_n 1, 1) := by decide +kernel
theorem dX12_groupCount_75 : decode cX12_groupCount 75 = .ok (.iinc 2 1, 3) := by decide +kernel
theorem dX12_groupCount_78 : decode cX12_groupCount 78 = .ok (.goto (-69), 3) := by decide +kernel
theorem dX12_groupCount_81 : decode cX12_groupCount 81 = .ok (.iload_n 1, 1) := by decide +kernel
theorem dX12_groupCount_82 : decode cX12_groupCount 82 = .ok (.ireturn, 1) := by decide +kernel
theorem dX12_shelfByCheese_0 : decode cX12_shelfByCheese 0 = .ok (.aload_n 0, 1) := by decide +kernel
theorem dX12_shelfByCheese_1 : decode cX12_shelfByCheese 1 = .ok (.iconst 0, 1) := by decide +kernel
theorem dX12_shelfByCheese_2 : decode cX12_shelfByCheese 2 = .ok (.putfield 1, 3) := by decide +kernel
theorem dX12_shelfByCheese_5 : decode cX12_shelfByCheese 5 = .ok (.iconst 0, 1) := by decide +kernel
theorem dX12_shelfByCheese_6 : decode cX12_shelfByCheese 6 = .ok (.istore_n 2, 1) := by decide +kernel
theorem dX12_shelfByCheese_7 : decode cX12_shelfByCheese 7 = .ok (.iload_n 2, 1) := by decide +kernel
theorem dX12_shelfByCheese_8 : decode cX12_shelfByCheese 8 = .ok (.aload_n 0, 1) := by decide +kernel
theorem dX12_shelfByCheese_9 : decode cX12_shelfByCheese 9 = .ok (.getfield 32, 3) := by decide +kernel
theorem dX12_shelfByCheese_12 : decode cX12_shelfByCheese 12 = .ok (.iconst 0, 1) := by decide +kernel
theorem dX12_shelfByCheese_13 : decode cX12_shelfByCheese 13 = .ok (.iaload, 1) := by decide +kernel
theorem dX12_shelfByCheese_14 : decode cX12_shelfByCheese 14 = .ok (.if_icmp .ge 84, 3) := by decide +kernel
theorem dX12_shelfByCheese_17 : decode cX12_shelfByCheese 17 = .ok (.iconst 0, 1) := by decide +kernel
theorem dX12_shelfByCheese_18 : decode cX12_shelfByCheese 18 = .ok (.istore_n 3, 1) := by decide +kernel
theorem dX12_shelfByCheese_19 : decode cX12_shelfByCheese 19 = .ok (.iconst 0, 1) := by decide +kernel
theorem dX12_shelfByCheese_20 : decode cX12_shelfByCheese 20 = .ok (.istore 4, 2) := by decide +kernel
theorem dX12_shelfByCheese_22 : decode cX12_shelfByCheese 22 = .ok (.iload 4, 2) := by decide +kernel
theorem dX12_shelfByCheese_24 : decode cX12_shelfByCheese 24 = .ok (.aload_n 0, 1) := by decide +kernel
theorem dX12_shelfByCheese_25 : decode cX12_shelfByCheese 25 = .ok (.getfield 32, 3) := by decide +kernel
theorem dX12_shelfByCheese_28 : decode cX12_shelfByCheese 28 = .ok (.iconst 0, 1) := by decide +kernel
theorem dX12_shelfByCheese_29 : decode cX12_shelfByCheese 29 = .ok (.iaload, 1) := by decide +kernel
theorem dX12_shelfByCheese_30 : decode cX12_shelfByCheese 30 = .ok (.if_icmp .ge 55, 3) := by decide +kernel
theorem dX12_shelfByCheese_33 : decode cX12_shelfByCheese 33 = .ok (.aload_n 0, 1) := by decide +kernel
theorem dX12_shelfByCheese_34 : decode cX12_shelfByCheese 34 = .ok (.getfield 32, 3) := by decide +kernel
theorem dX12_shelfByCheese_37 : decode cX12_shelfByCheese 37 = .ok (.bipush 14, 2) := by decide +kernel
theorem dX12_shelfByCheese_39 : decode cX12_shelfByCheese 39 = .ok (.iload 4, 2) := by decide +kernel
theorem dX12_shelfByCheese_41 : decode cX12_shelfByCheese 41 = .ok (.iadd, 1) := by decide +kernel
theorem dX12_shelfByCheese_42 : decode cX12_shelfByCheese 42 = .ok (.iaload, 1) := by decide +kernel
theorem dX12_shelfByCheese_43 : decode cX12_shelfByCheese 43 = .ok (.aload_n 0, 1) := by decide +kernel
theorem dX12_shelfByCheese_44 : decode cX12_shelfByCheese 44 = .ok (.getfield 32, 3) := by decide +kernel
theorem dX12_shelfByCheese_47 : decode cX12_shelfByCheese 47 = .ok (.bipush 14, 2) := by decide +kernel
theorem dX12_shelfByCheese_49 : decode cX12_shelfByCheese 49 = .ok (.iload_n 2, 1) := by decide +kernel
theorem dX12_shelfByCheese_50 : decode cX12_shelfByCheese 50 = .ok (.iadd, 1) := by decide +kernel
theorem dX12_shelfByCheese_51 : decode cX12_shelfByCheese 51 = .ok (.iaload, 1) := by decide +kernel
theorem dX12_shelfByCheese_52 : decode cX12_shelfByCheese 52 = .ok (.isub, 1) := by decide +kernel
theorem dX12_shelfByCheese_53 : decode cX12_shelfByCheese 53 = .ok (.istore 5, 2) := by decide +kernel
theorem dX12_shelfByCheese_55 : decode cX12_shelfByCheese 55 = .ok (.iload_n 3, 1) := by decide +kernel
theorem dX12_shelfByCheese_56 : decode cX12_shelfByCheese 56 = .ok (.iload 5, 2) := by decide +kernel
theorem dX12_shelfByCheese_58 : decode cX12_shelfByCheese 58 = .ok (.ifCond .gt 14, 3) := by decide +kernel
theorem dX12_shelfByCheese_61 : decode cX12_shelfByCheese 61 = .ok (.iload 5, 2) := by decide +kernel
theorem dX12_shelfByCheese_63 : decode cX12_shelfByCheese 63 = .ok (.ifCond .ne 13, 3) := by decide +kernel
theorem dX12_shelfByCheese_66 : decode cX12_shelfByCheese 66 = .ok (.iload 4, 2) := by decide +kernel
theorem dX12_shelfByCheese_68 : decode cX12_shelfByCheese 68 = .ok (.iload_n 2, 1) := by decide +kernel
theorem dX12_shelfByCheese_69 : decode cX12_shelfByCheese 69 = .ok (.if_icmp .ge 7, 3) := by decide +kernel
theorem dX12_shelfByCheese_72 : decode cX12_shelfByCheese 72 = .ok (.iconst 1, 1) := by decide +kernel
theorem dX12_shelfByCheese_73 : decode cX12_shelfByCheese 73 = .ok (.goto 4, 3) := by decide +kernel
theorem dX12_shelfByCheese_76 : decode cX12_shelfByCheese 76 = .ok (.iconst 0, 1) := by decide +kernel
theorem dX12_shelfByCheese_77 : decode cX12_shelfByCheese 77 = .ok (.iadd, 1) := by decide +kernel
theorem dX12_shelfByCheese_78 : decode cX12_shelfByCheese 78 = .ok (.istore_n 3, 1) := by decide +kernel
theorem dX12_shelfByCheese_79 : decode cX12_shelfByCheese 79 = .ok (.iinc 4 1, 3) := by decide +kernel
theorem dX12_shelfByCheese_82 : decode cX12_shelfByCheese 82 = .ok (.goto (-60), 3) := by decide +kernel
theorem dX12_shelfByCheese_85 : decode cX12_shelfByCheese 85 = .ok (.iload_n 3, 1) := by decide +kernel
theorem dX12_shelfByCheese_86 : decode cX12_shelfByCheese 86 = .ok (.iload_n 1, 1) := by decide +kernel
theorem dX12_shelfByCheese_87 : decode cX12_shelfByCheese 87 = .ok (.if_icmp .ne 5, 3) := by decide +kernel
theorem dX12_shelfByCheese_90 : decode cX12_shelfByCheese 90 = .ok (.iload_n 2, 1) := by decide +kernel
theorem dX12_shelfByCheese_91 : decode cX12_shelfByCheese 91 = .ok (.ireturn, 1) := by decide +kernel
theorem dX12_shelfByCheese_92 : decode cX12_shelfByCheese 92 = .ok (.iinc 2 1, 3) := by decide +kernel
theorem dX12_shelfByCheese_95 : decode cX12_shelfByCheese 95 = .ok (.goto (-88), 3) := by decide +kernel
theorem dX12_shelfByCheese_98 : decode cX12_shelfByCheese 98 = .ok (.aload_n 0, 1) := by decide +kernel
theorem dX12_shelfByCheese_99 : decode cX12_shelfByCheese 99 = .ok (.iconst 1, 1) := by decide +kernel
theorem dX12_shelfByCheese_100 : decode cX12_shelfByCheese 100 = .ok (.invokevirtual 22, 3) := by decide +kernel
theorem dX12_shelfByCheese_103 : decode cX12_shelfByCheese 103 = .ok (.ireturn, 1) := by decide +kernel
theorem dX12_stopCount_0 : decode cX12_stopCount 0 = .ok (.aload_n 0, 1) := by decide +kernel
theorem dX12_stopCount_1 : decode cX12_stopCount 1 = .ok (.iconst 2, 1) := by decide +kernel
theorem dX12_stopCount_2 : decode cX12_stopCount 2 = .ok (.invokevirtual 192, 3) := by decide +kernel
theorem dX12_stopCount_5 : decode cX12_stopCount 5 = .ok (.ireturn, 1) := by decide +kernel
theorem dX12_shelfOfStop_0 : decode cX12_shelfOfStop 0 = .ok (.aload_n 0, 1) := by decide +kernel
theorem dX12_shelfOfStop_1 : decode cX12_shelfOfStop 1 = .ok (.iconst 0, 1) := by decide +kernel
theorem dX12_shelfOfStop_2 : decode cX12_shelfOfStop 2 = .ok (.putfield 1, 3) := by decide +kernel
theorem dX12_shelfOfStop_5 : decode cX12_shelfOfStop 5 = .ok (.iload_n 1, 1) := by decide +kernel
theorem dX12_shelfOfStop_6 : decode cX12_shelfOfStop 6 = .ok (.iconst 0, 1) := by decide +kernel
theorem dX12_shelfOfStop_7 : decode cX12_shelfOfStop 7 = .ok (.aload_n 0, 1) := by decide +kernel
theorem dX12_shelfOfStop_8 : decode cX12_shelfOfStop 8 = .ok (.getfield 32, 3) := by decide +kernel
theorem dX12_shelfOfStop_11 : decode cX12_shelfOfStop 11 = .ok (.iconst 2, 1) := by decide +kernel
theorem dX12_shelfOfStop_12 : decode cX12_shelfOfStop 12 = .ok (.iaload, 1) := by decide +kernel
theorem dX12_shelfOfStop_13 : decode cX12_shelfOfStop 13 = .ok (.iconst 1, 1) := by decide +kernel
theorem dX12_shelfOfStop_14 : decode cX12_shelfOfStop 14 = .ok (.isub, 1) := by decide +kernel
theorem dX12_shelfOfStop_15 : decode cX12_shelfOfStop 15 = .ok (.invokestatic 76, 3) := by decide +kernel
theorem dX12_shelfOfStop_18 : decode cX12_shelfOfStop 18 = .ok (.ifCond .eq 16, 3) := by decide +kernel
theorem dX12_shelfOfStop_21 : decode cX12_shelfOfStop 21 = .ok (.aload_n 0, 1) := by decide +kernel
theorem dX12_shelfOfStop_22 : decode cX12_shelfOfStop 22 = .ok (.getfield 32, 3) := by decide +kernel
theorem dX12_shelfOfStop_25 : decode cX12_shelfOfStop 25 = .ok (.sipush 182, 3) := by decide +kernel
theorem dX12_shelfOfStop_28 : decode cX12_shelfOfStop 28 = .ok (.iload_n 1, 1) := by decide +kernel
theorem dX12_shelfOfStop_29 : decode cX12_shelfOfStop 29 = .ok (.iadd, 1) := by decide +kernel
theorem dX12_shelfOfStop_30 : decode cX12_shelfOfStop 30 = .ok (.iaload, 1) := by decide +kernel
theorem dX12_shelfOfStop_31 : decode cX12_shelfOfStop 31 = .ok (.goto 8, 3) := by decide +kernel
theorem dX12_shelfOfStop_34 : decode cX12_shelfOfStop 34 = .ok (.aload_n 0, 1) := by decide +kernel
theorem dX12_shelfOfStop_35 : decode cX12_shelfOfStop 35 = .ok (.iconst 1, 1) := by decide +kernel
theorem dX12_shelfOfStop_36 : decode cX12_shelfOfStop 36 = .ok (.invokevirtual 22, 3) := by decide +kernel
theorem dX12_shelfOfStop_39 : decode cX12_shelfOfStop 39 = .ok (.ireturn, 1) := by decide +kernel
theorem dX12_catShelf_0 : decode cX12_catShelf 0 = .ok (.aload_n 0, 1) := by decide +kernel
theorem dX12_catShelf_1 : decode cX12_catShelf 1 = .ok (.iconst 0, 1) := by decide +kernel
theorem dX12_catShelf_2 : decode cX12_catShelf 2 = .ok (.putfield 1, 3) := by decide +kernel
theorem dX12_catShelf_5 : decode cX12_catShelf 5 = .ok (.aload_n 0, 1) := by decide +kernel
theorem dX12_catShelf_6 : decode cX12_catShelf 6 = .ok (.getfield 32, 3) := by decide +kernel
theorem dX12_catShelf_9 : decode cX12_catShelf 9 = .ok (.iconst 0, 1) := by decide +kernel
theorem dX12_catShelf_10 : decode cX12_catShelf 10 = .ok (.iaload, 1) := by decide +kernel
theorem dX12_catShelf_11 : decode cX12_catShelf 11 = .ok (.ifCond .ne 11, 3) := by decide +kernel
theorem dX12_catShelf_14 : decode cX12_catShelf 14 = .ok (.aload_n 0, 1) := by decide +kernel
theorem dX12_catShelf_15 : decode cX12_catShelf 15 = .ok (.iconst 1, 1) := by decide +kernel
theorem dX12_catShelf_16 : decode cX12_catShelf 16 = .ok (.invokevirtual 22, 3) := by decide +kernel
theorem dX12_catShelf_19 : decode cX12_catShelf 19 = .ok (.goto 9, 3) := by decide +kernel
theorem dX12_catShelf_22 : decode cX12_catShelf 22 = .ok (.aload_n 0, 1) := by decide +kernel
theorem dX12_catShelf_23 : decode cX12_catShelf 23 = .ok (.getfield 32, 3) := by decide +kernel
theorem dX12_catShelf_26 : decode cX12_catShelf 26 = .ok (.iconst 3, 1) := by decide +kernel
theorem dX12_catShelf_27 : decode cX12_catShelf 27 = .ok (.iaload, 1) := by decide +kernel
theorem dX12_catShelf_28 : decode cX12_catShelf 28 = .ok (.ireturn, 1) := by decide +kernel
theorem dX12_goal_0 : decode cX12_goal 0 = .ok (.aload_n 0, 1) := by decide +kernel
theorem dX12_goal_1 : decode cX12_goal 1 = .ok (.iconst 0, 1) := by decide +kernel
theorem dX12_goal_2 : decode cX12_goal 2 = .ok (.putfield 1, 3) := by decide +kernel
theorem dX12_goal_5 : decode cX12_goal 5 = .ok (.aload_n 0, 1) := by decide +kernel
theorem dX12_goal_6 : decode cX12_goal 6 = .ok (.getfield 32, 3) := by decide +kernel
theorem dX12_goal_9 : decode cX12_goal 9 = .ok (.iconst 2, 1) := by decide +kernel
theorem dX12_goal_10 : decode cX12_goal 10 = .ok (.iaload, 1) := by decide +kernel
theorem dX12_goal_11 : decode cX12_goal 11 = .ok (.ifCond .ne 11, 3) := by decide +kernel
theorem dX12_goal_14 : decode cX12_goal 14 = .ok (.aload_n 0, 1) := by decide +kernel
theorem dX12_goal_15 : decode cX12_goal 15 = .ok (.iconst 1, 1) := by decide +kernel
theorem dX12_goal_16 : decode cX12_goal 16 = .ok (.invokevirtual 22, 3) := by decide +kernel
theorem dX12_goal_19 : decode cX12_goal 19 = .ok (.goto 9, 3) := by decide +kernel
theorem dX12_goal_22 : decode cX12_goal 22 = .ok (.aload_n 0, 1) := by decide +kernel
theorem dX12_goal_23 : decode cX12_goal 23 = .ok (.getfield 32, 3) := by decide +kernel
theorem dX12_goal_26 : decode cX12_goal 26 = .ok (.iconst 4, 1) := by decide +kernel
theorem dX12_goal_27 : decode cX12_goal 27 = .ok (.iaload, 1) := by decide +kernel
theorem dX12_goal_28 : decode cX12_goal 28 = .ok (.ireturn, 1) := by decide +kernel
theorem dX12_nextShelf_0 : decode cX12_nextShelf 0 = .ok (.aload_n 0, 1) := by decide +kernel
theorem dX12_nextShelf_1 : decode cX12_nextShelf 1 = .ok (.iconst 0, 1) := by decide +kernel
theorem dX12_nextShelf_2 : decode cX12_nextShelf 2 = .ok (.putfield 1, 3) := by decide +kernel
theorem dX12_nextShelf_5 : decode cX12_nextShelf 5 = .ok (.aload_n 0, 1) := by decide +kernel
theorem dX12_nextShelf_6 : decode cX12_nextShelf 6 = .ok (.getfield 32, 3) := by decide +kernel
theorem dX12_nextShelf_9 : decode cX12_nextShelf 9 = .ok (.iconst 0, 1) := by decide +kernel
theorem dX12_nextShelf_10 : decode cX12_nextShelf 10 = .ok (.iaload, 1) := by decide +kernel
theorem dX12_nextShelf_11 : decode cX12_nextShelf 11 = .ok (.ifCond .ne 11, 3) := by decide +kernel
theorem dX12_nextShelf_14 : decode cX12_nextShelf 14 = .ok (.aload_n 0, 1) := by decide +kernel
theorem dX12_nextShelf_15 : decode cX12_nextShelf 15 = .ok (.iconst 1, 1) := by decide +kernel
theorem dX12_nextShelf_16 : decode cX12_nextShelf 16 = .ok (.invokevirtual 22, 3) := by decide +kernel
theorem dX12_nextShelf_19 : decode cX12_nextShelf 19 = .ok (.goto 7, 3) := by decide +kernel
theorem dX12_nextShelf_22 : decode cX12_nextShelf 22 = .ok (.aload_n 0, 1) := by decide +kernel
theorem dX12_nextShelf_23 : decode cX12_nextShelf 23 = .ok (.invokevirtual 149, 3) := by decide +kernel
theorem dX12_nextShelf_26 : decode cX12_nextShelf 26 = .ok (.ireturn, 1) := by decide +kernel
theorem dX12_lapLength_0 : decode cX12_lapLength 0 = .ok (.aload_n 0, 1) := by decide +kernel
theorem dX12_lapLength_1 : decode cX12_lapLength 1 = .ok (.iconst 0, 1) := by decide +kernel
theorem dX12_lapLength_2 : decode cX12_lapLength 2 = .ok (.putfield 1, 3) := by decide +kernel
theorem dX12_lapLength_5 : decode cX12_lapLength 5 = .ok (.iconst 0, 1) := by decide +kernel
theorem dX12_lapLength_6 : decode cX12_lapLength 6 = .ok (.istore_n 1, 1) := by decide +kernel
theorem dX12_lapLength_7 : decode cX12_lapLength 7 = .ok (.iconst 0, 1) := by decide +kernel
theorem dX12_lapLength_8 : decode cX12_lapLength 8 = .ok (.istore_n 2, 1) := by decide +kernel
theorem dX12_lapLength_9 : decode cX12_lapLength 9 = .ok (.iload_n 2, 1) := by decide +kernel
theorem dX12_lapLength_10 : decode cX12_lapLength 10 = .ok (.aload_n 0, 1) := by decide +kernel
theorem dX12_lapLength_11 : decode cX12_lapLength 11 = .ok (.getfield 32, 3) := by decide +kernel
theorem dX12_lapLength_14 : decode cX12_lapLength 14 = .ok (.iconst 2, 1) := by decide +kernel
theorem dX12_lapLength_15 : decode cX12_lapLength 15 = .ok (.iaload, 1) := by decide +kernel
theorem dX12_lapLength_16 : decode cX12_lapLength 16 = .ok (.if_icmp .ge 76, 3) := by decide +kernel
theorem dX12_lapLength_19 : decode cX12_lapLength 19 = .ok (.aload_n 0, 1) := by decide +kernel
theorem dX12_lapLength_20 : decode cX12_lapLength 20 = .ok (.aload_n 0, 1) := by decide +kernel
theorem dX12_lapLength_21 : decode cX12_lapLength 21 = .ok (.getfield 32, 3) := by decide +kernel
theorem dX12_lapLength_24 : decode cX12_lapLength 24 = .ok (.sipush 182, 3) := by decide +kernel
theorem dX12_lapLength_27 : decode cX12_lapLength 27 = .ok (.iload_n 2, 1) := by decide +kernel
theorem dX12_lapLength_28 : decode cX12_lapLength 28 = .ok (.iconst 1, 1) := by decide +kernel
theorem dX12_lapLength_29 : decode cX12_lapLength 29 = .ok (.iadd, 1) := by decide +kernel
theorem dX12_lapLength_30 : decode cX12_lapLength 30 = .ok (.aload_n 0, 1) := by decide +kernel
theorem dX12_lapLength_31 : decode cX12_lapLength 31 = .ok (.getfield 32, 3) := by decide +kernel
theorem dX12_lapLength_34 : decode cX12_lapLength 34 = .ok (.iconst 2, 1) := by decide +kernel
theorem dX12_lapLength_35 : decode cX12_lapLength 35 = .ok (.iaload, 1) := by decide +kernel
theorem dX12_lapLength_36 : decode cX12_lapLength 36 = .ok (.irem, 1) := by decide +kernel
theorem dX12_lapLength_37 : decode cX12_lapLength 37 = .ok (.iadd, 1) := by decide +kernel
theorem dX12_lapLength_38 : decode cX12_lapLength 38 = .ok (.iaload, 1) := by decide +kernel
theorem dX12_lapLength_39 : decode cX12_lapLength 39 = .ok (.invokevirtual 145, 3) := by decide +kernel
theorem dX12_lapLength_42 : decode cX12_lapLength 42 = .ok (.aload_n 0, 1) := by decide +kernel
theorem dX12_lapLength_43 : decode cX12_lapLength 43 = .ok (.getfield 48, 3) := by decide +kernel
theorem dX12_lapLength_46 : decode cX12_lapLength 46 = .ok (.aload_n 0, 1) := by decide +kernel
theorem dX12_lapLength_47 : decode cX12_lapLength 47 = .ok (.getfield 32, 3) := by decide +kernel
theorem dX12_lapLength_50 : decode cX12_lapLength 50 = .ok (.sipush 182, 3) := by decide +kernel
theorem dX12_lapLength_53 : decode cX12_lapLength 53 = .ok (.iload_n 2, 1) := by decide +kernel
theorem dX12_lapLength_54 : decode cX12_lapLength 54 = .ok (.iadd, 1) := by decide +kernel
theorem dX12_lapLength_55 : decode cX12_lapLength 55 = .ok (.iaload, 1) := by decide +kernel
theorem dX12_lapLength_56 : decode cX12_lapLength 56 = .ok (.iaload, 1) := by decide +kernel
theorem dX12_lapLength_57 : decode cX12_lapLength 57 = .ok (.bipush 99, 2) := by decide +kernel
theorem dX12_lapLength_59 : decode cX12_lapLength 59 = .ok (.if_icmp .ne 9, 3) := by decide +kernel
theorem dX12_lapLength_62 : decode cX12_lapLength 62 = .ok (.aload_n 0, 1) := by decide +kernel
theorem dX12_lapLength_63 : decode cX12_lapLength 63 = .ok (.iconst 1, 1) := by decide +kernel
theorem dX12_lapLength_64 : decode cX12_lapLength 64 = .ok (.invokevirtual 22, 3) := by decide +kernel
theorem dX12_lapLength_67 : decode cX12_lapLength 67 = .ok (.ireturn, 1) := by decide +kernel
theorem dX12_lapLength_68 : decode cX12_lapLength 68 = .ok (.iload_n 1, 1) := by decide +kernel
theorem dX12_lapLength_69 : decode cX12_lapLength 69 = .ok (.aload_n 0, 1) := by decide +kernel
theorem dX12_lapLength_70 : decode cX12_lapLength 70 = .ok (.getfield 48, 3) := by decide +kernel
theorem dX12_lapLength_73 : decode cX12_lapLength 73 = .ok (.aload_n 0, 1) := by decide +kernel
theorem dX12_lapLength_74 : decode cX12_lapLength 74 = .ok (.getfield 32, 3) := by decide +kernel
theorem dX12_lapLength_77 : decode cX12_lapLength 77 = .ok (.sipush 182, 3) := by decide +kernel
theorem dX12_lapLength_80 : decode cX12_lapLength 80 = .ok (.iload_n 2, 1) := by decide +kernel
theorem dX12_lapLength_81 : decode cX12_lapLength 81 = .ok (.iadd, 1) := by decide +kernel
theorem dX12_lapLength_82 : decode cX12_lapLength 82 = .ok (.iaload, 1) := by decide +kernel
theorem dX12_lapLength_83 : decode cX12_lapLength 83 = .ok (.iaload, 1) := by decide +kernel
theorem dX12_lapLength_84 : decode cX12_lapLength 84 = .ok (.iadd, 1) := by decide +kernel
theorem dX12_lapLength_85 : decode cX12_lapLength 85 = .ok (.istore_n 1, 1) := by decide +kernel
theorem dX12_lapLength_86 : decode cX12_lapLength 86 = .ok (.iinc 2 1, 3) := by decide +kernel
theorem dX12_lapLength_89 : decode cX12_lapLength 89 = .ok (.goto (-80), 3) := by decide +kernel
theorem dX12_lapLength_92 : decode cX12_lapLength 92 = .ok (.iload_n 1, 1) := by decide +kernel
theorem dX12_lapLength_93 : decode cX12_lapLength 93 = .ok (.ireturn, 1) := by decide +kernel
theorem dX12_seed_0 : decode cX12_seed 0 = .ok (.aload_n 0, 1) := by decide +kernel
theorem dX12_seed_1 : decode cX12_seed 1 = .ok (.bipush 6, 2) := by decide +kernel
theorem dX12_seed_3 : decode cX12_seed 3 = .ok (.invokevirtual 192, 3) := by decide +kernel
theorem dX12_seed_6 : decode cX12_seed 6 = .ok (.ireturn, 1) := by decide +kernel
theorem dX12_minute_0 : decode cX12_minute 0 = .ok (.aload_n 0, 1) := by decide +kernel
theorem dX12_minute_1 : decode cX12_minute 1 = .ok (.bipush 7, 2) := by decide +kernel
theorem dX12_minute_3 : decode cX12_minute 3 = .ok (.invokevirtual 192, 3) := by decide +kernel
theorem dX12_minute_6 : decode cX12_minute 6 = .ok (.ireturn, 1) := by decide +kernel
theorem dX12_mouseCount_0 : decode cX12_mouseCount 0 = .ok (.aload_n 0, 1) := by decide +kernel
theorem dX12_mouseCount_1 : decode cX12_mouseCount 1 = .ok (.bipush 8, 2) := by decide +kernel
theorem dX12_mouseCount_3 : decode cX12_mouseCount 3 = .ok (.invokevirtual 192, 3) := by decide +kernel
theorem dX12_mouseCount_6 : decode cX12_mouseCount 6 = .ok (.ireturn, 1) := by decide +kernel
theorem dX12_asksMouse_0 : decode cX12_asksMouse 0 = .ok (.aload_n 0, 1) := by decide +kernel
theorem dX12_asksMouse_1 : decode cX12_asksMouse 1 = .ok (.iconst 0, 1) := by decide +kernel
theorem dX12_asksMouse_2 : decode cX12_asksMouse 2 = .ok (.putfield 1, 3) := by decide +kernel
theorem dX12_asksMouse_5 : decode cX12_asksMouse 5 = .ok (.iload_n 1, 1) := by decide +kernel
theorem dX12_asksMouse_6 : decode cX12_asksMouse 6 = .ok (.iconst 0, 1) := by decide +kernel
theorem dX12_asksMouse_7 : decode cX12_asksMouse 7 = .ok (.aload_n 0, 1) := by decide +kernel
theorem dX12_asksMouse_8 : decode cX12_asksMouse 8 = .ok (.getfield 32, 3) := by decide +kernel
theorem dX12_asksMouse_11 : decode cX12_asksMouse 11 = .ok (.bipush 8, 2) := by decide +kernel
theorem dX12_asksMouse_13 : decode cX12_asksMouse 13 = .ok (.iaload, 1) := by decide +kernel
theorem dX12_asksMouse_14 : decode cX12_asksMouse 14 = .ok (.iconst 1, 1) := by decide +kernel
theorem dX12_asksMouse_15 : decode cX12_asksMouse 15 = .ok (.isub, 1) := by decide +kernel
theorem dX12_asksMouse_16 : decode cX12_asksMouse 16 = .ok (.invokestatic 76, 3) := by decide +kernel
theorem dX12_asksMouse_19 : decode cX12_asksMouse 19 = .ok (.ifCond .eq 12, 3) := by decide +kernel
theorem dX12_asksMouse_22 : decode cX12_asksMouse 22 = .ok (.aload_n 0, 1) := by decide +kernel
theorem dX12_asksMouse_23 : decode cX12_asksMouse 23 = .ok (.iload_n 1, 1) := by decide +kernel
theorem dX12_asksMouse_24 : decode cX12_asksMouse 24 = .ok (.iload_n 2, 1) := by decide +kernel
theorem dX12_asksMouse_25 : decode cX12_asksMouse 25 = .ok (.invokevirtual 153, 3) := by decide +kernel
theorem dX12_asksMouse_28 : decode cX12_asksMouse 28 = .ok (.goto 8, 3) := by decide +kernel
theorem dX12_asksMouse_31 : decode cX12_asksMouse 31 = .ok (.aload_n 0, 1) := by decide +kernel
theorem dX12_asksMouse_32 : decode cX12_asksMouse 32 = .ok (.iconst 1, 1) := by decide +kernel
theorem dX12_asksMouse_33 : decode cX12_asksMouse 33 = .ok (.invokevirtual 22, 3) := by decide +kernel
theorem dX12_asksMouse_36 : decode cX12_asksMouse 36 = .ok (.ireturn, 1) := by decide +kernel
theorem dX12_mouseShelf_0 : decode cX12_mouseShelf 0 = .ok (.aload_n 0, 1) := by decide +kernel
theorem dX12_mouseShelf_1 : decode cX12_mouseShelf 1 = .ok (.iload_n 1, 1) := by decide +kernel
theorem dX12_mouseShelf_2 : decode cX12_mouseShelf 2 = .ok (.iconst 0, 1) := by decide +kernel
theorem dX12_mouseShelf_3 : decode cX12_mouseShelf 3 = .ok (.invokevirtual 198, 3) := by decide +kernel
theorem dX12_mouseShelf_6 : decode cX12_mouseShelf 6 = .ok (.ireturn, 1) := by decide +kernel
theorem dX12_mouseEaten_0 : decode cX12_mouseEaten 0 = .ok (.aload_n 0, 1) := by decide +kernel
theorem dX12_mouseEaten_1 : decode cX12_mouseEaten 1 = .ok (.iload_n 1, 1) := by decide +kernel
theorem dX12_mouseEaten_2 : decode cX12_mouseEaten 2 = .ok (.iconst 1, 1) := by decide +kernel
theorem dX12_mouseEaten_3 : decode cX12_mouseEaten 3 = .ok (.invokevirtual 198, 3) := by decide +kernel
theorem dX12_mouseEaten_6 : decode cX12_mouseEaten 6 = .ok (.ireturn, 1) := by decide +kernel
theorem dX12_mouseHunger_0 : decode cX12_mouseHunger 0 = .ok (.aload_n 0, 1) := by decide +kernel
theorem dX12_mouseHunger_1 : decode cX12_mouseHunger 1 = .ok (.iload_n 1, 1) := by decide +kernel
theorem dX12_mouseHunger_2 : decode cX12_mouseHunger 2 = .ok (.iconst 2, 1) := by decide +kernel
theorem dX12_mouseHunger_3 : decode cX12_mouseHunger 3 = .ok (.invokevirtual 198, 3) := by decide +kernel
theorem dX12_mouseHunger_6 : decode cX12_mouseHunger 6 = .ok (.ireturn, 1) := by decide +kernel
theorem dX12_miceAt_0 : decode cX12_miceAt 0 = .ok (.iconst 0, 1) := by decide +kernel
theorem dX12_miceAt_1 : decode cX12_miceAt 1 = .ok (.istore_n 2, 1) := by decide +kernel
theorem dX12_miceAt_2 : decode cX12_miceAt 2 = .ok (.iconst 0, 1) := by decide +kernel
theorem dX12_miceAt_3 : decode cX12_miceAt 3 = .ok (.istore_n 3, 1) := by decide +kernel
theorem dX12_miceAt_4 : decode cX12_miceAt 4 = .ok (.iload_n 3, 1) := by decide +kernel
theorem dX12_miceAt_5 : decode cX12_miceAt 5 = .ok (.aload_n 0, 1) := by decide +kernel
theorem dX12_miceAt_6 : decode cX12_miceAt 6 = .ok (.getfield 32, 3) := by decide +kernel
theorem dX12_miceAt_9 : decode cX12_miceAt 9 = .ok (.bipush 8, 2) := by decide +kernel
theorem dX12_miceAt_11 : decode cX12_miceAt 11 = .ok (.iaload, 1) := by decide +kernel
theorem dX12_miceAt_12 : decode cX12_miceAt 12 = .ok (.if_icmp .ge 27, 3) := by decide +kernel
theorem dX12_miceAt_15 : decode cX12_miceAt 15 = .ok (.iload_n 2, 1) := by decide +kernel
theorem dX12_miceAt_16 : decode cX12_miceAt 16 = .ok (.aload_n 0, 1) := by decide +kernel
theorem dX12_miceAt_17 : decode cX12_miceAt 17 = .ok (.iload_n 3, 1) := by decide +kernel
theorem dX12_miceAt_18 : decode cX12_miceAt 18 = .ok (.iconst 0, 1) := by decide +kernel
theorem dX12_miceAt_19 : decode cX12_miceAt 19 = .ok (.invokevirtual 153, 3) := by decide +kernel
theorem dX12_miceAt_22 : decode cX12_miceAt 22 = .ok (.iload_n 1, 1) := by decide +kernel
theorem dX12_miceAt_23 : decode cX12_miceAt 23 = .ok (.if_icmp .ne 7, 3) := by decide +kernel
theorem dX12_miceAt_26 : decode cX12_miceAt 26 = .ok (.iconst 1, 1) := by decide +kernel
theorem dX12_miceAt_27 : decode cX12_miceAt 27 = .ok (.goto 4, 3) := by decide +kernel
theorem dX12_miceAt_30 : decode cX12_miceAt 30 = .ok (.iconst 0, 1) := by decide +kernel
theorem dX12_miceAt_31 : decode cX12_miceAt 31 = .ok (.iadd, 1) := by decide +kernel
theorem dX12_miceAt_32 : decode cX12_miceAt 32 = .ok (.istore_n 2, 1) := by decide +kernel
theorem dX12_miceAt_33 : decode cX12_miceAt 33 = .ok (.iinc 3 1, 3) := by decide +kernel
theorem dX12_miceAt_36 : decode cX12_miceAt 36 = .ok (.goto (-32), 3) := by decide +kernel
theorem dX12_miceAt_39 : decode cX12_miceAt 39 = .ok (.iload_n 2, 1) := by decide +kernel
theorem dX12_miceAt_40 : decode cX12_miceAt 40 = .ok (.ireturn, 1) := by decide +kernel
theorem dX12_miceOn_0 : decode cX12_miceOn 0 = .ok (.aload_n 0, 1) := by decide +kernel
theorem dX12_miceOn_1 : decode cX12_miceOn 1 = .ok (.iconst 0, 1) := by decide +kernel
theorem dX12_miceOn_2 : decode cX12_miceOn 2 = .ok (.putfield 1, 3) := by decide +kernel
theorem dX12_miceOn_5 : decode cX12_miceOn 5 = .ok (.aload_n 0, 1) := by decide +kernel
theorem dX12_miceOn_6 : decode cX12_miceOn 6 = .ok (.iload_n 1, 1) := by decide +kernel
theorem dX12_miceOn_7 : decode cX12_miceOn 7 = .ok (.invokevirtual 96, 3) := by decide +kernel
theorem dX12_miceOn_10 : decode cX12_miceOn 10 = .ok (.ifCond .eq 11, 3) := by decide +kernel
theorem dX12_miceOn_13 : decode cX12_miceOn 13 = .ok (.aload_n 0, 1) := by decide +kernel
theorem dX12_miceOn_14 : decode cX12_miceOn 14 = .ok (.iload_n 1, 1) := by decide +kernel
theorem dX12_miceOn_15 : decode cX12_miceOn 15 = .ok (.invokevirtual 201, 3) := by decide +kernel
theorem dX12_miceOn_18 : decode cX12_miceOn 18 = .ok (.goto 8, 3) := by decide +kernel
theorem dX12_miceOn_21 : decode cX12_miceOn 21 = .ok (.aload_n 0, 1) := by decide +kernel
theorem dX12_miceOn_22 : decode cX12_miceOn 22 = .ok (.iconst 1, 1) := by decide +kernel
theorem dX12_miceOn_23 : decode cX12_miceOn 23 = .ok (.invokevirtual 22, 3) := by decide +kernel
theorem dX12_miceOn_26 : decode cX12_miceOn 26 = .ok (.ireturn, 1) := by decide +kernel
theorem dX12_cheeseAll_0 : decode cX12_cheeseAll 0 = .ok (.iconst 0, 1) := by decide +kernel
theorem dX12_cheeseAll_1 : decode cX12_cheeseAll 1 = .ok (.istore_n 1, 1) := by decide +kernel
theorem dX12_cheeseAll_2 : decode cX12_cheeseAll 2 = .ok (.iconst 0, 1) := by decide +kernel
theorem dX12_cheeseAll_3 : decode cX12_cheeseAll 3 = .ok (.istore_n 2, 1) := by decide +kernel
theorem dX12_cheeseAll_4 : decode cX12_cheeseAll 4 = .ok (.iload_n 2, 1) := by decide +kernel
theorem dX12_cheeseAll_5 : decode cX12_cheeseAll 5 = .ok (.aload_n 0, 1) := by decide +kernel
theorem dX12_cheeseAll_6 : decode cX12_cheeseAll 6 = .ok (.getfield 32, 3) := by decide +kernel
theorem dX12_cheeseAll_9 : decode cX12_cheeseAll 9 = .ok (.iconst 0, 1) := by decide +kernel
theorem dX12_cheeseAll_10 : decode cX12_cheeseAll 10 = .ok (.iaload, 1) := by decide +kernel
theorem dX12_cheeseAll_11 : decode cX12_cheeseAll 11 = .ok (.if_icmp .ge 21, 3) := by decide +kernel
theorem dX12_cheeseAll_14 : decode cX12_cheeseAll 14 = .ok (.iload_n 1, 1) := by decide +kernel
theorem dX12_cheeseAll_15 : decode cX12_cheeseAll 15 = .ok (.aload_n 0, 1) := by decide +kernel
theorem dX12_cheeseAll_16 : decode cX12_cheeseAll 16 = .ok (.getfield 32, 3) := by decide +kernel
theorem dX12_cheeseAll_19 : decode cX12_cheeseAll 19 = .ok (.bipush 14, 2) := by decide +kernel
theorem dX12_cheeseAll_21 : decode cX12_cheeseAll 21 = .ok (.iload_n 2, 1) := by decide +kernel
theorem dX12_cheeseAll_22 : decode cX12_cheeseAll 22 = .ok (.iadd, 1) := by decide +kernel
theorem dX12_cheeseAll_23 : decode cX12_cheeseAll 23 = .ok (.iaload, 1) := by decide +kernel
theorem dX12_cheeseAll_24 : decode cX12_cheeseAll 24 = .ok (.iadd, 1) := by decide +kernel
theorem dX12_cheeseAll_25 : decode cX12_cheeseAll 25 = .ok (.istore_n 1, 1) := by decide +kernel
theorem dX12_cheeseAll_26 : decode cX12_cheeseAll 26 = .ok (.iinc 2 1, 3) := by decide +kernel
theorem dX12_cheeseAll_29 : decode cX12_cheeseAll 29 = .ok (.goto (-25), 3) := by decide +kernel
theorem dX12_cheeseAll_32 : decode cX12_cheeseAll 32 = .ok (.iload_n 1, 1) := by decide +kernel
theorem dX12_cheeseAll_33 : decode cX12_cheeseAll 33 = .ok (.ireturn, 1) := by decide +kernel
theorem dX12_totalCheese_0 : decode cX12_totalCheese 0 = .ok (.aload_n 0, 1) := by decide +kernel
theorem dX12_totalCheese_1 : decode cX12_totalCheese 1 = .ok (.iconst 0, 1) := by decide +kernel
theorem dX12_totalCheese_2 : decode cX12_totalCheese 2 = .ok (.putfield 1, 3) := by decide +kernel
theorem dX12_totalCheese_5 : decode cX12_totalCheese 5 = .ok (.aload_n 0, 1) := by decide +kernel
theorem dX12_totalCheese_6 : decode cX12_totalCheese 6 = .ok (.invokevirtual 204, 3) := by decide +kernel
theorem dX12_totalCheese_9 : decode cX12_totalCheese 9 = .ok (.ireturn, 1) := by decide +kernel
theorem dX12_totalCheeseByAccounts_0 : decode cX12_totalCheeseByAccounts 0 = .ok (.aload_n 0, 1) := by decide +kernel
theorem dX12_totalCheeseByAccounts_1 : decode cX12_totalCheeseByAccounts 1 = .ok (.iconst 0, 1) := by decide +kernel
theorem dX12_totalCheeseByAccounts_2 : decode cX12_totalCheeseByAccounts 2 = .ok (.putfield 1, 3) := by decide +kernel
theorem dX12_totalCheeseByAccounts_5 : decode cX12_totalCheeseByAccounts 5 = .ok (.aload_n 0, 1) := by decide +kernel
theorem dX12_totalCheeseByAccounts_6 : decode cX12_totalCheeseByAccounts 6 = .ok (.getfield 32, 3) := by decide +kernel
theorem dX12_totalCheeseByAccounts_9 : decode cX12_totalCheeseByAccounts 9 = .ok (.bipush 13, 2) := by decide +kernel
theorem dX12_totalCheeseByAccounts_11 : decode cX12_totalCheeseByAccounts 11 = .ok (.iaload, 1) := by decide +kernel
theorem dX12_totalCheeseByAccounts_12 : decode cX12_totalCheeseByAccounts 12 = .ok (.aload_n 0, 1) := by decide +kernel
theorem dX12_totalCheeseByAccounts_13 : decode cX12_totalCheeseByAccounts 13 = .ok (.getfield 32, 3) := by decide +kernel
theorem dX12_totalCheeseByAccounts_16 : decode cX12_totalCheeseByAccounts 16 = .ok (.bipush 12, 2) := by decide +kernel
theorem dX12_totalCheeseByAccounts_18 : decode cX12_totalCheeseByAccounts 18 = .ok (.iaload, 1) := by decide +kernel
theorem dX12_totalCheeseByAccounts_19 : decode cX12_totalCheeseByAccounts 19 = .ok (.isub, 1) := by decide +kernel
theorem dX12_totalCheeseByAccounts_20 : decode cX12_totalCheeseByAccounts 20 = .ok (.ireturn, 1) := by decide +kernel
theorem dX12_eaten_0 : decode cX12_eaten 0 = .ok (.aload_n 0, 1) := by decide +kernel
theorem dX12_eaten_1 : decode cX12_eaten 1 = .ok (.bipush 12, 2) := by decide +kernel
theorem dX12_eaten_3 : decode cX12_eaten 3 = .ok (.invokevirtual 192, 3) := by decide +kernel
theorem dX12_eaten_6 : decode cX12_eaten 6 = .ok (.ireturn, 1) := by decide +kernel
theorem dX12_caught_0 : decode cX12_caught 0 = .ok (.aload_n 0, 1) := by decide +kernel
theorem dX12_caught_1 : decode cX12_caught 1 = .ok (.bipush 9, 2) := by decide +kernel
theorem dX12_caught_3 : decode cX12_caught 3 = .ok (.invokevirtual 192, 3) := by decide +kernel
theorem dX12_caught_6 : decode cX12_caught 6 = .ok (.ireturn, 1) := by decide +kernel
theorem dX12_gone_0 : decode cX12_gone 0 = .ok (.aload_n 0, 1) := by decide +kernel
theorem dX12_gone_1 : decode cX12_gone 1 = .ok (.bipush 10, 2) := by decide +kernel
theorem dX12_gone_3 : decode cX12_gone 3 = .ok (.invokevirtual 192, 3) := by decide +kernel
theorem dX12_gone_6 : decode cX12_gone 6 = .ok (.ireturn, 1) := by decide +kernel
theorem dX12_rinds_0 : decode cX12_rinds 0 = .ok (.aload_n 0, 1) := by decide +kernel
theorem dX12_rinds_1 : decode cX12_rinds 1 = .ok (.bipush 11, 2) := by decide +kernel
theorem dX12_rinds_3 : decode cX12_rinds 3 = .ok (.invokevirtual 192, 3) := by decide +kernel
theorem dX12_rinds_6 : decode cX12_rinds 6 = .ok (.ireturn, 1) := by decide +kernel
theorem dX12_meanCheese_0 : decode cX12_meanCheese 0 = .ok (.aload_n 0, 1) := by decide +kernel
theorem dX12_meanCheese_1 : decode cX12_meanCheese 1 = .ok (.iconst 0, 1) := by decide +kernel
theorem dX12_meanCheese_2 : decode cX12_meanCheese 2 = .ok (.putfield 1, 3) := by decide +kernel
theorem dX12_meanCheese_5 : decode cX12_meanCheese 5 = .ok (.aload_n 0, 1) := by decide +kernel
theorem dX12_meanCheese_6 : decode cX12_meanCheese 6 = .ok (.getfield 32, 3) := by decide +kernel
theorem dX12_meanCheese_9 : decode cX12_meanCheese 9 = .ok (.iconst 0, 1) := by decide +kernel
theorem dX12_meanCheese_10 : decode cX12_meanCheese 10 = .ok (.iaload, 1) := by decide +kernel
theorem dX12_meanCheese_11 : decode cX12_meanCheese 11 = .ok (.ifCond .ne 12, 3) := by decide +kernel
theorem dX12_meanCheese_14 : decode cX12_meanCheese 14 = .ok (.aload_n 0, 1) := by decide +kernel
theorem dX12_meanCheese_15 : decode cX12_meanCheese 15 = .ok (.iconst 1, 1) := by decide +kernel
theorem dX12_meanCheese_16 : decode cX12_meanCheese 16 = .ok (.invokevirtual 22, 3) := by decide +kernel
theorem dX12_meanCheese_19 : decode cX12_meanCheese 19 = .ok (.i2d, 1) := by decide +kernel
theorem dX12_meanCheese_20 : decode cX12_meanCheese 20 = .ok (.goto 16, 3) := by decide +kernel
theorem dX12_meanCheese_23 : decode cX12_meanCheese 23 = .ok (.aload_n 0, 1) := by decide +kernel
theorem dX12_meanCheese_24 : decode cX12_meanCheese 24 = .ok (.invokevirtual 204, 3) := by decide +kernel
theorem dX12_meanCheese_27 : decode cX12_meanCheese 27 = .ok (.i2d, 1) := by decide +kernel
theorem dX12_meanCheese_28 : decode cX12_meanCheese 28 = .ok (.aload_n 0, 1) := by decide +kernel
theorem dX12_meanCheese_29 : decode cX12_meanCheese 29 = .ok (.getfield 32, 3) := by decide +kernel
theorem dX12_meanCheese_32 : decode cX12_meanCheese 32 = .ok (.iconst 0, 1) := by decide +kernel
theorem dX12_meanCheese_33 : decode cX12_meanCheese 33 = .ok (.iaload, 1) := by decide +kernel
theorem dX12_meanCheese_34 : decode cX12_meanCheese 34 = .ok (.i2d, 1) := by decide +kernel
theorem dX12_meanCheese_35 : decode cX12_meanCheese 35 = .ok (.ddiv, 1) := by decide +kernel
theorem dX12_meanCheese_36 : decode cX12_meanCheese 36 = .ok (.dreturn, 1) := by decide +kernel
theorem dX12_caughtShare_0 : decode cX12_caughtShare 0 = .ok (.aload_n 0, 1) := by decide +kernel
theorem dX12_caughtShare_1 : decode cX12_caughtShare 1 = .ok (.iconst 0, 1) := by decide +kernel
theorem dX12_caughtShare_2 : decode cX12_caughtShare 2 = .ok (.putfield 1, 3) := by decide +kernel
theorem dX12_caughtShare_5 : decode cX12_caughtShare 5 = .ok (.aload_n 0, 1) := by decide +kernel
theorem dX12_caughtShare_6 : decode cX12_caughtShare 6 = .ok (.getfield 32, 3) := by decide +kernel
theorem dX12_caughtShare_9 : decode cX12_caughtShare 9 = .ok (.bipush 9, 2) := by decide +kernel
theorem dX12_caughtShare_11 : decode cX12_caughtShare 11 = .ok (.iaload, 1) := by decide +kernel
theorem dX12_caughtShare_12 : decode cX12_caughtShare 12 = .ok (.aload_n 0, 1) := by decide +kernel
theorem dX12_caughtShare_13 : decode cX12_caughtShare 13 = .ok (.getfield 32, 3) := by decide +kernel
theorem dX12_caughtShare_16 : decode cX12_caughtShare 16 = .ok (.bipush 10, 2) := by decide +kernel
theorem dX12_caughtShare_18 : decode cX12_caughtShare 18 = .ok (.iaload, 1) := by decide +kernel
theorem dX12_caughtShare_19 : decode cX12_caughtShare 19 = .ok (.iadd, 1) := by decide +kernel
theorem dX12_caughtShare_20 : decode cX12_caughtShare 20 = .ok (.istore_n 1, 1) := by decide +kernel
theorem dX12_caughtShare_21 : decode cX12_caughtShare 21 = .ok (.iload_n 1, 1) := by decide +kernel
theorem dX12_caughtShare_22 : decode cX12_caughtShare 22 = .ok (.ifCond .ne 12, 3) := by decide +kernel
theorem dX12_caughtShare_25 : decode cX12_caughtShare 25 = .ok (.aload_n 0, 1) := by decide +kernel
theorem dX12_caughtShare_26 : decode cX12_caughtShare 26 = .ok (.iconst 1, 1) := by decide +kernel
theorem dX12_caughtShare_27 : decode cX12_caughtShare 27 = .ok (.invokevirtual 22, 3) := by decide +kernel
theorem dX12_caughtShare_30 : decode cX12_caughtShare 30 = .ok (.i2f, 1) := by decide +kernel
theorem dX12_caughtShare_31 : decode cX12_caughtShare 31 = .ok (.goto 14, 3) := by decide +kernel
theorem dX12_caughtShare_34 : decode cX12_caughtShare 34 = .ok (.aload_n 0, 1) := by decide +kernel
theorem dX12_caughtShare_35 : decode cX12_caughtShare 35 = .ok (.getfield 32, 3) := by decide +kernel
theorem dX12_caughtShare_38 : decode cX12_caughtShare 38 = .ok (.bipush 9, 2) := by decide +kernel
theorem dX12_caughtShare_40 : decode cX12_caughtShare 40 = .ok (.iaload, 1) := by decide +kernel
theorem dX12_caughtShare_41 : decode cX12_caughtShare 41 = .ok (.i2f, 1) := by decide +kernel
theorem dX12_caughtShare_42 : decode cX12_caughtShare 42 = .ok (.iload_n 1, 1) := by decide +kernel
theorem dX12_caughtShare_43 : decode cX12_caughtShare 43 = .ok (.i2f, 1) := by decide +kernel
theorem dX12_caughtShare_44 : decode cX12_caughtShare 44 = .ok (.fdiv, 1) := by decide +kernel
theorem dX12_caughtShare_45 : decode cX12_caughtShare 45 = .ok (.freturn, 1) := by decide +kernel
theorem dX12_writes_0 : decode cX12_writes 0 = .ok (.aload_n 0, 1) := by decide +kernel
theorem dX12_writes_1 : decode cX12_writes 1 = .ok (.getfield 51, 3) := by decide +kernel
theorem dX12_writes_4 : decode cX12_writes 4 = .ok (.aload_n 0, 1) := by decide +kernel
theorem dX12_writes_5 : decode cX12_writes 5 = .ok (.getfield 207, 3) := by decide +kernel
theorem dX12_writes_8 : decode cX12_writes 8 = .ok (.iload_n 1, 1) := by decide +kernel
theorem dX12_writes_9 : decode cX12_writes 9 = .ok (.i2c, 1) := by decide +kernel
theorem dX12_writes_10 : decode cX12_writes 10 = .ok (.castore, 1) := by decide +kernel
theorem dX12_writes_11 : decode cX12_writes 11 = .ok (.aload_n 0, 1) := by decide +kernel
theorem dX12_writes_12 : decode cX12_writes 12 = .ok (.dup, 1) := by decide +kernel
theorem dX12_writes_13 : decode cX12_writes 13 = .ok (.getfield 207, 3) := by decide +kernel
theorem dX12_writes_16 : decode cX12_writes 16 = .ok (.iconst 1, 1) := by decide +kernel
theorem dX12_writes_17 : decode cX12_writes 17 = .ok (.iadd, 1) := by decide +kernel
theorem dX12_writes_18 : decode cX12_writes 18 = .ok (.putfield 207, 3) := by decide +kernel
theorem dX12_writes_21 : decode cX12_writes 21 = .ok (.return_, 1) := by decide +kernel
theorem dX12_writesNumber_0 : decode cX12_writesNumber 0 = .ok (.iload_n 1, 1) := by decide +kernel
theorem dX12_writesNumber_1 : decode cX12_writesNumber 1 = .ok (.bipush 9, 2) := by decide +kernel
theorem dX12_writesNumber_3 : decode cX12_writesNumber 3 = .ok (.if_icmp .le 14, 3) := by decide +kernel
theorem dX12_writesNumber_6 : decode cX12_writesNumber 6 = .ok (.aload_n 0, 1) := by decide +kernel
theorem dX12_writesNumber_7 : decode cX12_writesNumber 7 = .ok (.bipush 48, 2) := by decide +kernel
theorem dX12_writesNumber_9 : decode cX12_writesNumber 9 = .ok (.iload_n 1, 1) := by decide +kernel
theorem dX12_writesNumber_10 : decode cX12_writesNumber 10 = .ok (.bipush 10, 2) := by decide +kernel
theorem dX12_writesNumber_12 : decode cX12_writesNumber 12 = .ok (.idiv, 1) := by decide +kernel
theorem dX12_writesNumber_13 : decode cX12_writesNumber 13 = .ok (.iadd, 1) := by decide +kernel
theorem dX12_writesNumber_14 : decode cX12_writesNumber 14 = .ok (.invokevirtual 210, 3) := by decide +kernel
theorem dX12_writesNumber_17 : decode cX12_writesNumber 17 = .ok (.aload_n 0, 1) := by decide +kernel
theorem dX12_writesNumber_18 : decode cX12_writesNumber 18 = .ok (.bipush 48, 2) := by decide +kernel
theorem dX12_writesNumber_20 : decode cX12_writesNumber 20 = .ok (.iload_n 1, 1) := by decide +kernel
theorem dX12_writesNumber_21 : decode cX12_writesNumber 21 = .ok (.bipush 10, 2) := by decide +kernel
theorem dX12_writesNumber_23 : decode cX12_writesNumber 23 = .ok (.irem, 1) := by decide +kernel
theorem dX12_writesNumber_24 : decode cX12_writesNumber 24 = .ok (.iadd, 1) := by decide +kernel
theorem dX12_writesNumber_25 : decode cX12_writesNumber 25 = .ok (.invokevirtual 210, 3) := by decide +kernel
theorem dX12_writesNumber_28 : decode cX12_writesNumber 28 = .ok (.return_, 1) := by decide +kernel
theorem dX12_writeShelf_0 : decode cX12_writeShelf 0 = .ok (.aload_n 0, 1) := by decide +kernel
theorem dX12_writeShelf_1 : decode cX12_writeShelf 1 = .ok (.iconst 0, 1) := by decide +kernel
theorem dX12_writeShelf_2 : decode cX12_writeShelf 2 = .ok (.putfield 1, 3) := by decide +kernel
theorem dX12_writeShelf_5 : decode cX12_writeShelf 5 = .ok (.aload_n 0, 1) := by decide +kernel
theorem dX12_writeShelf_6 : decode cX12_writeShelf 6 = .ok (.iload_n 1, 1) := by decide +kernel
theorem dX12_writeShelf_7 : decode cX12_writeShelf 7 = .ok (.invokevirtual 96, 3) := by decide +kernel
theorem dX12_writeShelf_10 : decode cX12_writeShelf 10 = .ok (.ifCond .ne 9, 3) := by decide +kernel
theorem dX12_writeShelf_13 : decode cX12_writeShelf 13 = .ok (.aload_n 0, 1) := by decide +kernel
theorem dX12_writeShelf_14 : decode cX12_writeShelf 14 = .ok (.iconst 1, 1) := by decide +kernel
theorem dX12_writeShelf_15 : decode cX12_writeShelf 15 = .ok (.invokevirtual 22, 3) := by decide +kernel
theorem dX12_writeShelf_18 : decode cX12_writeShelf 18 = .ok (.ireturn, 1) := by decide +kernel
theorem dX12_writeShelf_19 : decode cX12_writeShelf 19 = .ok (.aload_n 0, 1) := by decide +kernel
theorem dX12_writeShelf_20 : decode cX12_writeShelf 20 = .ok (.iconst 0, 1) := by decide +kernel
theorem dX12_writeShelf_21 : decode cX12_writeShelf 21 = .ok (.putfield 207, 3) := by decide +kernel
theorem dX12_writeShelf_24 : decode cX12_writeShelf 24 = .ok (.aload_n 0, 1) := by decide +kernel
theorem dX12_writeShelf_25 : decode cX12_writeShelf 25 = .ok (.iload_n 1, 1) := by decide +kernel
theorem dX12_writeShelf_26 : decode cX12_writeShelf 26 = .ok (.invokevirtual 213, 3) := by decide +kernel
theorem dX12_writeShelf_29 : decode cX12_writeShelf 29 = .ok (.aload_n 0, 1) := by decide +kernel
theorem dX12_writeShelf_30 : decode cX12_writeShelf 30 = .ok (.bipush 58, 2) := by decide +kernel
theorem dX12_writeShelf_32 : decode cX12_writeShelf 32 = .ok (.invokevirtual 210, 3) := by decide +kernel
theorem dX12_writeShelf_35 : decode cX12_writeShelf 35 = .ok (.aload_n 0, 1) := by decide +kernel
theorem dX12_writeShelf_36 : decode cX12_writeShelf 36 = .ok (.aload_n 0, 1) := by decide +kernel
theorem dX12_writeShelf_37 : decode cX12_writeShelf 37 = .ok (.getfield 32, 3) := by decide +kernel
theorem dX12_writeShelf_40 : decode cX12_writeShelf 40 = .ok (.bipush 14, 2) := by decide +kernel
theorem dX12_writeShelf_42 : decode cX12_writeShelf 42 = .ok (.iload_n 1, 1) := by decide +kernel
theorem dX12_writeShelf_43 : decode cX12_writeShelf 43 = .ok (.iadd, 1) := by decide +kernel
theorem dX12_writeShelf_44 : decode cX12_writeShelf 44 = .ok (.iaload, 1) := by decide +kernel
theorem dX12_writeShelf_45 : decode cX12_writeShelf 45 = .ok (.invokevirtual 213, 3) := by decide +kernel
theorem dX12_writeShelf_48 : decode cX12_writeShelf 48 = .ok (.aload_n 0, 1) := by decide +kernel
theorem dX12_writeShelf_49 : decode cX12_writeShelf 49 = .ok (.getfield 32, 3) := by decide +kernel
theorem dX12_writeShelf_52 : decode cX12_writeShelf 52 = .ok (.bipush 26, 2) := by decide +kernel
theorem dX12_writeShelf_54 : decode cX12_writeShelf 54 = .ok (.iload_n 1, 1) := by decide +kernel
theorem dX12_writeShelf_55 : decode cX12_writeShelf 55 = .ok (.iadd, 1) := by decide +kernel
theorem dX12_writeShelf_56 : decode cX12_writeShelf 56 = .ok (.iaload, 1) := by decide +kernel
theorem dX12_writeShelf_57 : decode cX12_writeShelf 57 = .ok (.iconst 1, 1) := by decide +kernel
theorem dX12_writeShelf_58 : decode cX12_writeShelf 58 = .ok (.if_icmp .ne 9, 3) := by decide +kernel
theorem dX12_writeShelf_61 : decode cX12_writeShelf 61 = .ok (.aload_n 0, 1) := by decide +kernel
theorem dX12_writeShelf_62 : decode cX12_writeShelf 62 = .ok (.bipush 98, 2) := by decide +kernel
theorem dX12_writeShelf_64 : decode cX12_writeShelf 64 = .ok (.invokevirtual 210, 3) := by decide +kernel
theorem dX12_writeShelf_67 : decode cX12_writeShelf 67 = .ok (.aload_n 0, 1) := by decide +kernel
theorem dX12_writeShelf_68 : decode cX12_writeShelf 68 = .ok (.getfield 32, 3) := by decide +kernel
theorem dX12_writeShelf_71 : decode cX12_writeShelf 71 = .ok (.iconst 3, 1) := by decide +kernel
theorem dX12_writeShelf_72 : decode cX12_writeShelf 72 = .ok (.iaload, 1) := by decide +kernel
theorem dX12_writeShelf_73 : decode cX12_writeShelf 73 = .ok (.iload_n 1, 1) := by decide +kernel
theorem dX12_writeShelf_74 : decode cX12_writeShelf 74 = .ok (.if_icmp .ne 9, 3) := by decide +kernel
theorem dX12_writeShelf_77 : decode cX12_writeShelf 77 = .ok (.aload_n 0, 1) := by decide +kernel
theorem dX12_writeShelf_78 : decode cX12_writeShelf 78 = .ok (.bipush 67, 2) := by decide +kernel
theorem dX12_writeShelf_80 : decode cX12_writeShelf 80 = .ok (.invokevirtual 210, 3) := by decide +kernel
theorem dX12_writeShelf_83 : decode cX12_writeShelf 83 = .ok (.aload_n 0, 1) := by decide +kernel
theorem dX12_writeShelf_84 : decode cX12_writeShelf 84 = .ok (.iload_n 1, 1) := by decide +kernel
theorem dX12_writeShelf_85 : decode cX12_writeShelf 85 = .ok (.invokevirtual 201, 3) := by decide +kernel
theorem dX12_writeShelf_88 : decode cX12_writeShelf 88 = .ok (.istore_n 2, 1) := by decide +kernel
theorem dX12_writeShelf_89 : decode cX12_writeShelf 89 = .ok (.iload_n 2, 1) := by decide +kernel
theorem dX12_writeShelf_90 : decode cX12_writeShelf 90 = .ok (.ifCond .le 15, 3) := by decide +kernel
theorem dX12_writeShelf_93 : decode cX12_writeShelf 93 = .ok (.aload_n 0, 1) := by decide +kernel
theorem dX12_writeShelf_94 : decode cX12_writeShelf 94 = .ok (.bipush 109, 2) := by decide +kernel
theorem dX12_writeShelf_96 : decode cX12_writeShelf 96 = .ok (.invokevirtual 210, 3) := by decide +kernel
theorem dX12_writeShelf_99 : decode cX12_writeShelf 99 = .ok (.iinc 2 (-1), 3) := by decide +kernel
theorem dX12_writeShelf_102 : decode cX12_writeShelf 102 = .ok (.goto (-13), 3) := by decide +kernel
theorem dX12_writeShelf_105 : decode cX12_writeShelf 105 = .ok (.iconst 0, 1) := by decide +kernel
theorem dX12_writeShelf_106 : decode cX12_writeShelf 106 = .ok (.istore_n 2, 1) := by decide +kernel
theorem dX12_writeShelf_107 : decode cX12_writeShelf 107 = .ok (.iload_n 2, 1) := by decide +kernel
theorem dX12_writeShelf_108 : decode cX12_writeShelf 108 = .ok (.aload_n 0, 1) := by decide +kernel
theorem dX12_writeShelf_109 : decode cX12_writeShelf 109 = .ok (.getfield 32, 3) := by decide +kernel
theorem dX12_writeShelf_112 : decode cX12_writeShelf 112 = .ok (.iconst 0, 1) := by decide +kernel
theorem dX12_writeShelf_113 : decode cX12_writeShelf 113 = .ok (.iaload, 1) := by decide +kernel
theorem dX12_writeShelf_114 : decode cX12_writeShelf 114 = .ok (.if_icmp .ge 32, 3) := by decide +kernel
theorem dX12_writeShelf_117 : decode cX12_writeShelf 117 = .ok (.aload_n 0, 1) := by decide +kernel
theorem dX12_writeShelf_118 : decode cX12_writeShelf 118 = .ok (.iload_n 1, 1) := by decide +kernel
theorem dX12_writeShelf_119 : decode cX12_writeShelf 119 = .ok (.iload_n 2, 1) := by decide +kernel
theorem dX12_writeShelf_120 : decode cX12_writeShelf 120 = .ok (.invokevirtual 100, 3) := by decide +kernel
theorem dX12_writeShelf_123 : decode cX12_writeShelf 123 = .ok (.ifCond .ne 6, 3) := by decide +kernel
theorem dX12_writeShelf_126 : decode cX12_writeShelf 126 = .ok (.goto 14, 3) := by decide +kernel
theorem dX12_writeShelf_129 : decode cX12_writeShelf 129 = .ok (.aload_n 0, 1) := by decide +kernel
theorem dX12_writeShelf_130 : decode cX12_writeShelf 130 = .ok (.bipush 45, 2) := by decide +kernel
theorem dX12_writeShelf_132 : decode cX12_writeShelf 132 = .ok (.invokevirtual 210, 3) := by decide +kernel
theorem dX12_writeShelf_135 : decode cX12_writeShelf 135 = .ok (.aload_n 0, 1) := by decide +kernel
theorem dX12_writeShelf_136 : decode cX12_writeShelf 136 = .ok (.iload_n 2, 1) := by decide +kernel
theorem dX12_writeShelf_137 : decode cX12_writeShelf 137 = .ok (.invokevirtual 213, 3) := by decide +kernel
theorem dX12_writeShelf_140 : decode cX12_writeShelf 140 = .ok (.iinc 2 1, 3) := by decide +kernel
theorem dX12_writeShelf_143 : decode cX12_writeShelf 143 = .ok (.goto (-36), 3) := by decide +kernel
theorem dX12_writeShelf_146 : decode cX12_writeShelf 146 = .ok (.aload_n 0, 1) := by decide +kernel
theorem dX12_writeShelf_147 : decode cX12_writeShelf 147 = .ok (.getfield 207, 3) := by decide +kernel
theorem dX12_writeShelf_150 : decode cX12_writeShelf 150 = .ok (.ireturn, 1) := by decide +kernel
theorem dX12_writePatrol_0 : decode cX12_writePatrol 0 = .ok (.aload_n 0, 1) := by decide +kernel
theorem dX12_writePatrol_1 : decode cX12_writePatrol 1 = .ok (.iconst 0, 1) := by decide +kernel
theorem dX12_writePatrol_2 : decode cX12_writePatrol 2 = .ok (.putfield 1, 3) := by decide +kernel
theorem dX12_writePatrol_5 : decode cX12_writePatrol 5 = .ok (.aload_n 0, 1) := by decide +kernel
theorem dX12_writePatrol_6 : decode cX12_writePatrol 6 = .ok (.iconst 0, 1) := by decide +kernel
theorem dX12_writePatrol_7 : decode cX12_writePatrol 7 = .ok (.putfield 207, 3) := by decide +kernel
theorem dX12_writePatrol_10 : decode cX12_writePatrol 10 = .ok (.iconst 0, 1) := by decide +kernel
theorem dX12_writePatrol_11 : decode cX12_writePatrol 11 = .ok (.istore_n 1, 1) := by decide +kernel
theorem dX12_writePatrol_12 : decode cX12_writePatrol 12 = .ok (.iload_n 1, 1) := by decide +kernel
theorem dX12_writePatrol_13 : decode cX12_writePatrol 13 = .ok (.aload_n 0, 1) := by decide +kernel
theorem dX12_writePatrol_14 : decode cX12_writePatrol 14 = .ok (.getfield 32, 3) := by decide +kernel
theorem dX12_writePatrol_17 : decode cX12_writePatrol 17 = .ok (.iconst 2, 1) := by decide +kernel
theorem dX12_writePatrol_18 : decode cX12_writePatrol 18 = .ok (.iaload, 1) := by decide +kernel
theorem dX12_writePatrol_19 : decode cX12_writePatrol 19 = .ok (.if_icmp .ge 49, 3) := by decide +kernel
theorem dX12_writePatrol_22 : decode cX12_writePatrol 22 = .ok (.iload_n 1, 1) := by decide +kernel
theorem dX12_writePatrol_23 : decode cX12_writePatrol 23 = .ok (.ifCond .le 9, 3) := by decide +kernel
theorem dX12_writePatrol_26 : decode cX12_writePatrol 26 = .ok (.aload_n 0, 1) := by decide +kernel
theorem dX12_writePatrol_27 : decode cX12_writePatrol 27 = .ok (.bipush 32, 2) := by decide +kernel
theorem dX12_writePatrol_29 : decode cX12_writePatrol 29 = .ok (.invokevirtual 210, 3) := by decide +kernel
theorem dX12_writePatrol_32 : decode cX12_writePatrol 32 = .ok (.aload_n 0, 1) := by decide +kernel
theorem dX12_writePatrol_33 : decode cX12_writePatrol 33 = .ok (.aload_n 0, 1) := by decide +kernel
theorem dX12_writePatrol_34 : decode cX12_writePatrol 34 = .ok (.getfield 32, 3) := by decide +kernel
theorem dX12_writePatrol_37 : decode cX12_writePatrol 37 = .ok (.sipush 182, 3) := by decide +kernel
theorem dX12_writePatrol_40 : decode cX12_writePatrol 40 = .ok (.iload_n 1, 1) := by decide +kernel
theorem dX12_writePatrol_41 : decode cX12_writePatrol 41 = .ok (.iadd, 1) := by decide +kernel
theorem dX12_writePatrol_42 : decode cX12_writePatrol 42 = .ok (.iaload, 1) := by decide +kernel
theorem dX12_writePatrol_43 : decode cX12_writePatrol 43 = .ok (.invokevirtual 213, 3) := by decide +kernel
theorem dX12_writePatrol_46 : decode cX12_writePatrol 46 = .ok (.iload_n 1, 1) := by decide +kernel
theorem dX12_writePatrol_47 : decode cX12_writePatrol 47 = .ok (.aload_n 0, 1) := by decide +kernel
theorem dX12_writePatrol_48 : decode cX12_writePatrol 48 = .ok (.getfield 32, 3) := by decide +kernel
theorem dX12_writePatrol_51 : decode cX12_writePatrol 51 = .ok (.iconst 4, 1) := by decide +kernel
theorem dX12_writePatrol_52 : decode cX12_writePatrol 52 = .ok (.iaload, 1) := by decide +kernel
theorem dX12_writePatrol_53 : decode cX12_writePatrol 53 = .ok (.if_icmp .ne 9, 3) := by decide +kernel
theorem dX12_writePatrol_56 : decode cX12_writePatrol 56 = .ok (.aload_n 0, 1) := by decide +kernel
theorem dX12_writePatrol_57 : decode cX12_writePatrol 57 = .ok (.bipush 42, 2) := by decide +kernel
theorem dX12_writePatrol_59 : decode cX12_writePatrol 59 = .ok (.invokevirtual 210, 3) := by decide +kernel
theorem dX12_writePatrol_62 : decode cX12_writePatrol 62 = .ok (.iinc 1 1, 3) := by decide +kernel
theorem dX12_writePatrol_65 : decode cX12_writePatrol 65 = .ok (.goto (-53), 3) := by decide +kernel
theorem dX12_writePatrol_68 : decode cX12_writePatrol 68 = .ok (.aload_n 0, 1) := by decide +kernel
theorem dX12_writePatrol_69 : decode cX12_writePatrol 69 = .ok (.getfield 207, 3) := by decide +kernel
theorem dX12_writePatrol_72 : decode cX12_writePatrol 72 = .ok (.ireturn, 1) := by decide +kernel
theorem dX12_lineCharacter_0 : decode cX12_lineCharacter 0 = .ok (.aload_n 0, 1) := by decide +kernel
theorem dX12_lineCharacter_1 : decode cX12_lineCharacter 1 = .ok (.iconst 0, 1) := by decide +kernel
theorem dX12_lineCharacter_2 : decode cX12_lineCharacter 2 = .ok (.putfield 1, 3) := by decide +kernel
theorem dX12_lineCharacter_5 : decode cX12_lineCharacter 5 = .ok (.iload_n 1, 1) := by decide +kernel
theorem dX12_lineCharacter_6 : decode cX12_lineCharacter 6 = .ok (.iconst 0, 1) := by decide +kernel
theorem dX12_lineCharacter_7 : decode cX12_lineCharacter 7 = .ok (.aload_n 0, 1) := by decide +kernel
theorem dX12_lineCharacter_8 : decode cX12_lineCharacter 8 = .ok (.getfield 207, 3) := by decide +kernel
theorem dX12_lineCharacter_11 : decode cX12_lineCharacter 11 = .ok (.iconst 1, 1) := by decide +kernel
theorem dX12_lineCharacter_12 : decode cX12_lineCharacter 12 = .ok (.isub, 1) := by decide +kernel
theorem dX12_lineCharacter_13 : decode cX12_lineCharacter 13 = .ok (.invokestatic 76, 3) := by decide +kernel
theorem dX12_lineCharacter_16 : decode cX12_lineCharacter 16 = .ok (.ifCond .eq 10, 3) := by decide +kernel
theorem dX12_lineCharacter_19 : decode cX12_lineCharacter 19 = .ok (.aload_n 0, 1) := by decide +kernel
theorem dX12_lineCharacter_20 : decode cX12_lineCharacter 20 = .ok (.getfield 51, 3) := by decide +kernel
theorem dX12_lineCharacter_23 : decode cX12_lineCharacter 23 = .ok (.iload_n 1, 1) := by decide +kernel
theorem dX12_lineCharacter_24 : decode cX12_lineCharacter 24 = .ok (.caload, 1) := by decide +kernel
theorem dX12_lineCharacter_25 : decode cX12_lineCharacter 25 = .ok (.ireturn, 1) := by decide +kernel
theorem dX12_lineCharacter_26 : decode cX12_lineCharacter 26 = .ok (.aload_n 0, 1) := by decide +kernel
theorem dX12_lineCharacter_27 : decode cX12_lineCharacter 27 = .ok (.iconst 1, 1) := by decide +kernel
theorem dX12_lineCharacter_28 : decode cX12_lineCharacter 28 = .ok (.invokevirtual 22, 3) := by decide +kernel
theorem dX12_lineCharacter_31 : decode cX12_lineCharacter 31 = .ok (.i2c, 1) := by decide +kernel
theorem dX12_lineCharacter_32 : decode cX12_lineCharacter 32 = .ok (.ireturn, 1) := by decide +kernel
theorem dX12_feed_0 : decode cX12_feed 0 = .ok (.aload_n 0, 1) := by decide +kernel
theorem dX12_feed_1 : decode cX12_feed 1 = .ok (.iconst 0, 1) := by decide +kernel
theorem dX12_feed_2 : decode cX12_feed 2 = .ok (.putfield 1, 3) := by decide +kernel
theorem dX12_feed_5 : decode cX12_feed 5 = .ok (.aload_n 0, 1) := by decide +kernel
theorem dX12_feed_6 : decode cX12_feed 6 = .ok (.getfield 216, 3) := by decide +kernel
theorem dX12_feed_9 : decode cX12_feed 9 = .ok (.bipush 60, 2) := by decide +kernel
theorem dX12_feed_11 : decode cX12_feed 11 = .ok (.if_icmp .ne 9, 3) := by decide +kernel
theorem dX12_feed_14 : decode cX12_feed 14 = .ok (.aload_n 0, 1) := by decide +kernel
theorem dX12_feed_15 : decode cX12_feed 15 = .ok (.iconst 1, 1) := by decide +kernel
theorem dX12_feed_16 : decode cX12_feed 16 = .ok (.invokevirtual 22, 3) := by decide +kernel
theorem dX12_feed_19 : decode cX12_feed 19 = .ok (.ireturn, 1) := by decide +kernel
theorem dX12_feed_20 : decode cX12_feed 20 = .ok (.aload_n 0, 1) := by decide +kernel
theorem dX12_feed_21 : decode cX12_feed 21 = .ok (.getfield 55, 3) := by decide +kernel
theorem dX12_feed_24 : decode cX12_feed 24 = .ok (.aload_n 0, 1) := by decide +kernel
theorem dX12_feed_25 : decode cX12_feed 25 = .ok (.getfield 216, 3) := by decide +kernel
theorem dX12_feed_28 : decode cX12_feed 28 = .ok (.iload_n 1, 1) := by decide +kernel
theorem dX12_feed_29 : decode cX12_feed 29 = .ok (.castore, 1) := by decide +kernel
theorem dX12_feed_30 : decode cX12_feed 30 = .ok (.aload_n 0, 1) := by decide +kernel
theorem dX12_feed_31 : decode cX12_feed 31 = .ok (.dup, 1) := by decide +kernel
theorem dX12_feed_32 : decode cX12_feed 32 = .ok (.getfield 216, 3) := by decide +kernel
theorem dX12_feed_35 : decode cX12_feed 35 = .ok (.iconst 1, 1) := by decide +kernel
theorem dX12_feed_36 : decode cX12_feed 36 = .ok (.iadd, 1) := by decide +kernel
theorem dX12_feed_37 : decode cX12_feed 37 = .ok (.putfield 216, 3) := by decide +kernel
theorem dX12_feed_40 : decode cX12_feed 40 = .ok (.aload_n 0, 1) := by decide +kernel
theorem dX12_feed_41 : decode cX12_feed 41 = .ok (.getfield 216, 3) := by decide +kernel
theorem dX12_feed_44 : decode cX12_feed 44 = .ok (.ireturn, 1) := by decide +kernel
theorem dX12_nextChar_0 : decode cX12_nextChar 0 = .ok (.aload_n 0, 1) := by decide +kernel
theorem dX12_nextChar_1 : decode cX12_nextChar 1 = .ok (.getfield 219, 3) := by decide +kernel
theorem dX12_nextChar_4 : decode cX12_nextChar 4 = .ok (.aload_n 0, 1) := by decide +kernel
theorem dX12_nextChar_5 : decode cX12_nextChar 5 = .ok (.getfield 216, 3) := by decide +kernel
theorem dX12_nextChar_8 : decode cX12_nextChar 8 = .ok (.if_icmp .ge 15, 3) := by decide +kernel
theorem dX12_nextChar_11 : decode cX12_nextChar 11 = .ok (.aload_n 0, 1) := by decide +kernel
theorem dX12_nextChar_12 : decode cX12_nextChar 12 = .ok (.getfield 55, 3) := by decide +kernel
theorem dX12_nextChar_15 : decode cX12_nextChar 15 = .ok (.aload_n 0, 1) := by decide +kernel
theorem dX12_nextChar_16 : decode cX12_nextChar 16 = .ok (.getfield 219, 3) := by decide +kernel
theorem dX12_nextChar_19 : decode cX12_nextChar 19 = .ok (.caload, 1) := by decide +kernel
theorem dX12_nextChar_20 : decode cX12_nextChar 20 = .ok (.goto 4, 3) := by decide +kernel
theorem dX12_nextChar_23 : decode cX12_nextChar 23 = .ok (.iconst (-1), 1) := by decide +kernel
theorem dX12_nextChar_24 : decode cX12_nextChar 24 = .ok (.ireturn, 1) := by decide +kernel
theorem dX12_reads_0 : decode cX12_reads 0 = .ok (.aload_n 0, 1) := by decide +kernel
theorem dX12_reads_1 : decode cX12_reads 1 = .ok (.invokevirtual 222, 3) := by decide +kernel
theorem dX12_reads_4 : decode cX12_reads 4 = .ok (.iload_n 1, 1) := by decide +kernel
theorem dX12_reads_5 : decode cX12_reads 5 = .ok (.if_icmp .eq 5, 3) := by decide +kernel
theorem dX12_reads_8 : decode cX12_reads 8 = .ok (.iconst 0, 1) := by decide +kernel
theorem dX12_reads_9 : decode cX12_reads 9 = .ok (.ireturn, 1) := by decide +kernel
theorem dX12_reads_10 : decode cX12_reads 10 = .ok (.aload_n 0, 1) := by decide +kernel
theorem dX12_reads_11 : decode cX12_reads 11 = .ok (.dup, 1) := by decide +kernel
theorem dX12_reads_12 : decode cX12_reads 12 = .ok (.getfield 219, 3) := by decide +kernel
theorem dX12_reads_15 : decode cX12_reads 15 = .ok (.iconst 1, 1) := by decide +kernel
theorem dX12_reads_16 : decode cX12_reads 16 = .ok (.iadd, 1) := by decide +kernel
theorem dX12_reads_17 : decode cX12_reads 17 = .ok (.putfield 219, 3) := by decide +kernel
theorem dX12_reads_20 : decode cX12_reads 20 = .ok (.iconst 1, 1) := by decide +kernel
theorem dX12_reads_21 : decode cX12_reads 21 = .ok (.ireturn, 1) := by decide +kernel
theorem dX12_isDigitNext_0 : decode cX12_isDigitNext 0 = .ok (.aload_n 0, 1) := by decide +kernel
theorem dX12_isDigitNext_1 : decode cX12_isDigitNext 1 = .ok (.invokevirtual 222, 3) := by decide +kernel
theorem dX12_isDigitNext_4 : decode cX12_isDigitNext 4 = .ok (.bipush 48, 2) := by decide +kernel
theorem dX12_isDigitNext_6 : decode cX12_isDigitNext 6 = .ok (.bipush 57, 2) := by decide +kernel
theorem dX12_isDigitNext_8 : decode cX12_isDigitNext 8 = .ok (.invokestatic 76, 3) := by decide +kernel
theorem dX12_isDigitNext_11 : decode cX12_isDigitNext 11 = .ok (.ireturn, 1) := by decide +kernel
theorem dX12_readsNumber_0 : decode cX12_readsNumber 0 = .ok (.aload_n 0, 1) := by decide +kernel
theorem dX12_readsNumber_1 : decode cX12_readsNumber 1 = .ok (.invokevirtual 225, 3) := by decide +kernel
theorem dX12_readsNumber_4 : decode cX12_readsNumber 4 = .ok (.ifCond .ne 5, 3) := by decide +kernel
theorem dX12_readsNumber_7 : decode cX12_readsNumber 7 = .ok (.iconst 0, 1) := by decide +kernel
theorem dX12_readsNumber_8 : decode cX12_readsNumber 8 = .ok (.ireturn, 1) := by decide +kernel
theorem dX12_readsNumber_9 : decode cX12_readsNumber 9 = .ok (.aload_n 0, 1) := by decide +kernel
theorem dX12_readsNumber_10 : decode cX12_readsNumber 10 = .ok (.getfield 61, 3) := by decide +kernel
theorem dX12_readsNumber_13 : decode cX12_readsNumber 13 = .ok (.iload_n 1, 1) := by decide +kernel
theorem dX12_readsNumber_14 : decode cX12_readsNumber 14 = .ok (.iconst 0, 1) := by decide +kernel
theorem dX12_readsNumber_15 : decode cX12_readsNumber 15 = .ok (.iastore, 1) := by decide +kernel
theorem dX12_readsNumber_16 : decode cX12_readsNumber 16 = .ok (.iconst 0, 1) := by decide +kernel
theorem dX12_readsNumber_17 : decode cX12_readsNumber 17 = .ok (.istore_n 3, 1) := by decide +kernel
theorem dX12_readsNumber_18 : decode cX12_readsNumber 18 = .ok (.iload_n 3, 1) := by decide +kernel
theorem dX12_readsNumber_19 : decode cX12_readsNumber 19 = .ok (.iload_n 2, 1) := by decide +kernel
theorem dX12_readsNumber_20 : decode cX12_readsNumber 20 = .ok (.if_icmp .ge 49, 3) := by decide +kernel
theorem dX12_readsNumber_23 : decode cX12_readsNumber 23 = .ok (.aload_n 0, 1) := by decide +kernel
theorem dX12_readsNumber_24 : decode cX12_readsNumber 24 = .ok (.invokevirtual 225, 3) := by decide +kernel
theorem dX12_readsNumber_27 : decode cX12_readsNumber 27 = .ok (.ifCond .eq 42, 3) := by decide +kernel
theorem dX12_readsNumber_30 : decode cX12_readsNumber 30 = .ok (.aload_n 0, 1) := by decide +kernel
theorem dX12_readsNumber_31 : decode cX12_readsNumber 31 = .ok (.getfield 61, 3) := by decide +kernel
theorem dX12_readsNumber_34 : decode cX12_readsNumber 34 = .ok (.iload_n 1, 1) := by decide +kernel
theorem dX12_readsNumber_35 : decode cX12_readsNumber 35 = .ok (.bipush 10, 2) := by decide +kernel
theorem dX12_readsNumber_37 : decode cX12_readsNumber 37 = .ok (.aload_n 0, 1) := by decide +kernel
theorem dX12_readsNumber_38 : decode cX12_readsNumber 38 = .ok (.getfield 61, 3) := by decide +kernel
theorem dX12_readsNumber_41 : decode cX12_readsNumber 41 = .ok (.iload_n 1, 1) := by decide +kernel
theorem dX12_readsNumber_42 : decode cX12_readsNumber 42 = .ok (.iaload, 1) := by decide +kernel
theorem dX12_readsNumber_43 : decode cX12_readsNumber 43 = .ok (.imul, 1) := by decide +kernel
theorem dX12_readsNumber_44 : decode cX12_readsNumber 44 = .ok (.aload_n 0, 1) := by decide +kernel
theorem dX12_readsNumber_45 : decode cX12_readsNumber 45 = .ok (.invokevirtual 222, 3) := by decide +kernel
theorem dX12_readsNumber_48 : decode cX12_readsNumber 48 = .ok (.iadd, 1) := by decide +kernel
theorem dX12_readsNumber_49 : decode cX12_readsNumber 49 = .ok (.bipush 48, 2) := by decide +kernel
theorem dX12_readsNumber_51 : decode cX12_readsNumber 51 = .ok (.isub, 1) := by decide +kernel
theorem dX12_readsNumber_52 : decode cX12_readsNumber 52 = .ok (.iastore, 1) := by decide +kernel
theorem dX12_readsNumber_53 : decode cX12_readsNumber 53 = .ok (.aload_n 0, 1) := by decide +kernel
theorem dX12_readsNumber_54 : decode cX12_readsNumber 54 = .ok (.dup, 1) := by decide +kernel
theorem dX12_readsNumber_55 : decode cX12_readsNumber 55 = .ok (.getfield 219, 3) := by decide +kernel
theorem dX12_readsNumber_58 : decode cX12_readsNumber 58 = .ok (.iconst 1, 1) := by decide +kernel
theorem dX12_readsNumber_59 : decode cX12_readsNumber 59 = .ok (.iadd, 1) := by decide +kernel
theorem dX12_readsNumber_60 : decode cX12_readsNumber 60 = .ok (.putfield 219, 3) := by decide +kernel
theorem dX12_readsNumber_63 : decode cX12_readsNumber 63 = .ok (.iinc 3 1, 3) := by decide +kernel
theorem dX12_readsNumber_66 : decode cX12_readsNumber 66 = .ok (.goto (-48), 3) := by decide +kernel
theorem dX12_readsNumber_69 : decode cX12_readsNumber 69 = .ok (.iconst 1, 1) := by decide +kernel
theorem dX12_readsNumber_70 : decode cX12_readsNumber 70 = .ok (.ireturn, 1) := by decide +kernel
theorem dX12_readsOne_0 : decode cX12_readsOne 0 = .ok (.aload_n 0, 1) := by decide +kernel
theorem dX12_readsOne_1 : decode cX12_readsOne 1 = .ok (.bipush 32, 2) := by decide +kernel
theorem dX12_readsOne_3 : decode cX12_readsOne 3 = .ok (.invokevirtual 229, 3) := by decide +kernel
theorem dX12_readsOne_6 : decode cX12_readsOne 6 = .ok (.ifCond .eq 16, 3) := by decide +kernel
theorem dX12_readsOne_9 : decode cX12_readsOne 9 = .ok (.aload_n 0, 1) := by decide +kernel
theorem dX12_readsOne_10 : decode cX12_readsOne 10 = .ok (.iconst 0, 1) := by decide +kernel
theorem dX12_readsOne_11 : decode cX12_readsOne 11 = .ok (.iconst 2, 1) := by decide +kernel
theorem dX12_readsOne_12 : decode cX12_readsOne 12 = .ok (.invokevirtual 232, 3) := by decide +kernel
theorem dX12_readsOne_15 : decode cX12_readsOne 15 = .ok (.ifCond .eq 7, 3) := by decide +kernel
theorem dX12_readsOne_18 : decode cX12_readsOne 18 = .ok (.iconst 1, 1) := by decide +kernel
theorem dX12_readsOne_19 : decode cX12_readsOne 19 = .ok (.goto 4, 3) := by decide +kernel
theorem dX12_readsOne_22 : decode cX12_readsOne 22 = .ok (.iconst 0, 1) := by decide +kernel
theorem dX12_readsOne_23 : decode cX12_readsOne 23 = .ok (.ireturn, 1) := by decide +kernel
theorem dX12_readsPair_0 : decode cX12_readsPair 0 = .ok (.aload_n 0, 1) := by decide +kernel
theorem dX12_readsPair_1 : decode cX12_readsPair 1 = .ok (.invokevirtual 235, 3) := by decide +kernel
theorem dX12_readsPair_4 : decode cX12_readsPair 4 = .ok (.ifCond .eq 25, 3) := by decide +kernel
theorem dX12_readsPair_7 : decode cX12_readsPair 7 = .ok (.aload_n 0, 1) := by decide +kernel
theorem dX12_readsPair_8 : decode cX12_readsPair 8 = .ok (.bipush 45, 2) := by decide +kernel
theorem dX12_readsPair_10 : decode cX12_readsPair 10 = .ok (.invokevirtual 229, 3) := by decide +kernel
theorem dX12_readsPair_13 : decode cX12_readsPair 13 = .ok (.ifCond .eq 16, 3) := by decide +kernel
theorem dX12_readsPair_16 : decode cX12_readsPair 16 = .ok (.aload_n 0, 1) := by decide +kernel
theorem dX12_readsPair_17 : decode cX12_readsPair 17 = .ok (.iconst 1, 1) := by decide +kernel
theorem dX12_readsPair_18 : decode cX12_readsPair 18 = .ok (.iconst 2, 1) := by decide +kernel
theorem dX12_readsPair_19 : decode cX12_readsPair 19 = .ok (.invokevirtual 232, 3) := by decide +kernel
theorem dX12_readsPair_22 : decode cX12_readsPair 22 = .ok (.ifCond .eq 7, 3) := by decide +kernel
theorem dX12_readsPair_25 : decode cX12_readsPair 25 = .ok (.iconst 1, 1) := by decide +kernel
theorem dX12_readsPair_26 : decode cX12_readsPair 26 = .ok (.goto 4, 3) := by decide +kernel
theorem dX12_readsPair_29 : decode cX12_readsPair 29 = .ok (.iconst 0, 1) := by decide +kernel
theorem dX12_readsPair_30 : decode cX12_readsPair 30 = .ok (.ireturn, 1) := by decide +kernel
theorem dX12_readsS_0 : decode cX12_readsS 0 = .ok (.aload_n 0, 1) := by decide +kernel
theorem dX12_readsS_1 : decode cX12_readsS 1 = .ok (.bipush 104, 2) := by decide +kernel
theorem dX12_readsS_3 : decode cX12_readsS 3 = .ok (.invokevirtual 229, 3) := by decide +kernel
theorem dX12_readsS_6 : decode cX12_readsS 6 = .ok (.ifCond .eq 80, 3) := by decide +kernel
theorem dX12_readsS_9 : decode cX12_readsS 9 = .ok (.aload_n 0, 1) := by decide +kernel
theorem dX12_readsS_10 : decode cX12_readsS 10 = .ok (.bipush 101, 2) := by decide +kernel
theorem dX12_readsS_12 : decode cX12_readsS 12 = .ok (.invokevirtual 229, 3) := by decide +kernel
theorem dX12_readsS_15 : decode cX12_readsS 15 = .ok (.ifCond .eq 34, 3) := by decide +kernel
theorem dX12_readsS_18 : decode cX12_readsS 18 = .ok (.aload_n 0, 1) := by decide +kernel
theorem dX12_readsS_19 : decode cX12_readsS 19 = .ok (.bipush 108, 2) := by decide +kernel
theorem dX12_readsS_21 : decode cX12_readsS 21 = .ok (.invokevirtual 229, 3) := by decide +kernel
theorem dX12_readsS_24 : decode cX12_readsS 24 = .ok (.ifCond .eq 23, 3) := by decide +kernel
theorem dX12_readsS_27 : decode cX12_readsS 27 = .ok (.aload_n 0, 1) := by decide +kernel
theorem dX12_readsS_28 : decode cX12_readsS 28 = .ok (.bipush 102, 2) := by decide +kernel
theorem dX12_readsS_30 : decode cX12_readsS 30 = .ok (.invokevirtual 229, 3) := by decide +kernel
theorem dX12_readsS_33 : decode cX12_readsS 33 = .ok (.ifCond .eq 14, 3) := by decide +kernel
theorem dX12_readsS_36 : decode cX12_readsS 36 = .ok (.aload_n 0, 1) := by decide +kernel
theorem dX12_readsS_37 : decode cX12_readsS 37 = .ok (.invokevirtual 235, 3) := by decide +kernel
theorem dX12_readsS_40 : decode cX12_readsS 40 = .ok (.ifCond .eq 7, 3) := by decide +kernel
theorem dX12_readsS_43 : decode cX12_readsS 43 = .ok (.iconst 1, 1) := by decide +kernel
theorem dX12_readsS_44 : decode cX12_readsS 44 = .ok (.goto 4, 3) := by decide +kernel
theorem dX12_readsS_47 : decode cX12_readsS 47 = .ok (.iconst 0, 1) := by decide +kernel
theorem dX12_readsS_48 : decode cX12_readsS 48 = .ok (.ireturn, 1) := by decide +kernel
theorem dX12_readsS_49 : decode cX12_readsS 49 = .ok (.aload_n 0, 1) := by decide +kernel
theorem dX12_readsS_50 : decode cX12_readsS 50 = .ok (.bipush 111, 2) := by decide +kernel
theorem dX12_readsS_52 : decode cX12_readsS 52 = .ok (.putfield 238, 3) := by decide +kernel
theorem dX12_readsS_55 : decode cX12_readsS 55 = .ok (.aload_n 0, 1) := by decide +kernel
theorem dX12_readsS_56 : decode cX12_readsS 56 = .ok (.bipush 111, 2) := by decide +kernel
theorem dX12_readsS_58 : decode cX12_readsS 58 = .ok (.invokevirtual 229, 3) := by decide +kernel
theorem dX12_readsS_61 : decode cX12_readsS 61 = .ok (.ifCond .eq 23, 3) := by decide +kernel
theorem dX12_readsS_64 : decode cX12_readsS 64 = .ok (.aload_n 0, 1) := by decide +kernel
theorem dX12_readsS_65 : decode cX12_readsS 65 = .ok (.bipush 119, 2) := by decide +kernel
theorem dX12_readsS_67 : decode cX12_readsS 67 = .ok (.invokevirtual 229, 3) := by decide +kernel
theorem dX12_readsS_70 : decode cX12_readsS 70 = .ok (.ifCond .eq 14, 3) := by decide +kernel
theorem dX12_readsS_73 : decode cX12_readsS 73 = .ok (.aload_n 0, 1) := by decide +kernel
theorem dX12_readsS_74 : decode cX12_readsS 74 = .ok (.invokevirtual 235, 3) := by decide +kernel
theorem dX12_readsS_77 : decode cX12_readsS 77 = .ok (.ifCond .eq 7, 3) := by decide +kernel
theorem dX12_readsS_80 : decode cX12_readsS 80 = .ok (.iconst 1, 1) := by decide +kernel
theorem dX12_readsS_81 : decode cX12_readsS 81 = .ok (.goto 4, 3) := by decide +kernel
theorem dX12_readsS_84 : decode cX12_readsS 84 = .ok (.iconst 0, 1) := by decide +kernel
theorem dX12_readsS_85 : decode cX12_readsS 85 = .ok (.ireturn, 1) := by decide +kernel
theorem dX12_readsS_86 : decode cX12_readsS 86 = .ok (.aload_n 0, 1) := by decide +kernel
theorem dX12_readsS_87 : decode cX12_readsS 87 = .ok (.bipush 116, 2) := by decide +kernel
theorem dX12_readsS_89 : decode cX12_readsS 89 = .ok (.putfield 238, 3) := by decide +kernel
theorem dX12_readsS_92 : decode cX12_readsS 92 = .ok (.aload_n 0, 1) := by decide +kernel
theorem dX12_readsS_93 : decode cX12_readsS 93 = .ok (.bipush 116, 2) := by decide +kernel
theorem dX12_readsS_95 : decode cX12_readsS 95 = .ok (.invokevirtual 229, 3) := by decide +kernel
theorem dX12_readsS_98 : decode cX12_readsS 98 = .ok (.ifCond .eq 34, 3) := by decide +kernel
theorem dX12_readsS_101 : decode cX12_readsS 101 = .ok (.aload_n 0, 1) := by decide +kernel
theorem dX12_readsS_102 : decode cX12_readsS 102 = .ok (.bipush 111, 2) := by decide +kernel
theorem dX12_readsS_104 : decode cX12_readsS 104 = .ok (.invokevirtual 229, 3) := by decide +kernel
theorem dX12_readsS_107 : decode cX12_readsS 107 = .ok (.ifCond .eq 23, 3) := by decide +kernel
theorem dX12_readsS_110 : decode cX12_readsS 110 = .ok (.aload_n 0, 1) := by decide +kernel
theorem dX12_readsS_111 : decode cX12_readsS 111 = .ok (.bipush 112, 2) := by decide +kernel
theorem dX12_readsS_113 : decode cX12_readsS 113 = .ok (.invokevirtual 229, 3) := by decide +kernel
theorem dX12_readsS_116 : decode cX12_readsS 116 = .ok (.ifCond .eq 14, 3) := by decide +kernel
theorem dX12_readsS_119 : decode cX12_readsS 119 = .ok (.aload_n 0, 1) := by decide +kernel
theorem dX12_readsS_120 : decode cX12_readsS 120 = .ok (.invokevirtual 235, 3) := by decide +kernel
theorem dX12_readsS_123 : decode cX12_readsS 123 = .ok (.ifCond .eq 7, 3) := by decide +kernel
theorem dX12_readsS_126 : decode cX12_readsS 126 = .ok (.iconst 1, 1) := by decide +kernel
theorem dX12_readsS_127 : decode cX12_readsS 127 = .ok (.goto 4, 3) := by decide +kernel
theorem dX12_readsS_130 : decode cX12_readsS 130 = .ok (.iconst 0, 1) := by decide +kernel
theorem dX12_readsS_131 : decode cX12_readsS 131 = .ok (.ireturn, 1) := by decide +kernel
theorem dX12_readsS_132 : decode cX12_readsS 132 = .ok (.aload_n 0, 1) := by decide +kernel
theorem dX12_readsS_133 : decode cX12_readsS 133 = .ok (.bipush 101, 2) := by decide +kernel
theorem dX12_readsS_135 : decode cX12_readsS 135 = .ok (.putfield 238, 3) := by decide +kernel
theorem dX12_readsS_138 : decode cX12_readsS 138 = .ok (.aload_n 0, 1) := by decide +kernel
theorem dX12_readsS_139 : decode cX12_readsS 139 = .ok (.bipush 101, 2) := by decide +kernel
theorem dX12_readsS_141 : decode cX12_readsS 141 = .ok (.invokevirtual 229, 3) := by decide +kernel
theorem dX12_readsS_144 : decode cX12_readsS 144 = .ok (.ifCond .eq 43, 3) := by decide +kernel
theorem dX12_readsS_147 : decode cX12_readsS 147 = .ok (.aload_n 0, 1) := by decide +kernel
theorem dX12_readsS_148 : decode cX12_readsS 148 = .ok (.bipush 101, 2) := by decide +kernel
theorem dX12_readsS_150 : decode cX12_readsS 150 = .ok (.invokevirtual 229, 3) := by decide +kernel
theorem dX12_readsS_153 : decode cX12_readsS 153 = .ok (.ifCond .eq 34, 3) := by decide +kernel
theorem dX12_readsS_156 : decode cX12_readsS 156 = .ok (.aload_n 0, 1) := by decide +kernel
theorem dX12_readsS_157 : decode cX12_readsS 157 = .ok (.bipush 100, 2) := by decide +kernel
theorem dX12_readsS_159 : decode cX12_readsS 159 = .ok (.invokevirtual 229, 3) := by decide +kernel
theorem dX12_readsS_162 : decode cX12_readsS 162 = .ok (.ifCond .eq 25, 3) := by decide +kernel
theorem dX12_readsS_165 : decode cX12_readsS 165 = .ok (.aload_n 0, 1) := by decide +kernel
theorem dX12_readsS_166 : decode cX12_readsS 166 = .ok (.bipush 32, 2) := by decide +kernel
theorem dX12_readsS_168 : decode cX12_readsS 168 = .ok (.invokevirtual 229, 3) := by decide +kernel
theorem dX12_readsS_171 : decode cX12_readsS 171 = .ok (.ifCond .eq 16, 3) := by decide +kernel
theorem dX12_readsS_174 : decode cX12_readsS 174 = .ok (.aload_n 0, 1) := by decide +kernel
theorem dX12_readsS_175 : decode cX12_readsS 175 = .ok (.iconst 0, 1) := by decide +kernel
theorem dX12_readsS_176 : decode cX12_readsS 176 = .ok (.iconst 4, 1) := by decide +kernel
theorem dX12_readsS_177 : decode cX12_readsS 177 = .ok (.invokevirtual 232, 3) := by decide +kernel
theorem dX12_readsS_180 : decode cX12_readsS 180 = .ok (.ifCond .eq 7, 3) := by decide +kernel
theorem dX12_readsS_183 : decode cX12_readsS 183 = .ok (.iconst 1, 1) := by decide +kernel
theorem dX12_readsS_184 : decode cX12_readsS 184 = .ok (.goto 4, 3) := by decide +kernel
theorem dX12_readsS_187 : decode cX12_readsS 187 = .ok (.iconst 0, 1) := by decide +kernel
theorem dX12_readsS_188 : decode cX12_readsS 188 = .ok (.ireturn, 1) := by decide +kernel
theorem dX12_readsCommand_0 : decode cX12_readsCommand 0 = .ok (.aload_n 0, 1) := by decide +kernel
theorem dX12_readsCommand_1 : decode cX12_readsCommand 1 = .ok (.aload_n 0, 1) := by decide +kernel
theorem dX12_readsCommand_2 : decode cX12_readsCommand 2 = .ok (.invokevirtual 222, 3) := by decide +kernel
theorem dX12_readsCommand_5 : decode cX12_readsCommand 5 = .ok (.putfield 238, 3) := by decide +kernel
theorem dX12_readsCommand_8 : decode cX12_readsCommand 8 = .ok (.aload_n 0, 1) := by decide +kernel
theorem dX12_readsCommand_9 : decode cX12_readsCommand 9 = .ok (.bipush 115, 2) := by decide +kernel
theorem dX12_readsCommand_11 : decode cX12_readsCommand 11 = .ok (.invokevirtual 229, 3) := by decide +kernel
theorem dX12_readsCommand_14 : decode cX12_readsCommand 14 = .ok (.ifCond .eq 8, 3) := by decide +kernel
theorem dX12_readsCommand_17 : decode cX12_readsCommand 17 = .ok (.aload_n 0, 1) := by decide +kernel
theorem dX12_readsCommand_18 : decode cX12_readsCommand 18 = .ok (.invokevirtual 241, 3) := by decide +kernel
theorem dX12_readsCommand_21 : decode cX12_readsCommand 21 = .ok (.ireturn, 1) := by decide +kernel
theorem dX12_readsCommand_22 : decode cX12_readsCommand 22 = .ok (.aload_n 0, 1) := by decide +kernel
theorem dX12_readsCommand_23 : decode cX12_readsCommand 23 = .ok (.bipush 108, 2) := by decide +kernel
theorem dX12_readsCommand_25 : decode cX12_readsCommand 25 = .ok (.invokevirtual 229, 3) := by decide +kernel
theorem dX12_readsCommand_28 : decode cX12_readsCommand 28 = .ok (.ifCond .eq 43, 3) := by decide +kernel
theorem dX12_readsCommand_31 : decode cX12_readsCommand 31 = .ok (.aload_n 0, 1) := by decide +kernel
theorem dX12_readsCommand_32 : decode cX12_readsCommand 32 = .ok (.bipush 105, 2) := by decide +kernel
theorem dX12_readsCommand_34 : decode cX12_readsCommand 34 = .ok (.invokevirtual 229, 3) := by decide +kernel
theorem dX12_readsCommand_37 : decode cX12_readsCommand 37 = .ok (.ifCond .eq 32, 3) := by decide +kernel
theorem dX12_readsCommand_40 : decode cX12_readsCommand 40 = .ok (.aload_n 0, 1) := by decide +kernel
theorem dX12_readsCommand_41 : decode cX12_readsCommand 41 = .ok (.bipush 110, 2) := by decide +kernel
theorem dX12_readsCommand_43 : decode cX12_readsCommand 43 = .ok (.invokevirtual 229, 3) := by decide +kernel
theorem dX12_readsCommand_46 : decode cX12_readsCommand 46 = .ok (.ifCond .eq 23, 3) := by decide +kernel
theorem dX12_readsCommand_49 : decode cX12_readsCommand 49 = .ok (.aload_n 0, 1) := by decide +kernel
theorem dX12_readsCommand_50 : decode cX12_readsCommand 50 = .ok (.bipush 107, 2) := by decide +kernel
theorem dX12_readsCommand_52 : decode cX12_readsCommand 52 = .ok (.invokevirtual 229, 3) := by decide +kernel
theorem dX12_readsCommand_55 : decode cX12_readsCommand 55 = .ok (.ifCond .eq 14, 3) := by decide +kernel
theorem dX12_readsCommand_58 : decode cX12_readsCommand 58 = .ok (.aload_n 0, 1) := by decide +kernel
theorem dX12_readsCommand_59 : decode cX12_readsCommand 59 = .ok (.invokevirtual 244, 3) := by decide +kernel
theorem dX12_readsCommand_62 : decode cX12_readsCommand 62 = .ok (.ifCond .eq 7, 3) := by decide +kernel
theorem dX12_readsCommand_65 : decode cX12_readsCommand 65 = .ok (.iconst 1, 1) := by decide +kernel
theorem dX12_readsCommand_66 : decode cX12_readsCommand 66 = .ok (.goto 4, 3) := by decide +kernel
theorem dX12_readsCommand_69 : decode cX12_readsCommand 69 = .ok (.iconst 0, 1) := by decide +kernel
theorem dX12_readsCommand_70 : decode cX12_readsCommand 70 = .ok (.ireturn, 1) := by decide +kernel
theorem dX12_readsCommand_71 : decode cX12_readsCommand 71 = .ok (.aload_n 0, 1) := by decide +kernel
theorem dX12_readsCommand_72 : decode cX12_readsCommand 72 = .ok (.bipush 99, 2) := by decide +kernel
theorem dX12_readsCommand_74 : decode cX12_readsCommand 74 = .ok (.invokevirtual 229, 3) := by decide +kernel
theorem dX12_readsCommand_77 : decode cX12_readsCommand 77 = .ok (.ifCond .eq 34, 3) := by decide +kernel
theorem dX12_readsCommand_80 : decode cX12_readsCommand 80 = .ok (.aload_n 0, 1) := by decide +kernel
theorem dX12_readsCommand_81 : decode cX12_readsCommand 81 = .ok (.bipush 117, 2) := by decide +kernel
theorem dX12_readsCommand_83 : decode cX12_readsCommand 83 = .ok (.invokevirtual 229, 3) := by decide +kernel
theorem dX12_readsCommand_86 : decode cX12_readsCommand 86 = .ok (.ifCond .eq 23, 3) := by decide +kernel
theorem dX12_readsCommand_89 : decode cX12_readsCommand 89 = .ok (.aload_n 0, 1) := by decide +kernel
theorem dX12_readsCommand_90 : decode cX12_readsCommand 90 = .ok (.bipush 116, 2) := by decide +kernel
theorem dX12_readsCommand_92 : decode cX12_readsCommand 92 = .ok (.invokevirtual 229, 3) := by decide +kernel
theorem dX12_readsCommand_95 : decode cX12_readsCommand 95 = .ok (.ifCond .eq 14, 3) := by decide +kernel
theorem dX12_readsCommand_98 : decode cX12_readsCommand 98 = .ok (.aload_n 0, 1) := by decide +kernel
theorem dX12_readsCommand_99 : decode cX12_readsCommand 99 = .ok (.invokevirtual 244, 3) := by decide +kernel
theorem dX12_readsCommand_102 : decode cX12_readsCommand 102 = .ok (.ifCond .eq 7, 3) := by decide +kernel
theorem dX12_readsCommand_105 : decode cX12_readsCommand 105 = .ok (.iconst 1, 1) := by decide +kernel
theorem dX12_readsCommand_106 : decode cX12_readsCommand 106 = .ok (.goto 4, 3) := by decide +kernel
theorem dX12_readsCommand_109 : decode cX12_readsCommand 109 = .ok (.iconst 0, 1) := by decide +kernel
theorem dX12_readsCommand_110 : decode cX12_readsCommand 110 = .ok (.ireturn, 1) := by decide +kernel
theorem dX12_readsCommand_111 : decode cX12_readsCommand 111 = .ok (.aload_n 0, 1) := by decide +kernel
theorem dX12_readsCommand_112 : decode cX12_readsCommand 112 = .ok (.bipush 104, 2) := by decide +kernel
theorem dX12_readsCommand_114 : decode cX12_readsCommand 114 = .ok (.invokevirtual 229, 3) := by decide +kernel
theorem dX12_readsCommand_117 : decode cX12_readsCommand 117 = .ok (.ifCond .eq 43, 3) := by decide +kernel
theorem dX12_readsCommand_120 : decode cX12_readsCommand 120 = .ok (.aload_n 0, 1) := by decide +kernel
theorem dX12_readsCommand_121 : decode cX12_readsCommand 121 = .ok (.bipush 105, 2) := by decide +kernel
theorem dX12_readsCommand_123 : decode cX12_readsCommand 123 = .ok (.invokevirtual 229, 3) := by decide +kernel
theorem dX12_readsCommand_126 : decode cX12_readsCommand 126 = .ok (.ifCond .eq 32, 3) := by decide +kernel
theorem dX12_readsCommand_129 : decode cX12_readsCommand 129 = .ok (.aload_n 0, 1) := by decide +kernel
theorem dX12_readsCommand_130 : decode cX12_readsCommand 130 = .ok (.bipush 100, 2) := by decide +kernel
theorem dX12_readsCommand_132 : decode cX12_readsCommand 132 = .ok (.invokevirtual 229, 3) := by decide +kernel
theorem dX12_readsCommand_135 : decode cX12_readsCommand 135 = .ok (.ifCond .eq 23, 3) := by decide +kernel
theorem dX12_readsCommand_138 : decode cX12_readsCommand 138 = .ok (.aload_n 0, 1) := by decide +kernel
theorem dX12_readsCommand_139 : decode cX12_readsCommand 139 = .ok (.bipush 101, 2) := by decide +kernel
theorem dX12_readsCommand_141 : decode cX12_readsCommand 141 = .ok (.invokevirtual 229, 3) := by decide +kernel
theorem dX12_readsCommand_144 : decode cX12_readsCommand 144 = .ok (.ifCond .eq 14, 3) := by decide +kernel
theorem dX12_readsCommand_147 : decode cX12_readsCommand 147 = .ok (.aload_n 0, 1) := by decide +kernel
theorem dX12_readsCommand_148 : decode cX12_readsCommand 148 = .ok (.invokevirtual 235, 3) := by decide +kernel
theorem dX12_readsCommand_151 : decode cX12_readsCommand 151 = .ok (.ifCond .eq 7, 3) := by decide +kernel
theorem dX12_readsCommand_154 : decode cX12_readsCommand 154 = .ok (.iconst 1, 1) := by decide +kernel
theorem dX12_readsCommand_155 : decode cX12_readsCommand 155 = .ok (.goto 4, 3) := by decide +kernel
theorem dX12_readsCommand_158 : decode cX12_readsCommand 158 = .ok (.iconst 0, 1) := by decide +kernel
theorem dX12_readsCommand_159 : decode cX12_readsCommand 159 = .ok (.ireturn, 1) := by decide +kernel
theorem dX12_readsCommand_160 : decode cX12_readsCommand 160 = .ok (.aload_n 0, 1) := by decide +kernel
theorem dX12_readsCommand_161 : decode cX12_readsCommand 161 = .ok (.bipush 102, 2) := by decide +kernel
theorem dX12_readsCommand_163 : decode cX12_readsCommand 163 = .ok (.invokevirtual 229, 3) := by decide +kernel
theorem dX12_readsCommand_166 : decode cX12_readsCommand 166 = .ok (.ifCond .eq 61, 3) := by decide +kernel
theorem dX12_readsCommand_169 : decode cX12_readsCommand 169 = .ok (.aload_n 0, 1) := by decide +kernel
theorem dX12_readsCommand_170 : decode cX12_readsCommand 170 = .ok (.bipush 105, 2) := by decide +kernel
theorem dX12_readsCommand_172 : decode cX12_readsCommand 172 = .ok (.invokevirtual 229, 3) := by decide +kernel
theorem dX12_readsCommand_175 : decode cX12_readsCommand 175 = .ok (.ifCond .eq 50, 3) := by decide +kernel
theorem dX12_readsCommand_178 : decode cX12_readsCommand 178 = .ok (.aload_n 0, 1) := by decide +kernel
theorem dX12_readsCommand_179 : decode cX12_readsCommand 179 = .ok (.bipush 108, 2) := by decide +kernel
theorem dX12_readsCommand_181 : decode cX12_readsCommand 181 = .ok (.invokevirtual 229, 3) := by decide +kernel
theorem dX12_readsCommand_184 : decode cX12_readsCommand 184 = .ok (.ifCond .eq 41, 3) := by decide +kernel
theorem dX12_readsCommand_187 : decode cX12_readsCommand 187 = .ok (.aload_n 0, 1) := by decide +kernel
theorem dX12_readsCommand_188 : decode cX12_readsCommand 188 = .ok (.bipush 108, 2) := by decide +kernel
theorem dX12_readsCommand_190 : decode cX12_readsCommand 190 = .ok (.invokevirtual 229, 3) := by decide +kernel
theorem dX12_readsCommand_193 : decode cX12_readsCommand 193 = .ok (.ifCond .eq 32, 3) := by decide +kernel
theorem dX12_readsCommand_196 : decode cX12_readsCommand 196 = .ok (.aload_n 0, 1) := by decide +kernel
theorem dX12_readsCommand_197 : decode cX12_readsCommand 197 = .ok (.invokevirtual 235, 3) := by decide +kernel
theorem dX12_readsCommand_200 : decode cX12_readsCommand 200 = .ok (.ifCond .eq 25, 3) := by decide +kernel
theorem dX12_readsCommand_203 : decode cX12_readsCommand 203 = .ok (.aload_n 0, 1) := by decide +kernel
theorem dX12_readsCommand_204 : decode cX12_readsCommand 204 = .ok (.bipush 32, 2) := by decide +kernel
theorem dX12_readsCommand_206 : decode cX12_readsCommand 206 = .ok (.invokevirtual 229, 3) := by decide +kernel
theorem dX12_readsCommand_209 : decode cX12_readsCommand 209 = .ok (.ifCond .eq 16, 3) := by decide +kernel
theorem dX12_readsCommand_212 : decode cX12_readsCommand 212 = .ok (.aload_n 0, 1) := by decide +kernel
theorem dX12_readsCommand_213 : decode cX12_readsCommand 213 = .ok (.iconst 1, 1) := by decide +kernel
theorem dX12_readsCommand_214 : decode cX12_readsCommand 214 = .ok (.iconst 2, 1) := by decide +kernel
theorem dX12_readsCommand_215 : decode cX12_readsCommand 215 = .ok (.invokevirtual 232, 3) := by decide +kernel
theorem dX12_readsCommand_218 : decode cX12_readsCommand 218 = .ok (.ifCond .eq 7, 3) := by decide +kernel
theorem dX12_readsCommand_221 : decode cX12_readsCommand 221 = .ok (.iconst 1, 1) := by decide +kernel
theorem dX12_readsCommand_222 : decode cX12_readsCommand 222 = .ok (.goto 4, 3) := by decide +kernel
theorem dX12_readsCommand_225 : decode cX12_readsCommand 225 = .ok (.iconst 0, 1) := by decide +kernel
theorem dX12_readsCommand_226 : decode cX12_readsCommand 226 = .ok (.ireturn, 1) := by decide +kernel
theorem dX12_readsCommand_227 : decode cX12_readsCommand 227 = .ok (.aload_n 0, 1) := by decide +kernel
theorem dX12_readsCommand_228 : decode cX12_readsCommand 228 = .ok (.bipush 100, 2) := by decide +kernel
theorem dX12_readsCommand_230 : decode cX12_readsCommand 230 = .ok (.invokevirtual 229, 3) := by decide +kernel
theorem dX12_readsCommand_233 : decode cX12_readsCommand 233 = .ok (.ifCond .eq 54, 3) := by decide +kernel
theorem dX12_readsCommand_236 : decode cX12_readsCommand 236 = .ok (.aload_n 0, 1) := by decide +kernel
theorem dX12_readsCommand_237 : decode cX12_readsCommand 237 = .ok (.bipush 114, 2) := by decide +kernel
theorem dX12_readsCommand_239 : decode cX12_readsCommand 239 = .ok (.invokevirtual 229, 3) := by decide +kernel
theorem dX12_readsCommand_242 : decode cX12_readsCommand 242 = .ok (.ifCond .eq 43, 3) := by decide +kernel
theorem dX12_readsCommand_245 : decode cX12_readsCommand 245 = .ok (.aload_n 0, 1) := by decide +kernel
theorem dX12_readsCommand_246 : decode cX12_readsCommand 246 = .ok (.bipush 111, 2) := by decide +kernel
theorem dX12_readsCommand_248 : decode cX12_readsCommand 248 = .ok (.invokevirtual 229, 3) := by decide +kernel
theorem dX12_readsCommand_251 : decode cX12_readsCommand 251 = .ok (.ifCond .eq 34, 3) := by decide +kernel
theorem dX12_readsCommand_254 : decode cX12_readsCommand 254 = .ok (.aload_n 0, 1) := by decide +kernel
theorem dX12_readsCommand_255 : decode cX12_readsCommand 255 = .ok (.bipush 112, 2) := by decide +kernel
theorem dX12_readsCommand_257 : decode cX12_readsCommand 257 = .ok (.invokevirtual 229, 3) := by decide +kernel
theorem dX12_readsCommand_260 : decode cX12_readsCommand 260 = .ok (.ifCond .eq 25, 3) := by decide +kernel
theorem dX12_readsCommand_263 : decode cX12_readsCommand 263 = .ok (.aload_n 0, 1) := by decide +kernel
theorem dX12_readsCommand_264 : decode cX12_readsCommand 264 = .ok (.bipush 32, 2) := by decide +kernel
theorem dX12_readsCommand_266 : decode cX12_readsCommand 266 = .ok (.invokevirtual 229, 3) := by decide +kernel
theorem dX12_readsCommand_269 : decode cX12_readsCommand 269 = .ok (.ifCond .eq 16, 3) := by decide +kernel
theorem dX12_readsCommand_272 : decode cX12_readsCommand 272 = .ok (.aload_n 0, 1) := by decide +kernel
theorem dX12_readsCommand_273 : decode cX12_readsCommand 273 = .ok (.iconst 0, 1) := by decide +kernel
theorem dX12_readsCommand_274 : decode cX12_readsCommand 274 = .ok (.iconst 1, 1) := by decide +kernel
theorem dX12_readsCommand_275 : decode cX12_readsCommand 275 = .ok (.invokevirtual 232, 3) := by decide +kernel
theorem dX12_readsCommand_278 : decode cX12_readsCommand 278 = .ok (.ifCond .eq 7, 3) := by decide +kernel
theorem dX12_readsCommand_281 : decode cX12_readsCommand 281 = .ok (.iconst 1, 1) := by decide +kernel
theorem dX12_readsCommand_282 : decode cX12_readsCommand 282 = .ok (.goto 4, 3) := by decide +kernel
theorem dX12_readsCommand_285 : decode cX12_readsCommand 285 = .ok (.iconst 0, 1) := by decide +kernel
theorem dX12_readsCommand_286 : decode cX12_readsCommand 286 = .ok (.ireturn, 1) := by decide +kernel
theorem dX12_readsCommand_287 : decode cX12_readsCommand 287 = .ok (.aload_n 0, 1) := by decide +kernel
theorem dX12_readsCommand_288 : decode cX12_readsCommand 288 = .ok (.bipush 114, 2) := by decide +kernel
theorem dX12_readsCommand_290 : decode cX12_readsCommand 290 = .ok (.invokevirtual 229, 3) := by decide +kernel
theorem dX12_readsCommand_293 : decode cX12_readsCommand 293 = .ok (.ifCond .eq 43, 3) := by decide +kernel
theorem dX12_readsCommand_296 : decode cX12_readsCommand 296 = .ok (.aload_n 0, 1) := by decide +kernel
theorem dX12_readsCommand_297 : decode cX12_readsCommand 297 = .ok (.bipush 97, 2) := by decide +kernel
theorem dX12_readsCommand_299 : decode cX12_readsCommand 299 = .ok (.invokevirtual 229, 3) := by decide +kernel
theorem dX12_readsCommand_302 : decode cX12_readsCommand 302 = .ok (.ifCond .eq 32, 3) := by decide +kernel
theorem dX12_readsCommand_305 : decode cX12_readsCommand 305 = .ok (.aload_n 0, 1) := by decide +kernel
theorem dX12_readsCommand_306 : decode cX12_readsCommand 306 = .ok (.bipush 116, 2) := by decide +kernel
theorem dX12_readsCommand_308 : decode cX12_readsCommand 308 = .ok (.invokevirtual 229, 3) := by decide +kernel
theorem dX12_readsCommand_311 : decode cX12_readsCommand 311 = .ok (.ifCond .eq 23, 3) := by decide +kernel
theorem dX12_readsCommand_314 : decode cX12_readsCommand 314 = .ok (.aload_n 0, 1) := by decide +kernel
theorem dX12_readsCommand_315 : decode cX12_readsCommand 315 = .ok (.bipush 101, 2) := by decide +kernel
theorem dX12_readsCommand_317 : decode cX12_readsCommand 317 = .ok (.invokevirtual 229, 3) := by decide +kernel
theorem dX12_readsCommand_320 : decode cX12_readsCommand 320 = .ok (.ifCond .eq 14, 3) := by decide +kernel
theorem dX12_readsCommand_323 : decode cX12_readsCommand 323 = .ok (.aload_n 0, 1) := by decide +kernel
theorem dX12_readsCommand_324 : decode cX12_readsCommand 324 = .ok (.invokevirtual 235, 3) := by decide +kernel
theorem dX12_readsCommand_327 : decode cX12_readsCommand 327 = .ok (.ifCond .eq 7, 3) := by decide +kernel
theorem dX12_readsCommand_330 : decode cX12_readsCommand 330 = .ok (.iconst 1, 1) := by decide +kernel
theorem dX12_readsCommand_331 : decode cX12_readsCommand 331 = .ok (.goto 4, 3) := by decide +kernel
theorem dX12_readsCommand_334 : decode cX12_readsCommand 334 = .ok (.iconst 0, 1) := by decide +kernel
theorem dX12_readsCommand_335 : decode cX12_readsCommand 335 = .ok (.ireturn, 1) := by decide +kernel
theorem dX12_readsCommand_336 : decode cX12_readsCommand 336 = .ok (.aload_n 0, 1) := by decide +kernel
theorem dX12_readsCommand_337 : decode cX12_readsCommand 337 = .ok (.bipush 119, 2) := by decide +kernel
theorem dX12_readsCommand_339 : decode cX12_readsCommand 339 = .ok (.invokevirtual 229, 3) := by decide +kernel
theorem dX12_readsCommand_342 : decode cX12_readsCommand 342 = .ok (.ifCond .eq 41, 3) := by decide +kernel
theorem dX12_readsCommand_345 : decode cX12_readsCommand 345 = .ok (.aload_n 0, 1) := by decide +kernel
theorem dX12_readsCommand_346 : decode cX12_readsCommand 346 = .ok (.bipush 97, 2) := by decide +kernel
theorem dX12_readsCommand_348 : decode cX12_readsCommand 348 = .ok (.invokevirtual 229, 3) := by decide +kernel
theorem dX12_readsCommand_351 : decode cX12_readsCommand 351 = .ok (.ifCond .eq 32, 3) := by decide +kernel
theorem dX12_readsCommand_354 : decode cX12_readsCommand 354 = .ok (.aload_n 0, 1) := by decide +kernel
theorem dX12_readsCommand_355 : decode cX12_readsCommand 355 = .ok (.bipush 105, 2) := by decide +kernel
theorem dX12_readsCommand_357 : decode cX12_readsCommand 357 = .ok (.invokevirtual 229, 3) := by decide +kernel
theorem dX12_readsCommand_360 : decode cX12_readsCommand 360 = .ok (.ifCond .eq 23, 3) := by decide +kernel
theorem dX12_readsCommand_363 : decode cX12_readsCommand 363 = .ok (.aload_n 0, 1) := by decide +kernel
theorem dX12_readsCommand_364 : decode cX12_readsCommand 364 = .ok (.bipush 116, 2) := by decide +kernel
theorem dX12_readsCommand_366 : decode cX12_readsCommand 366 = .ok (.invokevirtual 229, 3) := by decide +kernel
theorem dX12_readsCommand_369 : decode cX12_readsCommand 369 = .ok (.ifCond .eq 14, 3) := by decide +kernel
theorem dX12_readsCommand_372 : decode cX12_readsCommand 372 = .ok (.aload_n 0, 1) := by decide +kernel
