theorem dX1_init_0 : decode cX1_init 0 = .ok (.aload_n 0, 1) := by decide +kernel
theorem dX1_init_1 : decode cX1_init 1 = .ok (.invokespecial 3, 3) := by decide +kernel
theorem dX1_init_4 : decode cX1_init 4 = .ok (.aload_n 0, 1) := by decide +kernel
theorem dX1_init_5 : decode cX1_init 5 = .ok (.sipush 144, 3) := by decide +kernel
theorem dX1_init_8 : decode cX1_init 8 = .ok (.newarray .int, 2) := by decide +kernel
theorem dX1_init_10 : decode cX1_init 10 = .ok (.putfield 9, 3) := by decide +kernel
theorem dX1_init_13 : decode cX1_init 13 = .ok (.return_, 1) := by decide +kernel
theorem dX1_stepsBetween_0 : decode cX1_stepsBetween 0 = .ok (.aload_n 0, 1) := by decide +kernel
theorem dX1_stepsBetween_1 : decode cX1_stepsBetween 1 = .ok (.aload_n 1, 1) := by decide +kernel
theorem dX1_stepsBetween_2 : decode cX1_stepsBetween 2 = .ok (.invokevirtual 15, 3) := by decide +kernel
theorem dX1_stepsBetween_5 : decode cX1_stepsBetween 5 = .ok (.iconst 0, 1) := by decide +kernel
theorem dX1_stepsBetween_6 : decode cX1_stepsBetween 6 = .ok (.istore 4, 2) := by decide +kernel
theorem dX1_stepsBetween_8 : decode cX1_stepsBetween 8 = .ok (.iload 4, 2) := by decide +kernel
theorem dX1_stepsBetween_10 : decode cX1_stepsBetween 10 = .ok (.aload_n 1, 1) := by decide +kernel
theorem dX1_stepsBetween_11 : decode cX1_stepsBetween 11 = .ok (.getfield 19, 3) := by decide +kernel
theorem dX1_stepsBetween_14 : decode cX1_stepsBetween 14 = .ok (.if_icmp .ge 19, 3) := by decide +kernel
theorem dX1_stepsBetween_17 : decode cX1_stepsBetween 17 = .ok (.aload_n 0, 1) := by decide +kernel
theorem dX1_stepsBetween_18 : decode cX1_stepsBetween 18 = .ok (.aload_n 1, 1) := by decide +kernel
theorem dX1_stepsBetween_19 : decode cX1_stepsBetween 19 = .ok (.getfield 19, 3) := by decide +kernel
theorem dX1_stepsBetween_22 : decode cX1_stepsBetween 22 = .ok (.iload 4, 2) := by decide +kernel
theorem dX1_stepsBetween_24 : decode cX1_stepsBetween 24 = .ok (.invokevirtual 25, 3) := by decide +kernel
theorem dX1_stepsBetween_27 : decode cX1_stepsBetween 27 = .ok (.iinc 4 1, 3) := by decide +kernel
theorem dX1_stepsBetween_30 : decode cX1_stepsBetween 30 = .ok (.goto (-22), 3) := by decide +kernel
theorem dX1_stepsBetween_33 : decode cX1_stepsBetween 33 = .ok (.aload_n 0, 1) := by decide +kernel
theorem dX1_stepsBetween_34 : decode cX1_stepsBetween 34 = .ok (.getfield 9, 3) := by decide +kernel
theorem dX1_stepsBetween_37 : decode cX1_stepsBetween 37 = .ok (.aload_n 0, 1) := by decide +kernel
theorem dX1_stepsBetween_38 : decode cX1_stepsBetween 38 = .ok (.iload_n 2, 1) := by decide +kernel
theorem dX1_stepsBetween_39 : decode cX1_stepsBetween 39 = .ok (.iload_n 3, 1) := by decide +kernel
theorem dX1_stepsBetween_40 : decode cX1_stepsBetween 40 = .ok (.invokevirtual 29, 3) := by decide +kernel
theorem dX1_stepsBetween_43 : decode cX1_stepsBetween 43 = .ok (.invokestatic 33, 3) := by decide +kernel
theorem dX1_stepsBetween_46 : decode cX1_stepsBetween 46 = .ok (.ireturn, 1) := by decide +kernel
theorem dX1_place_0 : decode cX1_place 0 = .ok (.iload_n 1, 1) := by decide +kernel
theorem dX1_place_1 : decode cX1_place 1 = .ok (.bipush 12, 2) := by decide +kernel
theorem dX1_place_3 : decode cX1_place 3 = .ok (.imul, 1) := by decide +kernel
theorem dX1_place_4 : decode cX1_place 4 = .ok (.iload_n 2, 1) := by decide +kernel
theorem dX1_place_5 : decode cX1_place 5 = .ok (.iadd, 1) := by decide +kernel
theorem dX1_place_6 : decode cX1_place 6 = .ok (.ireturn, 1) := by decide +kernel
theorem dX1_start_0 : decode cX1_start 0 = .ok (.iconst 0, 1) := by decide +kernel
theorem dX1_start_1 : decode cX1_start 1 = .ok (.istore_n 2, 1) := by decide +kernel
theorem dX1_start_2 : decode cX1_start 2 = .ok (.iload_n 2, 1) := by decide +kernel
theorem dX1_start_3 : decode cX1_start 3 = .ok (.aload_n 1, 1) := by decide +kernel
theorem dX1_start_4 : decode cX1_start 4 = .ok (.getfield 19, 3) := by decide +kernel
theorem dX1_start_7 : decode cX1_start 7 = .ok (.if_icmp .ge 67, 3) := by decide +kernel
theorem dX1_start_10 : decode cX1_start 10 = .ok (.iconst 0, 1) := by decide +kernel
theorem dX1_start_11 : decode cX1_start 11 = .ok (.istore_n 3, 1) := by decide +kernel
theorem dX1_start_12 : decode cX1_start 12 = .ok (.iload_n 3, 1) := by decide +kernel
theorem dX1_start_13 : decode cX1_start 13 = .ok (.aload_n 1, 1) := by decide +kernel
theorem dX1_start_14 : decode cX1_start 14 = .ok (.getfield 19, 3) := by decide +kernel
theorem dX1_start_17 : decode cX1_start 17 = .ok (.if_icmp .ge 51, 3) := by decide +kernel
theorem dX1_start_20 : decode cX1_start 20 = .ok (.aload_n 1, 1) := by decide +kernel
theorem dX1_start_21 : decode cX1_start 21 = .ok (.iload_n 2, 1) := by decide +kernel
theorem dX1_start_22 : decode cX1_start 22 = .ok (.iload_n 3, 1) := by decide +kernel
theorem dX1_start_23 : decode cX1_start 23 = .ok (.invokevirtual 37, 3) := by decide +kernel
theorem dX1_start_26 : decode cX1_start 26 = .ok (.ifCond .eq 7, 3) := by decide +kernel
theorem dX1_start_29 : decode cX1_start 29 = .ok (.iconst 1, 1) := by decide +kernel
theorem dX1_start_30 : decode cX1_start 30 = .ok (.goto 6, 3) := by decide +kernel
theorem dX1_start_33 : decode cX1_start 33 = .ok (.sipush 1000, 3) := by decide +kernel
theorem dX1_start_36 : decode cX1_start 36 = .ok (.istore 4, 2) := by decide +kernel
theorem dX1_start_38 : decode cX1_start 38 = .ok (.aload_n 0, 1) := by decide +kernel
theorem dX1_start_39 : decode cX1_start 39 = .ok (.getfield 9, 3) := by decide +kernel
theorem dX1_start_42 : decode cX1_start 42 = .ok (.aload_n 0, 1) := by decide +kernel
theorem dX1_start_43 : decode cX1_start 43 = .ok (.iload_n 2, 1) := by decide +kernel
theorem dX1_start_44 : decode cX1_start 44 = .ok (.iload_n 3, 1) := by decide +kernel
theorem dX1_start_45 : decode cX1_start 45 = .ok (.invokevirtual 29, 3) := by decide +kernel
theorem dX1_start_48 : decode cX1_start 48 = .ok (.iload_n 2, 1) := by decide +kernel
theorem dX1_start_49 : decode cX1_start 49 = .ok (.iload_n 3, 1) := by decide +kernel
theorem dX1_start_50 : decode cX1_start 50 = .ok (.if_icmp .ne 7, 3) := by decide +kernel
theorem dX1_start_53 : decode cX1_start 53 = .ok (.iconst 0, 1) := by decide +kernel
theorem dX1_start_54 : decode cX1_start 54 = .ok (.goto 5, 3) := by decide +kernel
theorem dX1_start_57 : decode cX1_start 57 = .ok (.iload 4, 2) := by decide +kernel
theorem dX1_start_59 : decode cX1_start 59 = .ok (.invokestatic 41, 3) := by decide +kernel
theorem dX1_start_62 : decode cX1_start 62 = .ok (.iinc 3 1, 3) := by decide +kernel
theorem dX1_start_65 : decode cX1_start 65 = .ok (.goto (-53), 3) := by decide +kernel
theorem dX1_start_68 : decode cX1_start 68 = .ok (.iinc 2 1, 3) := by decide +kernel
theorem dX1_start_71 : decode cX1_start 71 = .ok (.goto (-69), 3) := by decide +kernel
theorem dX1_start_74 : decode cX1_start 74 = .ok (.return_, 1) := by decide +kernel
theorem dX1_improve_0 : decode cX1_improve 0 = .ok (.iconst 0, 1) := by decide +kernel
theorem dX1_improve_1 : decode cX1_improve 1 = .ok (.istore_n 3, 1) := by decide +kernel
theorem dX1_improve_2 : decode cX1_improve 2 = .ok (.iload_n 3, 1) := by decide +kernel
theorem dX1_improve_3 : decode cX1_improve 3 = .ok (.iload_n 1, 1) := by decide +kernel
theorem dX1_improve_4 : decode cX1_improve 4 = .ok (.if_icmp .ge 91, 3) := by decide +kernel
theorem dX1_improve_7 : decode cX1_improve 7 = .ok (.iconst 0, 1) := by decide +kernel
theorem dX1_improve_8 : decode cX1_improve 8 = .ok (.istore 4, 2) := by decide +kernel
theorem dX1_improve_10 : decode cX1_improve 10 = .ok (.iload 4, 2) := by decide +kernel
theorem dX1_improve_12 : decode cX1_improve 12 = .ok (.iload_n 1, 1) := by decide +kernel
theorem dX1_improve_13 : decode cX1_improve 13 = .ok (.if_icmp .ge 76, 3) := by decide +kernel
theorem dX1_improve_16 : decode cX1_improve 16 = .ok (.aload_n 0, 1) := by decide +kernel
theorem dX1_improve_17 : decode cX1_improve 17 = .ok (.getfield 9, 3) := by decide +kernel
theorem dX1_improve_20 : decode cX1_improve 20 = .ok (.aload_n 0, 1) := by decide +kernel
theorem dX1_improve_21 : decode cX1_improve 21 = .ok (.iload_n 3, 1) := by decide +kernel
theorem dX1_improve_22 : decode cX1_improve 22 = .ok (.iload_n 2, 1) := by decide +kernel
theorem dX1_improve_23 : decode cX1_improve 23 = .ok (.invokevirtual 29, 3) := by decide +kernel
theorem dX1_improve_26 : decode cX1_improve 26 = .ok (.invokestatic 33, 3) := by decide +kernel
theorem dX1_improve_29 : decode cX1_improve 29 = .ok (.aload_n 0, 1) := by decide +kernel
theorem dX1_improve_30 : decode cX1_improve 30 = .ok (.getfield 9, 3) := by decide +kernel
theorem dX1_improve_33 : decode cX1_improve 33 = .ok (.aload_n 0, 1) := by decide +kernel
theorem dX1_improve_34 : decode cX1_improve 34 = .ok (.iload_n 2, 1) := by decide +kernel
theorem dX1_improve_35 : decode cX1_improve 35 = .ok (.iload 4, 2) := by decide +kernel
theorem dX1_improve_37 : decode cX1_improve 37 = .ok (.invokevirtual 29, 3) := by decide +kernel
theorem dX1_improve_40 : decode cX1_improve 40 = .ok (.invokestatic 33, 3) := by decide +kernel
theorem dX1_improve_43 : decode cX1_improve 43 = .ok (.iadd, 1) := by decide +kernel
theorem dX1_improve_44 : decode cX1_improve 44 = .ok (.istore 5, 2) := by decide +kernel
theorem dX1_improve_46 : decode cX1_improve 46 = .ok (.aload_n 0, 1) := by decide +kernel
theorem dX1_improve_47 : decode cX1_improve 47 = .ok (.getfield 9, 3) := by decide +kernel
theorem dX1_improve_50 : decode cX1_improve 50 = .ok (.aload_n 0, 1) := by decide +kernel
theorem dX1_improve_51 : decode cX1_improve 51 = .ok (.iload_n 3, 1) := by decide +kernel
theorem dX1_improve_52 : decode cX1_improve 52 = .ok (.iload 4, 2) := by decide +kernel
theorem dX1_improve_54 : decode cX1_improve 54 = .ok (.invokevirtual 29, 3) := by decide +kernel
theorem dX1_improve_57 : decode cX1_improve 57 = .ok (.invokestatic 33, 3) := by decide +kernel
theorem dX1_improve_60 : decode cX1_improve 60 = .ok (.istore 6, 2) := by decide +kernel
theorem dX1_improve_62 : decode cX1_improve 62 = .ok (.aload_n 0, 1) := by decide +kernel
theorem dX1_improve_63 : decode cX1_improve 63 = .ok (.getfield 9, 3) := by decide +kernel
theorem dX1_improve_66 : decode cX1_improve 66 = .ok (.aload_n 0, 1) := by decide +kernel
theorem dX1_improve_67 : decode cX1_improve 67 = .ok (.iload_n 3, 1) := by decide +kernel
theorem dX1_improve_68 : decode cX1_improve 68 = .ok (.iload 4, 2) := by decide +kernel
theorem dX1_improve_70 : decode cX1_improve 70 = .ok (.invokevirtual 29, 3) := by decide +kernel
theorem dX1_improve_73 : decode cX1_improve 73 = .ok (.iload 6, 2) := by decide +kernel
theorem dX1_improve_75 : decode cX1_improve 75 = .ok (.iload 5, 2) := by decide +kernel
theorem dX1_improve_77 : decode cX1_improve 77 = .ok (.invokestatic 45, 3) := by decide +kernel
theorem dX1_improve_80 : decode cX1_improve 80 = .ok (.invokestatic 41, 3) := by decide +kernel
theorem dX1_improve_83 : decode cX1_improve 83 = .ok (.iinc 4 1, 3) := by decide +kernel
theorem dX1_improve_86 : decode cX1_improve 86 = .ok (.goto (-76), 3) := by decide +kernel
theorem dX1_improve_89 : decode cX1_improve 89 = .ok (.iinc 3 1, 3) := by decide +kernel
theorem dX1_improve_92 : decode cX1_improve 92 = .ok (.goto (-90), 3) := by decide +kernel
theorem dX1_improve_95 : decode cX1_improve 95 = .ok (.return_, 1) := by decide +kernel
theorem dX2_init_0 : decode cX2_init 0 = .ok (.aload_n 0, 1) := by decide +kernel
theorem dX2_init_1 : decode cX2_init 1 = .ok (.invokespecial 3, 3) := by decide +kernel
theorem dX2_init_4 : decode cX2_init 4 = .ok (.aload_n 0, 1) := by decide +kernel
theorem dX2_init_5 : decode cX2_init 5 = .ok (.bipush 8, 2) := by decide +kernel
theorem dX2_init_7 : decode cX2_init 7 = .ok (.anewarray 9, 3) := by decide +kernel
theorem dX2_init_10 : decode cX2_init 10 = .ok (.putfield 11, 3) := by decide +kernel
theorem dX2_init_13 : decode cX2_init 13 = .ok (.iconst 0, 1) := by decide +kernel
theorem dX2_init_14 : decode cX2_init 14 = .ok (.istore_n 1, 1) := by decide +kernel
theorem dX2_init_15 : decode cX2_init 15 = .ok (.iload_n 1, 1) := by decide +kernel
theorem dX2_init_16 : decode cX2_init 16 = .ok (.aload_n 0, 1) := by decide +kernel
theorem dX2_init_17 : decode cX2_init 17 = .ok (.getfield 11, 3) := by decide +kernel
theorem dX2_init_20 : decode cX2_init 20 = .ok (.arraylength, 1) := by decide +kernel
theorem dX2_init_21 : decode cX2_init 21 = .ok (.if_icmp .ge 22, 3) := by decide +kernel
theorem dX2_init_24 : decode cX2_init 24 = .ok (.aload_n 0, 1) := by decide +kernel
theorem dX2_init_25 : decode cX2_init 25 = .ok (.getfield 11, 3) := by decide +kernel
theorem dX2_init_28 : decode cX2_init 28 = .ok (.iload_n 1, 1) := by decide +kernel
theorem dX2_init_29 : decode cX2_init 29 = .ok (.new 9, 3) := by decide +kernel
theorem dX2_init_32 : decode cX2_init 32 = .ok (.dup, 1) := by decide +kernel
theorem dX2_init_33 : decode cX2_init 33 = .ok (.invokespecial 17, 3) := by decide +kernel
theorem dX2_init_36 : decode cX2_init 36 = .ok (.aastore, 1) := by decide +kernel
theorem dX2_init_37 : decode cX2_init 37 = .ok (.iinc 1 1, 3) := by decide +kernel
theorem dX2_init_40 : decode cX2_init 40 = .ok (.goto (-25), 3) := by decide +kernel
theorem dX2_init_43 : decode cX2_init 43 = .ok (.return_, 1) := by decide +kernel
theorem dX2_push_0 : decode cX2_push 0 = .ok (.aload_n 0, 1) := by decide +kernel
theorem dX2_push_1 : decode cX2_push 1 = .ok (.aload_n 0, 1) := by decide +kernel
theorem dX2_push_2 : decode cX2_push 2 = .ok (.getfield 18, 3) := by decide +kernel
theorem dX2_push_5 : decode cX2_push 5 = .ok (.invokevirtual 22, 3) := by decide +kernel
theorem dX2_push_8 : decode cX2_push 8 = .ok (.astore_n 2, 1) := by decide +kernel
theorem dX2_push_9 : decode cX2_push 9 = .ok (.aload_n 2, 1) := by decide +kernel
theorem dX2_push_10 : decode cX2_push 10 = .ok (.ifnull 8, 3) := by decide +kernel
theorem dX2_push_13 : decode cX2_push 13 = .ok (.aload_n 2, 1) := by decide +kernel
theorem dX2_push_14 : decode cX2_push 14 = .ok (.aload_n 1, 1) := by decide +kernel
theorem dX2_push_15 : decode cX2_push 15 = .ok (.invokevirtual 26, 3) := by decide +kernel
theorem dX2_push_18 : decode cX2_push 18 = .ok (.aload_n 0, 1) := by decide +kernel
theorem dX2_push_19 : decode cX2_push 19 = .ok (.getfield 18, 3) := by decide +kernel
theorem dX2_push_22 : decode cX2_push 22 = .ok (.bipush 8, 2) := by decide +kernel
theorem dX2_push_24 : decode cX2_push 24 = .ok (.if_icmp .ge 16, 3) := by decide +kernel
theorem dX2_push_27 : decode cX2_push 27 = .ok (.aload_n 0, 1) := by decide +kernel
theorem dX2_push_28 : decode cX2_push 28 = .ok (.dup, 1) := by decide +kernel
theorem dX2_push_29 : decode cX2_push 29 = .ok (.getfield 18, 3) := by decide +kernel
theorem dX2_push_32 : decode cX2_push 32 = .ok (.iconst 1, 1) := by decide +kernel
theorem dX2_push_33 : decode cX2_push 33 = .ok (.iadd, 1) := by decide +kernel
theorem dX2_push_34 : decode cX2_push 34 = .ok (.putfield 18, 3) := by decide +kernel
theorem dX2_push_37 : decode cX2_push 37 = .ok (.goto 16, 3) := by decide +kernel
theorem dX2_push_40 : decode cX2_push 40 = .ok (.aload_n 0, 1) := by decide +kernel
theorem dX2_push_41 : decode cX2_push 41 = .ok (.aload_n 0, 1) := by decide +kernel
theorem dX2_push_42 : decode cX2_push 42 = .ok (.getfield 30, 3) := by decide +kernel
theorem dX2_push_45 : decode cX2_push 45 = .ok (.iconst 1, 1) := by decide +kernel
theorem dX2_push_46 : decode cX2_push 46 = .ok (.iadd, 1) := by decide +kernel
theorem dX2_push_47 : decode cX2_push 47 = .ok (.bipush 8, 2) := by decide +kernel
theorem dX2_push_49 : decode cX2_push 49 = .ok (.irem, 1) := by decide +kernel
theorem dX2_push_50 : decode cX2_push 50 = .ok (.putfield 30, 3) := by decide +kernel
theorem dX2_push_53 : decode cX2_push 53 = .ok (.return_, 1) := by decide +kernel
theorem dX2_pop_0 : decode cX2_pop 0 = .ok (.aload_n 0, 1) := by decide +kernel
theorem dX2_pop_1 : decode cX2_pop 1 = .ok (.dup, 1) := by decide +kernel
theorem dX2_pop_2 : decode cX2_pop 2 = .ok (.getfield 18, 3) := by decide +kernel
theorem dX2_pop_5 : decode cX2_pop 5 = .ok (.iconst 1, 1) := by decide +kernel
theorem dX2_pop_6 : decode cX2_pop 6 = .ok (.isub, 1) := by decide +kernel
theorem dX2_pop_7 : decode cX2_pop 7 = .ok (.putfield 18, 3) := by decide +kernel
theorem dX2_pop_10 : decode cX2_pop 10 = .ok (.aload_n 0, 1) := by decide +kernel
theorem dX2_pop_11 : decode cX2_pop 11 = .ok (.aload_n 0, 1) := by decide +kernel
theorem dX2_pop_12 : decode cX2_pop 12 = .ok (.getfield 18, 3) := by decide +kernel
theorem dX2_pop_15 : decode cX2_pop 15 = .ok (.invokevirtual 22, 3) := by decide +kernel
theorem dX2_pop_18 : decode cX2_pop 18 = .ok (.astore_n 2, 1) := by decide +kernel
theorem dX2_pop_19 : decode cX2_pop 19 = .ok (.aload_n 2, 1) := by decide +kernel
theorem dX2_pop_20 : decode cX2_pop 20 = .ok (.ifnull 8, 3) := by decide +kernel
theorem dX2_pop_23 : decode cX2_pop 23 = .ok (.aload_n 1, 1) := by decide +kernel
theorem dX2_pop_24 : decode cX2_pop 24 = .ok (.aload_n 2, 1) := by decide +kernel
theorem dX2_pop_25 : decode cX2_pop 25 = .ok (.invokevirtual 26, 3) := by decide +kernel
theorem dX2_pop_28 : decode cX2_pop 28 = .ok (.return_, 1) := by decide +kernel
theorem dX2_earlierAt_0 : decode cX2_earlierAt 0 = .ok (.aload_n 0, 1) := by decide +kernel
theorem dX2_earlierAt_1 : decode cX2_earlierAt 1 = .ok (.getfield 30, 3) := by decide +kernel
theorem dX2_earlierAt_4 : decode cX2_earlierAt 4 = .ok (.iload_n 1, 1) := by decide +kernel
theorem dX2_earlierAt_5 : decode cX2_earlierAt 5 = .ok (.iadd, 1) := by decide +kernel
theorem dX2_earlierAt_6 : decode cX2_earlierAt 6 = .ok (.bipush 8, 2) := by decide +kernel
theorem dX2_earlierAt_8 : decode cX2_earlierAt 8 = .ok (.irem, 1) := by decide +kernel
theorem dX2_earlierAt_9 : decode cX2_earlierAt 9 = .ok (.istore_n 2, 1) := by decide +kernel
theorem dX2_earlierAt_10 : decode cX2_earlierAt 10 = .ok (.iload_n 2, 1) := by decide +kernel
theorem dX2_earlierAt_11 : decode cX2_earlierAt 11 = .ok (.ifCond .lt 21, 3) := by decide +kernel
theorem dX2_earlierAt_14 : decode cX2_earlierAt 14 = .ok (.iload_n 2, 1) := by decide +kernel
theorem dX2_earlierAt_15 : decode cX2_earlierAt 15 = .ok (.aload_n 0, 1) := by decide +kernel
theorem dX2_earlierAt_16 : decode cX2_earlierAt 16 = .ok (.getfield 11, 3) := by decide +kernel
theorem dX2_earlierAt_19 : decode cX2_earlierAt 19 = .ok (.arraylength, 1) := by decide +kernel
theorem dX2_earlierAt_20 : decode cX2_earlierAt 20 = .ok (.if_icmp .ge 12, 3) := by decide +kernel
theorem dX2_earlierAt_23 : decode cX2_earlierAt 23 = .ok (.aload_n 0, 1) := by decide +kernel
theorem dX2_earlierAt_24 : decode cX2_earlierAt 24 = .ok (.getfield 11, 3) := by decide +kernel
theorem dX2_earlierAt_27 : decode cX2_earlierAt 27 = .ok (.iload_n 2, 1) := by decide +kernel
theorem dX2_earlierAt_28 : decode cX2_earlierAt 28 = .ok (.aaload, 1) := by decide +kernel
theorem dX2_earlierAt_29 : decode cX2_earlierAt 29 = .ok (.goto 4, 3) := by decide +kernel
theorem dX2_earlierAt_32 : decode cX2_earlierAt 32 = .ok (.aconst_null, 1) := by decide +kernel
theorem dX2_earlierAt_33 : decode cX2_earlierAt 33 = .ok (.areturn, 1) := by decide +kernel
theorem dX2_clear_0 : decode cX2_clear 0 = .ok (.aload_n 0, 1) := by decide +kernel
theorem dX2_clear_1 : decode cX2_clear 1 = .ok (.iconst 0, 1) := by decide +kernel
theorem dX2_clear_2 : decode cX2_clear 2 = .ok (.putfield 30, 3) := by decide +kernel
theorem dX2_clear_5 : decode cX2_clear 5 = .ok (.aload_n 0, 1) := by decide +kernel
theorem dX2_clear_6 : decode cX2_clear 6 = .ok (.iconst 0, 1) := by decide +kernel
theorem dX2_clear_7 : decode cX2_clear 7 = .ok (.putfield 18, 3) := by decide +kernel
theorem dX2_clear_10 : decode cX2_clear 10 = .ok (.return_, 1) := by decide +kernel
theorem dX3_init_0 : decode cX3_init 0 = .ok (.aload_n 0, 1) := by decide +kernel
theorem dX3_init_1 : decode cX3_init 1 = .ok (.invokespecial 3, 3) := by decide +kernel
theorem dX3_init_4 : decode cX3_init 4 = .ok (.aload_n 0, 1) := by decide +kernel
theorem dX3_init_5 : decode cX3_init 5 = .ok (.new 9, 3) := by decide +kernel
theorem dX3_init_8 : decode cX3_init 8 = .ok (.dup, 1) := by decide +kernel
theorem dX3_init_9 : decode cX3_init 9 = .ok (.invokespecial 11, 3) := by decide +kernel
theorem dX3_init_12 : decode cX3_init 12 = .ok (.putfield 12, 3) := by decide +kernel
theorem dX3_init_15 : decode cX3_init 15 = .ok (.aload_n 0, 1) := by decide +kernel
theorem dX3_init_16 : decode cX3_init 16 = .ok (.new 18, 3) := by decide +kernel
theorem dX3_init_19 : decode cX3_init 19 = .ok (.dup, 1) := by decide +kernel
theorem dX3_init_20 : decode cX3_init 20 = .ok (.invokespecial 20, 3) := by decide +kernel
theorem dX3_init_23 : decode cX3_init 23 = .ok (.putfield 21, 3) := by decide +kernel
theorem dX3_init_26 : decode cX3_init 26 = .ok (.aload_n 0, 1) := by decide +kernel
theorem dX3_init_27 : decode cX3_init 27 = .ok (.new 25, 3) := by decide +kernel
theorem dX3_init_30 : decode cX3_init 30 = .ok (.dup, 1) := by decide +kernel
theorem dX3_init_31 : decode cX3_init 31 = .ok (.invokespecial 27, 3) := by decide +kernel
theorem dX3_init_34 : decode cX3_init 34 = .ok (.putfield 28, 3) := by decide +kernel
theorem dX3_init_37 : decode cX3_init 37 = .ok (.aload_n 0, 1) := by decide +kernel
theorem dX3_init_38 : decode cX3_init 38 = .ok (.iconst 4, 1) := by decide +kernel
theorem dX3_init_39 : decode cX3_init 39 = .ok (.putfield 32, 3) := by decide +kernel
theorem dX3_init_42 : decode cX3_init 42 = .ok (.return_, 1) := by decide +kernel
theorem dX3_copyFrom_0 : decode cX3_copyFrom 0 = .ok (.aload_n 0, 1) := by decide +kernel
theorem dX3_copyFrom_1 : decode cX3_copyFrom 1 = .ok (.getfield 12, 3) := by decide +kernel
theorem dX3_copyFrom_4 : decode cX3_copyFrom 4 = .ok (.aload_n 1, 1) := by decide +kernel
theorem dX3_copyFrom_5 : decode cX3_copyFrom 5 = .ok (.getfield 12, 3) := by decide +kernel
theorem dX3_copyFrom_8 : decode cX3_copyFrom 8 = .ok (.invokevirtual 36, 3) := by decide +kernel
theorem dX3_copyFrom_11 : decode cX3_copyFrom 11 = .ok (.aload_n 0, 1) := by decide +kernel
theorem dX3_copyFrom_12 : decode cX3_copyFrom 12 = .ok (.getfield 21, 3) := by decide +kernel
theorem dX3_copyFrom_15 : decode cX3_copyFrom 15 = .ok (.aload_n 1, 1) := by decide +kernel
theorem dX3_copyFrom_16 : decode cX3_copyFrom 16 = .ok (.getfield 21, 3) := by decide +kernel
theorem dX3_copyFrom_19 : decode cX3_copyFrom 19 = .ok (.invokevirtual 40, 3) := by decide +kernel
theorem dX3_copyFrom_22 : decode cX3_copyFrom 22 = .ok (.aload_n 0, 1) := by decide +kernel
theorem dX3_copyFrom_23 : decode cX3_copyFrom 23 = .ok (.getfield 28, 3) := by decide +kernel
theorem dX3_copyFrom_26 : decode cX3_copyFrom 26 = .ok (.aload_n 1, 1) := by decide +kernel
theorem dX3_copyFrom_27 : decode cX3_copyFrom 27 = .ok (.getfield 28, 3) := by decide +kernel
theorem dX3_copyFrom_30 : decode cX3_copyFrom 30 = .ok (.invokevirtual 43, 3) := by decide +kernel
theorem dX3_copyFrom_33 : decode cX3_copyFrom 33 = .ok (.aload_n 0, 1) := by decide +kernel
theorem dX3_copyFrom_34 : decode cX3_copyFrom 34 = .ok (.aload_n 1, 1) := by decide +kernel
theorem dX3_copyFrom_35 : decode cX3_copyFrom 35 = .ok (.getfield 32, 3) := by decide +kernel
theorem dX3_copyFrom_38 : decode cX3_copyFrom 38 = .ok (.putfield 32, 3) := by decide +kernel
theorem dX3_copyFrom_41 : decode cX3_copyFrom 41 = .ok (.aload_n 0, 1) := by decide +kernel
theorem dX3_copyFrom_42 : decode cX3_copyFrom 42 = .ok (.aload_n 1, 1) := by decide +kernel
theorem dX3_copyFrom_43 : decode cX3_copyFrom 43 = .ok (.getfield 46, 3) := by decide +kernel
theorem dX3_copyFrom_46 : decode cX3_copyFrom 46 = .ok (.putfield 46, 3) := by decide +kernel
theorem dX3_copyFrom_49 : decode cX3_copyFrom 49 = .ok (.aload_n 0, 1) := by decide +kernel
theorem dX3_copyFrom_50 : decode cX3_copyFrom 50 = .ok (.aload_n 1, 1) := by decide +kernel
theorem dX3_copyFrom_51 : decode cX3_copyFrom 51 = .ok (.getfield 49, 3) := by decide +kernel
theorem dX3_copyFrom_54 : decode cX3_copyFrom 54 = .ok (.putfield 49, 3) := by decide +kernel
theorem dX3_copyFrom_57 : decode cX3_copyFrom 57 = .ok (.aload_n 0, 1) := by decide +kernel
theorem dX3_copyFrom_58 : decode cX3_copyFrom 58 = .ok (.aload_n 1, 1) := by decide +kernel
theorem dX3_copyFrom_59 : decode cX3_copyFrom 59 = .ok (.getfield 52, 3) := by decide +kernel
theorem dX3_copyFrom_62 : decode cX3_copyFrom 62 = .ok (.putfield 52, 3) := by decide +kernel
theorem dX3_copyFrom_65 : decode cX3_copyFrom 65 = .ok (.aload_n 0, 1) := by decide +kernel
theorem dX3_copyFrom_66 : decode cX3_copyFrom 66 = .ok (.aload_n 1, 1) := by decide +kernel
theorem dX3_copyFrom_67 : decode cX3_copyFrom 67 = .ok (.getfield 55, 3) := by decide +kernel
theorem dX3_copyFrom_70 : decode cX3_copyFrom 70 = .ok (.putfield 55, 3) := by decide +kernel
theorem dX3_copyFrom_73 : decode cX3_copyFrom 73 = .ok (.aload_n 0, 1) := by decide +kernel
theorem dX3_copyFrom_74 : decode cX3_copyFrom 74 = .ok (.aload_n 1, 1) := by decide +kernel
theorem dX3_copyFrom_75 : decode cX3_copyFrom 75 = .ok (.getfield 58, 3) := by decide +kernel
theorem dX3_copyFrom_78 : decode cX3_copyFrom 78 = .ok (.putfield 58, 3) := by decide +kernel
theorem dX3_copyFrom_81 : decode cX3_copyFrom 81 = .ok (.aload_n 0, 1) := by decide +kernel
theorem dX3_copyFrom_82 : decode cX3_copyFrom 82 = .ok (.aload_n 1, 1) := by decide +kernel
theorem dX3_copyFrom_83 : decode cX3_copyFrom 83 = .ok (.getfield 61, 3) := by decide +kernel
theorem dX3_copyFrom_86 : decode cX3_copyFrom 86 = .ok (.putfield 61, 3) := by decide +kernel
theorem dX3_copyFrom_89 : decode cX3_copyFrom 89 = .ok (.aload_n 0, 1) := by decide +kernel
theorem dX3_copyFrom_90 : decode cX3_copyFrom 90 = .ok (.aload_n 1, 1) := by decide +kernel
theorem dX3_copyFrom_91 : decode cX3_copyFrom 91 = .ok (.getfield 64, 3) := by decide +kernel
theorem dX3_copyFrom_94 : decode cX3_copyFrom 94 = .ok (.putfield 64, 3) := by decide +kernel
theorem dX3_copyFrom_97 : decode cX3_copyFrom 97 = .ok (.return_, 1) := by decide +kernel
theorem dX3_refusalOf_0 : decode cX3_refusalOf 0 = .ok (.getstatic 67, 3) := by decide +kernel
theorem dX3_refusalOf_3 : decode cX3_refusalOf 3 = .ok (.aload_n 1, 1) := by decide +kernel
theorem dX3_refusalOf_4 : decode cX3_refusalOf 4 = .ok (.invokevirtual 73, 3) := by decide +kernel
theorem dX3_refusalOf_7 : decode cX3_refusalOf 7 = .ok (.iaload, 1) := by decide +kernel
theorem dX3_refusalOf_8 : decode cX3_refusalOf 8 = .ok (.tableswitch 143 1 10 #[56, 62, 69, 76, 83, 90, 97, 103, 124, 133], 56) := by decide +kernel
theorem dX3_refusalOf_64 : decode cX3_refusalOf 64 = .ok (.aload_n 0, 1) := by decide +kernel
theorem dX3_refusalOf_65 : decode cX3_refusalOf 65 = .ok (.iload_n 2, 1) := by decide +kernel
theorem dX3_refusalOf_66 : decode cX3_refusalOf 66 = .ok (.invokevirtual 79, 3) := by decide +kernel
theorem dX3_refusalOf_69 : decode cX3_refusalOf 69 = .ok (.areturn, 1) := by decide +kernel
theorem dX3_refusalOf_70 : decode cX3_refusalOf 70 = .ok (.aload_n 0, 1) := by decide +kernel
theorem dX3_refusalOf_71 : decode cX3_refusalOf 71 = .ok (.iload_n 2, 1) := by decide +kernel
theorem dX3_refusalOf_72 : decode cX3_refusalOf 72 = .ok (.iload_n 3, 1) := by decide +kernel
theorem dX3_refusalOf_73 : decode cX3_refusalOf 73 = .ok (.invokevirtual 83, 3) := by decide +kernel
theorem dX3_refusalOf_76 : decode cX3_refusalOf 76 = .ok (.areturn, 1) := by decide +kernel
theorem dX3_refusalOf_77 : decode cX3_refusalOf 77 = .ok (.aload_n 0, 1) := by decide +kernel
theorem dX3_refusalOf_78 : decode cX3_refusalOf 78 = .ok (.iload_n 2, 1) := by decide +kernel
theorem dX3_refusalOf_79 : decode cX3_refusalOf 79 = .ok (.iload_n 3, 1) := by decide +kernel
theorem dX3_refusalOf_80 : decode cX3_refusalOf 80 = .ok (.invokevirtual 87, 3) := by decide +kernel
theorem dX3_refusalOf_83 : decode cX3_refusalOf 83 = .ok (.areturn, 1) := by decide +kernel
theorem dX3_refusalOf_84 : decode cX3_refusalOf 84 = .ok (.aload_n 0, 1) := by decide +kernel
theorem dX3_refusalOf_85 : decode cX3_refusalOf 85 = .ok (.iload_n 2, 1) := by decide +kernel
theorem dX3_refusalOf_86 : decode cX3_refusalOf 86 = .ok (.iconst 1, 1) := by decide +kernel
theorem dX3_refusalOf_87 : decode cX3_refusalOf 87 = .ok (.invokevirtual 90, 3) := by decide +kernel
theorem dX3_refusalOf_90 : decode cX3_refusalOf 90 = .ok (.areturn, 1) := by decide +kernel
theorem dX3_refusalOf_91 : decode cX3_refusalOf 91 = .ok (.aload_n 0, 1) := by decide +kernel
theorem dX3_refusalOf_92 : decode cX3_refusalOf 92 = .ok (.iload_n 2, 1) := by decide +kernel
theorem dX3_refusalOf_93 : decode cX3_refusalOf 93 = .ok (.iconst 0, 1) := by decide +kernel
theorem dX3_refusalOf_94 : decode cX3_refusalOf 94 = .ok (.invokevirtual 90, 3) := by decide +kernel
theorem dX3_refusalOf_97 : decode cX3_refusalOf 97 = .ok (.areturn, 1) := by decide +kernel
theorem dX3_refusalOf_98 : decode cX3_refusalOf 98 = .ok (.aload_n 0, 1) := by decide +kernel
theorem dX3_refusalOf_99 : decode cX3_refusalOf 99 = .ok (.iload_n 2, 1) := by decide +kernel
theorem dX3_refusalOf_100 : decode cX3_refusalOf 100 = .ok (.iload_n 3, 1) := by decide +kernel
theorem dX3_refusalOf_101 : decode cX3_refusalOf 101 = .ok (.invokevirtual 94, 3) := by decide +kernel
theorem dX3_refusalOf_104 : decode cX3_refusalOf 104 = .ok (.areturn, 1) := by decide +kernel
theorem dX3_refusalOf_105 : decode cX3_refusalOf 105 = .ok (.aload_n 0, 1) := by decide +kernel
theorem dX3_refusalOf_106 : decode cX3_refusalOf 106 = .ok (.iload_n 2, 1) := by decide +kernel
theorem dX3_refusalOf_107 : decode cX3_refusalOf 107 = .ok (.invokevirtual 97, 3) := by decide +kernel
theorem dX3_refusalOf_110 : decode cX3_refusalOf 110 = .ok (.areturn, 1) := by decide +kernel
theorem dX3_refusalOf_111 : decode cX3_refusalOf 111 = .ok (.aload_n 0, 1) := by decide +kernel
theorem dX3_refusalOf_112 : decode cX3_refusalOf 112 = .ok (.getfield 21, 3) := by decide +kernel
theorem dX3_refusalOf_115 : decode cX3_refusalOf 115 = .ok (.iload_n 2, 1) := by decide +kernel
theorem dX3_refusalOf_116 : decode cX3_refusalOf 116 = .ok (.invokevirtual 100, 3) := by decide +kernel
theorem dX3_refusalOf_119 : decode cX3_refusalOf 119 = .ok (.ifCond .eq 9, 3) := by decide +kernel
theorem dX3_refusalOf_122 : decode cX3_refusalOf 122 = .ok (.getstatic 104, 3) := by decide +kernel
theorem dX3_refusalOf_125 : decode cX3_refusalOf 125 = .ok (.goto 6, 3) := by decide +kernel
theorem dX3_refusalOf_128 : decode cX3_refusalOf 128 = .ok (.getstatic 110, 3) := by decide +kernel
theorem dX3_refusalOf_131 : decode cX3_refusalOf 131 = .ok (.areturn, 1) := by decide +kernel
theorem dX3_refusalOf_132 : decode cX3_refusalOf 132 = .ok (.aload_n 0, 1) := by decide +kernel
theorem dX3_refusalOf_133 : decode cX3_refusalOf 133 = .ok (.iload_n 2, 1) := by decide +kernel
theorem dX3_refusalOf_134 : decode cX3_refusalOf 134 = .ok (.iconst 0, 1) := by decide +kernel
theorem dX3_refusalOf_135 : decode cX3_refusalOf 135 = .ok (.bipush 16, 2) := by decide +kernel
theorem dX3_refusalOf_137 : decode cX3_refusalOf 137 = .ok (.invokevirtual 113, 3) := by decide +kernel
theorem dX3_refusalOf_140 : decode cX3_refusalOf 140 = .ok (.areturn, 1) := by decide +kernel
theorem dX3_refusalOf_141 : decode cX3_refusalOf 141 = .ok (.aload_n 0, 1) := by decide +kernel
theorem dX3_refusalOf_142 : decode cX3_refusalOf 142 = .ok (.iload_n 2, 1) := by decide +kernel
theorem dX3_refusalOf_143 : decode cX3_refusalOf 143 = .ok (.iconst 0, 1) := by decide +kernel
theorem dX3_refusalOf_144 : decode cX3_refusalOf 144 = .ok (.sipush 1023, 3) := by decide +kernel
theorem dX3_refusalOf_147 : decode cX3_refusalOf 147 = .ok (.invokevirtual 113, 3) := by decide +kernel
theorem dX3_refusalOf_150 : decode cX3_refusalOf 150 = .ok (.areturn, 1) := by decide +kernel
theorem dX3_refusalOf_151 : decode cX3_refusalOf 151 = .ok (.aload_n 0, 1) := by decide +kernel
theorem dX3_refusalOf_152 : decode cX3_refusalOf 152 = .ok (.iload_n 2, 1) := by decide +kernel
theorem dX3_refusalOf_153 : decode cX3_refusalOf 153 = .ok (.iconst 1, 1) := by decide +kernel
theorem dX3_refusalOf_154 : decode cX3_refusalOf 154 = .ok (.bipush 60, 2) := by decide +kernel
theorem dX3_refusalOf_156 : decode cX3_refusalOf 156 = .ok (.invokevirtual 113, 3) := by decide +kernel
theorem dX3_refusalOf_159 : decode cX3_refusalOf 159 = .ok (.areturn, 1) := by decide +kernel
theorem dX3_refusalOfRange_0 : decode cX3_refusalOfRange 0 = .ok (.iload_n 1, 1) := by decide +kernel
theorem dX3_refusalOfRange_1 : decode cX3_refusalOfRange 1 = .ok (.iload_n 2, 1) := by decide +kernel
theorem dX3_refusalOfRange_2 : decode cX3_refusalOfRange 2 = .ok (.if_icmp .lt 8, 3) := by decide +kernel
theorem dX3_refusalOfRange_5 : decode cX3_refusalOfRange 5 = .ok (.iload_n 1, 1) := by decide +kernel
theorem dX3_refusalOfRange_6 : decode cX3_refusalOfRange 6 = .ok (.iload_n 3, 1) := by decide +kernel
theorem dX3_refusalOfRange_7 : decode cX3_refusalOfRange 7 = .ok (.if_icmp .le 9, 3) := by decide +kernel
theorem dX3_refusalOfRange_10 : decode cX3_refusalOfRange 10 = .ok (.getstatic 117, 3) := by decide +kernel
theorem dX3_refusalOfRange_13 : decode cX3_refusalOfRange 13 = .ok (.goto 6, 3) := by decide +kernel
theorem dX3_refusalOfRange_16 : decode cX3_refusalOfRange 16 = .ok (.getstatic 104, 3) := by decide +kernel
theorem dX3_refusalOfRange_19 : decode cX3_refusalOfRange 19 = .ok (.areturn, 1) := by decide +kernel
theorem dX3_refusalOfShelf_0 : decode cX3_refusalOfShelf 0 = .ok (.iload_n 1, 1) := by decide +kernel
theorem dX3_refusalOfShelf_1 : decode cX3_refusalOfShelf 1 = .ok (.ifCond .lt 9, 3) := by decide +kernel
theorem dX3_refusalOfShelf_4 : decode cX3_refusalOfShelf 4 = .ok (.iload_n 1, 1) := by decide +kernel
theorem dX3_refusalOfShelf_5 : decode cX3_refusalOfShelf 5 = .ok (.bipush 99, 2) := by decide +kernel
theorem dX3_refusalOfShelf_7 : decode cX3_refusalOfShelf 7 = .ok (.if_icmp .le 7, 3) := by decide +kernel
theorem dX3_refusalOfShelf_10 : decode cX3_refusalOfShelf 10 = .ok (.getstatic 117, 3) := by decide +kernel
theorem dX3_refusalOfShelf_13 : decode cX3_refusalOfShelf 13 = .ok (.areturn, 1) := by decide +kernel
theorem dX3_refusalOfShelf_14 : decode cX3_refusalOfShelf 14 = .ok (.aload_n 0, 1) := by decide +kernel
theorem dX3_refusalOfShelf_15 : decode cX3_refusalOfShelf 15 = .ok (.getfield 12, 3) := by decide +kernel
theorem dX3_refusalOfShelf_18 : decode cX3_refusalOfShelf 18 = .ok (.getfield 120, 3) := by decide +kernel
theorem dX3_refusalOfShelf_21 : decode cX3_refusalOfShelf 21 = .ok (.bipush 12, 2) := by decide +kernel
theorem dX3_refusalOfShelf_23 : decode cX3_refusalOfShelf 23 = .ok (.if_icmp .lt 9, 3) := by decide +kernel
theorem dX3_refusalOfShelf_26 : decode cX3_refusalOfShelf 26 = .ok (.getstatic 123, 3) := by decide +kernel
theorem dX3_refusalOfShelf_29 : decode cX3_refusalOfShelf 29 = .ok (.goto 6, 3) := by decide +kernel
theorem dX3_refusalOfShelf_32 : decode cX3_refusalOfShelf 32 = .ok (.getstatic 104, 3) := by decide +kernel
theorem dX3_refusalOfShelf_35 : decode cX3_refusalOfShelf 35 = .ok (.areturn, 1) := by decide +kernel
theorem dX3_refusalOfLink_0 : decode cX3_refusalOfLink 0 = .ok (.aload_n 0, 1) := by decide +kernel
theorem dX3_refusalOfLink_1 : decode cX3_refusalOfLink 1 = .ok (.getfield 12, 3) := by decide +kernel
theorem dX3_refusalOfLink_4 : decode cX3_refusalOfLink 4 = .ok (.iload_n 1, 1) := by decide +kernel
theorem dX3_refusalOfLink_5 : decode cX3_refusalOfLink 5 = .ok (.invokevirtual 126, 3) := by decide +kernel
theorem dX3_refusalOfLink_8 : decode cX3_refusalOfLink 8 = .ok (.ifCond .eq 14, 3) := by decide +kernel
theorem dX3_refusalOfLink_11 : decode cX3_refusalOfLink 11 = .ok (.aload_n 0, 1) := by decide +kernel
theorem dX3_refusalOfLink_12 : decode cX3_refusalOfLink 12 = .ok (.getfield 12, 3) := by decide +kernel
theorem dX3_refusalOfLink_15 : decode cX3_refusalOfLink 15 = .ok (.iload_n 2, 1) := by decide +kernel
theorem dX3_refusalOfLink_16 : decode cX3_refusalOfLink 16 = .ok (.invokevirtual 126, 3) := by decide +kernel
theorem dX3_refusalOfLink_19 : decode cX3_refusalOfLink 19 = .ok (.ifCond .ne 7, 3) := by decide +kernel
theorem dX3_refusalOfLink_22 : decode cX3_refusalOfLink 22 = .ok (.getstatic 110, 3) := by decide +kernel
theorem dX3_refusalOfLink_25 : decode cX3_refusalOfLink 25 = .ok (.areturn, 1) := by decide +kernel
theorem dX3_refusalOfLink_26 : decode cX3_refusalOfLink 26 = .ok (.iload_n 1, 1) := by decide +kernel
theorem dX3_refusalOfLink_27 : decode cX3_refusalOfLink 27 = .ok (.iload_n 2, 1) := by decide +kernel
theorem dX3_refusalOfLink_28 : decode cX3_refusalOfLink 28 = .ok (.if_icmp .ne 7, 3) := by decide +kernel
theorem dX3_refusalOfLink_31 : decode cX3_refusalOfLink 31 = .ok (.getstatic 129, 3) := by decide +kernel
theorem dX3_refusalOfLink_34 : decode cX3_refusalOfLink 34 = .ok (.areturn, 1) := by decide +kernel
theorem dX3_refusalOfLink_35 : decode cX3_refusalOfLink 35 = .ok (.aload_n 0, 1) := by decide +kernel
theorem dX3_refusalOfLink_36 : decode cX3_refusalOfLink 36 = .ok (.getfield 12, 3) := by decide +kernel
theorem dX3_refusalOfLink_39 : decode cX3_refusalOfLink 39 = .ok (.iload_n 1, 1) := by decide +kernel
theorem dX3_refusalOfLink_40 : decode cX3_refusalOfLink 40 = .ok (.iload_n 2, 1) := by decide +kernel
theorem dX3_refusalOfLink_41 : decode cX3_refusalOfLink 41 = .ok (.invokevirtual 132, 3) := by decide +kernel
theorem dX3_refusalOfLink_44 : decode cX3_refusalOfLink 44 = .ok (.ifCond .eq 7, 3) := by decide +kernel
theorem dX3_refusalOfLink_47 : decode cX3_refusalOfLink 47 = .ok (.getstatic 136, 3) := by decide +kernel
theorem dX3_refusalOfLink_50 : decode cX3_refusalOfLink 50 = .ok (.areturn, 1) := by decide +kernel
theorem dX3_refusalOfLink_51 : decode cX3_refusalOfLink 51 = .ok (.aload_n 0, 1) := by decide +kernel
theorem dX3_refusalOfLink_52 : decode cX3_refusalOfLink 52 = .ok (.getfield 12, 3) := by decide +kernel
theorem dX3_refusalOfLink_55 : decode cX3_refusalOfLink 55 = .ok (.getfield 139, 3) := by decide +kernel
theorem dX3_refusalOfLink_58 : decode cX3_refusalOfLink 58 = .ok (.bipush 20, 2) := by decide +kernel
theorem dX3_refusalOfLink_60 : decode cX3_refusalOfLink 60 = .ok (.if_icmp .lt 9, 3) := by decide +kernel
theorem dX3_refusalOfLink_63 : decode cX3_refusalOfLink 63 = .ok (.getstatic 123, 3) := by decide +kernel
theorem dX3_refusalOfLink_66 : decode cX3_refusalOfLink 66 = .ok (.goto 6, 3) := by decide +kernel
theorem dX3_refusalOfLink_69 : decode cX3_refusalOfLink 69 = .ok (.getstatic 104, 3) := by decide +kernel
theorem dX3_refusalOfLink_72 : decode cX3_refusalOfLink 72 = .ok (.areturn, 1) := by decide +kernel
theorem dX3_refusalOfCut_0 : decode cX3_refusalOfCut 0 = .ok (.aload_n 0, 1) := by decide +kernel
theorem dX3_refusalOfCut_1 : decode cX3_refusalOfCut 1 = .ok (.getfield 12, 3) := by decide +kernel
theorem dX3_refusalOfCut_4 : decode cX3_refusalOfCut 4 = .ok (.iload_n 1, 1) := by decide +kernel
theorem dX3_refusalOfCut_5 : decode cX3_refusalOfCut 5 = .ok (.invokevirtual 126, 3) := by decide +kernel
theorem dX3_refusalOfCut_8 : decode cX3_refusalOfCut 8 = .ok (.ifCond .eq 14, 3) := by decide +kernel
theorem dX3_refusalOfCut_11 : decode cX3_refusalOfCut 11 = .ok (.aload_n 0, 1) := by decide +kernel
theorem dX3_refusalOfCut_12 : decode cX3_refusalOfCut 12 = .ok (.getfield 12, 3) := by decide +kernel
theorem dX3_refusalOfCut_15 : decode cX3_refusalOfCut 15 = .ok (.iload_n 2, 1) := by decide +kernel
theorem dX3_refusalOfCut_16 : decode cX3_refusalOfCut 16 = .ok (.invokevirtual 126, 3) := by decide +kernel
theorem dX3_refusalOfCut_19 : decode cX3_refusalOfCut 19 = .ok (.ifCond .ne 7, 3) := by decide +kernel
theorem dX3_refusalOfCut_22 : decode cX3_refusalOfCut 22 = .ok (.getstatic 110, 3) := by decide +kernel
theorem dX3_refusalOfCut_25 : decode cX3_refusalOfCut 25 = .ok (.areturn, 1) := by decide +kernel
theorem dX3_refusalOfCut_26 : decode cX3_refusalOfCut 26 = .ok (.aload_n 0, 1) := by decide +kernel
theorem dX3_refusalOfCut_27 : decode cX3_refusalOfCut 27 = .ok (.getfield 12, 3) := by decide +kernel
theorem dX3_refusalOfCut_30 : decode cX3_refusalOfCut 30 = .ok (.iload_n 1, 1) := by decide +kernel
theorem dX3_refusalOfCut_31 : decode cX3_refusalOfCut 31 = .ok (.iload_n 2, 1) := by decide +kernel
theorem dX3_refusalOfCut_32 : decode cX3_refusalOfCut 32 = .ok (.invokevirtual 132, 3) := by decide +kernel
theorem dX3_refusalOfCut_35 : decode cX3_refusalOfCut 35 = .ok (.ifCond .eq 9, 3) := by decide +kernel
theorem dX3_refusalOfCut_38 : decode cX3_refusalOfCut 38 = .ok (.getstatic 104, 3) := by decide +kernel
theorem dX3_refusalOfCut_41 : decode cX3_refusalOfCut 41 = .ok (.goto 6, 3) := by decide +kernel
theorem dX3_refusalOfCut_44 : decode cX3_refusalOfCut 44 = .ok (.getstatic 142, 3) := by decide +kernel
theorem dX3_refusalOfCut_47 : decode cX3_refusalOfCut 47 = .ok (.areturn, 1) := by decide +kernel
theorem dX3_refusalOfBlindness_0 : decode cX3_refusalOfBlindness 0 = .ok (.aload_n 0, 1) := by decide +kernel
theorem dX3_refusalOfBlindness_1 : decode cX3_refusalOfBlindness 1 = .ok (.getfield 12, 3) := by decide +kernel
theorem dX3_refusalOfBlindness_4 : decode cX3_refusalOfBlindness 4 = .ok (.iload_n 1, 1) := by decide +kernel
theorem dX3_refusalOfBlindness_5 : decode cX3_refusalOfBlindness 5 = .ok (.invokevirtual 126, 3) := by decide +kernel
theorem dX3_refusalOfBlindness_8 : decode cX3_refusalOfBlindness 8 = .ok (.ifCond .ne 7, 3) := by decide +kernel
theorem dX3_refusalOfBlindness_11 : decode cX3_refusalOfBlindness 11 = .ok (.getstatic 110, 3) := by decide +kernel
theorem dX3_refusalOfBlindness_14 : decode cX3_refusalOfBlindness 14 = .ok (.areturn, 1) := by decide +kernel
theorem dX3_refusalOfBlindness_15 : decode cX3_refusalOfBlindness 15 = .ok (.aload_n 0, 1) := by decide +kernel
theorem dX3_refusalOfBlindness_16 : decode cX3_refusalOfBlindness 16 = .ok (.getfield 12, 3) := by decide +kernel
theorem dX3_refusalOfBlindness_19 : decode cX3_refusalOfBlindness 19 = .ok (.getfield 145, 3) := by decide +kernel
theorem dX3_refusalOfBlindness_22 : decode cX3_refusalOfBlindness 22 = .ok (.iload_n 1, 1) := by decide +kernel
theorem dX3_refusalOfBlindness_23 : decode cX3_refusalOfBlindness 23 = .ok (.invokestatic 148, 3) := by decide +kernel
theorem dX3_refusalOfBlindness_26 : decode cX3_refusalOfBlindness 26 = .ok (.iload_n 2, 1) := by decide +kernel
theorem dX3_refusalOfBlindness_27 : decode cX3_refusalOfBlindness 27 = .ok (.if_icmp .ne 9, 3) := by decide +kernel
theorem dX3_refusalOfBlindness_30 : decode cX3_refusalOfBlindness 30 = .ok (.getstatic 151, 3) := by decide +kernel
theorem dX3_refusalOfBlindness_33 : decode cX3_refusalOfBlindness 33 = .ok (.goto 6, 3) := by decide +kernel
theorem dX3_refusalOfBlindness_36 : decode cX3_refusalOfBlindness 36 = .ok (.getstatic 104, 3) := by decide +kernel
theorem dX3_refusalOfBlindness_39 : decode cX3_refusalOfBlindness 39 = .ok (.areturn, 1) := by decide +kernel
theorem dX3_refusalOfFill_0 : decode cX3_refusalOfFill 0 = .ok (.aload_n 0, 1) := by decide +kernel
theorem dX3_refusalOfFill_1 : decode cX3_refusalOfFill 1 = .ok (.getfield 12, 3) := by decide +kernel
theorem dX3_refusalOfFill_4 : decode cX3_refusalOfFill 4 = .ok (.iload_n 1, 1) := by decide +kernel
theorem dX3_refusalOfFill_5 : decode cX3_refusalOfFill 5 = .ok (.invokevirtual 126, 3) := by decide +kernel
theorem dX3_refusalOfFill_8 : decode cX3_refusalOfFill 8 = .ok (.ifCond .ne 7, 3) := by decide +kernel
theorem dX3_refusalOfFill_11 : decode cX3_refusalOfFill 11 = .ok (.getstatic 110, 3) := by decide +kernel
theorem dX3_refusalOfFill_14 : decode cX3_refusalOfFill 14 = .ok (.areturn, 1) := by decide +kernel
theorem dX3_refusalOfFill_15 : decode cX3_refusalOfFill 15 = .ok (.iload_n 2, 1) := by decide +kernel
theorem dX3_refusalOfFill_16 : decode cX3_refusalOfFill 16 = .ok (.iconst 1, 1) := by decide +kernel
theorem dX3_refusalOfFill_17 : decode cX3_refusalOfFill 17 = .ok (.if_icmp .lt 9, 3) := by decide +kernel
theorem dX3_refusalOfFill_20 : decode cX3_refusalOfFill 20 = .ok (.iload_n 2, 1) := by decide +kernel
theorem dX3_refusalOfFill_21 : decode cX3_refusalOfFill 21 = .ok (.bipush 99, 2) := by decide +kernel
theorem dX3_refusalOfFill_23 : decode cX3_refusalOfFill 23 = .ok (.if_icmp .le 7, 3) := by decide +kernel
theorem dX3_refusalOfFill_26 : decode cX3_refusalOfFill 26 = .ok (.getstatic 117, 3) := by decide +kernel
theorem dX3_refusalOfFill_29 : decode cX3_refusalOfFill 29 = .ok (.areturn, 1) := by decide +kernel
theorem dX3_refusalOfFill_30 : decode cX3_refusalOfFill 30 = .ok (.aload_n 0, 1) := by decide +kernel
theorem dX3_refusalOfFill_31 : decode cX3_refusalOfFill 31 = .ok (.getfield 12, 3) := by decide +kernel
theorem dX3_refusalOfFill_34 : decode cX3_refusalOfFill 34 = .ok (.getfield 154, 3) := by decide +kernel
theorem dX3_refusalOfFill_37 : decode cX3_refusalOfFill 37 = .ok (.iload_n 1, 1) := by decide +kernel
theorem dX3_refusalOfFill_38 : decode cX3_refusalOfFill 38 = .ok (.invokestatic 157, 3) := by decide +kernel
theorem dX3_refusalOfFill_41 : decode cX3_refusalOfFill 41 = .ok (.iload_n 2, 1) := by decide +kernel
theorem dX3_refusalOfFill_42 : decode cX3_refusalOfFill 42 = .ok (.iadd, 1) := by decide +kernel
theorem dX3_refusalOfFill_43 : decode cX3_refusalOfFill 43 = .ok (.bipush 99, 2) := by decide +kernel
theorem dX3_refusalOfFill_45 : decode cX3_refusalOfFill 45 = .ok (.if_icmp .le 9, 3) := by decide +kernel
theorem dX3_refusalOfFill_48 : decode cX3_refusalOfFill 48 = .ok (.getstatic 123, 3) := by decide +kernel
theorem dX3_refusalOfFill_51 : decode cX3_refusalOfFill 51 = .ok (.goto 6, 3) := by decide +kernel
theorem dX3_refusalOfFill_54 : decode cX3_refusalOfFill 54 = .ok (.getstatic 104, 3) := by decide +kernel
theorem dX3_refusalOfFill_57 : decode cX3_refusalOfFill 57 = .ok (.areturn, 1) := by decide +kernel
theorem dX3_refusalOfStop_0 : decode cX3_refusalOfStop 0 = .ok (.aload_n 0, 1) := by decide +kernel
theorem dX3_refusalOfStop_1 : decode cX3_refusalOfStop 1 = .ok (.getfield 12, 3) := by decide +kernel
theorem dX3_refusalOfStop_4 : decode cX3_refusalOfStop 4 = .ok (.iload_n 1, 1) := by decide +kernel
theorem dX3_refusalOfStop_5 : decode cX3_refusalOfStop 5 = .ok (.invokevirtual 126, 3) := by decide +kernel
theorem dX3_refusalOfStop_8 : decode cX3_refusalOfStop 8 = .ok (.ifCond .ne 7, 3) := by decide +kernel
theorem dX3_refusalOfStop_11 : decode cX3_refusalOfStop 11 = .ok (.getstatic 110, 3) := by decide +kernel
theorem dX3_refusalOfStop_14 : decode cX3_refusalOfStop 14 = .ok (.areturn, 1) := by decide +kernel
theorem dX3_refusalOfStop_15 : decode cX3_refusalOfStop 15 = .ok (.aload_n 0, 1) := by decide +kernel
theorem dX3_refusalOfStop_16 : decode cX3_refusalOfStop 16 = .ok (.getfield 21, 3) := by decide +kernel
theorem dX3_refusalOfStop_19 : decode cX3_refusalOfStop 19 = .ok (.getfield 161, 3) := by decide +kernel
theorem dX3_refusalOfStop_22 : decode cX3_refusalOfStop 22 = .ok (.bipush 10, 2) := by decide +kernel
theorem dX3_refusalOfStop_24 : decode cX3_refusalOfStop 24 = .ok (.if_icmp .lt 9, 3) := by decide +kernel
theorem dX3_refusalOfStop_27 : decode cX3_refusalOfStop 27 = .ok (.getstatic 123, 3) := by decide +kernel
theorem dX3_refusalOfStop_30 : decode cX3_refusalOfStop 30 = .ok (.goto 6, 3) := by decide +kernel
theorem dX3_refusalOfStop_33 : decode cX3_refusalOfStop 33 = .ok (.getstatic 104, 3) := by decide +kernel
theorem dX3_refusalOfStop_36 : decode cX3_refusalOfStop 36 = .ok (.areturn, 1) := by decide +kernel
theorem dX3_detailOf_0 : decode cX3_detailOf 0 = .ok (.getstatic 162, 3) := by decide +kernel
theorem dX3_detailOf_3 : decode cX3_detailOf 3 = .ok (.aload_n 1, 1) := by decide +kernel
theorem dX3_detailOf_4 : decode cX3_detailOf 4 = .ok (.invokevirtual 165, 3) := by decide +kernel
theorem dX3_detailOf_7 : decode cX3_detailOf 7 = .ok (.iaload, 1) := by decide +kernel
theorem dX3_detailOf_8 : decode cX3_detailOf 8 = .ok (.tableswitch 48 1 3 #[28, 33, 35], 28) := by decide +kernel
theorem dX3_detailOf_36 : decode cX3_detailOf 36 = .ok (.aload_n 2, 1) := by decide +kernel
theorem dX3_detailOf_37 : decode cX3_detailOf 37 = .ok (.getfield 166, 3) := by decide +kernel
theorem dX3_detailOf_40 : decode cX3_detailOf 40 = .ok (.ireturn, 1) := by decide +kernel
theorem dX3_detailOf_41 : decode cX3_detailOf 41 = .ok (.iload_n 3, 1) := by decide +kernel
theorem dX3_detailOf_42 : decode cX3_detailOf 42 = .ok (.ireturn, 1) := by decide +kernel
theorem dX3_detailOf_43 : decode cX3_detailOf 43 = .ok (.aload_n 2, 1) := by decide +kernel
theorem dX3_detailOf_44 : decode cX3_detailOf 44 = .ok (.getstatic 169, 3) := by decide +kernel
theorem dX3_detailOf_47 : decode cX3_detailOf 47 = .ok (.if_acmp .ne 7, 3) := by decide +kernel
theorem dX3_detailOf_50 : decode cX3_detailOf 50 = .ok (.iconst 1, 1) := by decide +kernel
theorem dX3_detailOf_51 : decode cX3_detailOf 51 = .ok (.goto 4, 3) := by decide +kernel
theorem dX3_detailOf_54 : decode cX3_detailOf 54 = .ok (.iconst 0, 1) := by decide +kernel
theorem dX3_detailOf_55 : decode cX3_detailOf 55 = .ok (.ireturn, 1) := by decide +kernel
theorem dX3_detailOf_56 : decode cX3_detailOf 56 = .ok (.aload_n 0, 1) := by decide +kernel
theorem dX3_detailOf_57 : decode cX3_detailOf 57 = .ok (.getfield 12, 3) := by decide +kernel
theorem dX3_detailOf_60 : decode cX3_detailOf 60 = .ok (.getfield 139, 3) := by decide +kernel
theorem dX3_detailOf_63 : decode cX3_detailOf 63 = .ok (.ireturn, 1) := by decide +kernel
theorem dX3_carryOut_0 : decode cX3_carryOut 0 = .ok (.getstatic 67, 3) := by decide +kernel
theorem dX3_carryOut_3 : decode cX3_carryOut 3 = .ok (.aload_n 1, 1) := by decide +kernel
theorem dX3_carryOut_4 : decode cX3_carryOut 4 = .ok (.invokevirtual 73, 3) := by decide +kernel
theorem dX3_carryOut_7 : decode cX3_carryOut 7 = .ok (.iaload, 1) := by decide +kernel
theorem dX3_carryOut_8 : decode cX3_carryOut 8 = .ok (.tableswitch 187 1 10 #[56, 75, 85, 95, 115, 137, 157, 166, 175, 181], 56) := by decide +kernel
theorem dX3_carryOut_64 : decode cX3_carryOut 64 = .ok (.aload_n 0, 1) := by decide +kernel
theorem dX3_carryOut_65 : decode cX3_carryOut 65 = .ok (.dup, 1) := by decide +kernel
theorem dX3_carryOut_66 : decode cX3_carryOut 66 = .ok (.getfield 52, 3) := by decide +kernel
theorem dX3_carryOut_69 : decode cX3_carryOut 69 = .ok (.iload_n 2, 1) := by decide +kernel
theorem dX3_carryOut_70 : decode cX3_carryOut 70 = .ok (.iadd, 1) := by decide +kernel
theorem dX3_carryOut_71 : decode cX3_carryOut 71 = .ok (.putfield 52, 3) := by decide +kernel
theorem dX3_carryOut_74 : decode cX3_carryOut 74 = .ok (.aload_n 0, 1) := by decide +kernel
theorem dX3_carryOut_75 : decode cX3_carryOut 75 = .ok (.getfield 12, 3) := by decide +kernel
theorem dX3_carryOut_78 : decode cX3_carryOut 78 = .ok (.iload_n 2, 1) := by decide +kernel
theorem dX3_carryOut_79 : decode cX3_carryOut 79 = .ok (.invokevirtual 173, 3) := by decide +kernel
theorem dX3_carryOut_82 : decode cX3_carryOut 82 = .ok (.ireturn, 1) := by decide +kernel
theorem dX3_carryOut_83 : decode cX3_carryOut 83 = .ok (.aload_n 0, 1) := by decide +kernel
theorem dX3_carryOut_84 : decode cX3_carryOut 84 = .ok (.getfield 12, 3) := by decide +kernel
theorem dX3_carryOut_87 : decode cX3_carryOut 87 = .ok (.iload_n 2, 1) := by decide +kernel
theorem dX3_carryOut_88 : decode cX3_carryOut 88 = .ok (.iload_n 3, 1) := by decide +kernel
theorem dX3_carryOut_89 : decode cX3_carryOut 89 = .ok (.invokevirtual 177, 3) := by decide +kernel
theorem dX3_carryOut_92 : decode cX3_carryOut 92 = .ok (.ireturn, 1) := by decide +kernel
theorem dX3_carryOut_93 : decode cX3_carryOut 93 = .ok (.aload_n 0, 1) := by decide +kernel
theorem dX3_carryOut_94 : decode cX3_carryOut 94 = .ok (.getfield 12, 3) := by decide +kernel
theorem dX3_carryOut_97 : decode cX3_carryOut 97 = .ok (.iload_n 2, 1) := by decide +kernel
theorem dX3_carryOut_98 : decode cX3_carryOut 98 = .ok (.iload_n 3, 1) := by decide +kernel
theorem dX3_carryOut_99 : decode cX3_carryOut 99 = .ok (.invokevirtual 181, 3) := by decide +kernel
theorem dX3_carryOut_102 : decode cX3_carryOut 102 = .ok (.ireturn, 1) := by decide +kernel
theorem dX3_carryOut_103 : decode cX3_carryOut 103 = .ok (.aload_n 0, 1) := by decide +kernel
theorem dX3_carryOut_104 : decode cX3_carryOut 104 = .ok (.getfield 12, 3) := by decide +kernel
theorem dX3_carryOut_107 : decode cX3_carryOut 107 = .ok (.aload_n 0, 1) := by decide +kernel
theorem dX3_carryOut_108 : decode cX3_carryOut 108 = .ok (.getfield 12, 3) := by decide +kernel
theorem dX3_carryOut_111 : decode cX3_carryOut 111 = .ok (.getfield 145, 3) := by decide +kernel
theorem dX3_carryOut_114 : decode cX3_carryOut 114 = .ok (.iload_n 2, 1) := by decide +kernel
theorem dX3_carryOut_115 : decode cX3_carryOut 115 = .ok (.invokestatic 184, 3) := by decide +kernel
theorem dX3_carryOut_118 : decode cX3_carryOut 118 = .ok (.ior, 1) := by decide +kernel
theorem dX3_carryOut_119 : decode cX3_carryOut 119 = .ok (.invokevirtual 187, 3) := by decide +kernel
theorem dX3_carryOut_122 : decode cX3_carryOut 122 = .ok (.ireturn, 1) := by decide +kernel
theorem dX3_carryOut_123 : decode cX3_carryOut 123 = .ok (.aload_n 0, 1) := by decide +kernel
theorem dX3_carryOut_124 : decode cX3_carryOut 124 = .ok (.getfield 12, 3) := by decide +kernel
theorem dX3_carryOut_127 : decode cX3_carryOut 127 = .ok (.aload_n 0, 1) := by decide +kernel
theorem dX3_carryOut_128 : decode cX3_carryOut 128 = .ok (.getfield 12, 3) := by decide +kernel
theorem dX3_carryOut_131 : decode cX3_carryOut 131 = .ok (.getfield 145, 3) := by decide +kernel
theorem dX3_carryOut_134 : decode cX3_carryOut 134 = .ok (.iload_n 2, 1) := by decide +kernel
theorem dX3_carryOut_135 : decode cX3_carryOut 135 = .ok (.invokestatic 184, 3) := by decide +kernel
theorem dX3_carryOut_138 : decode cX3_carryOut 138 = .ok (.iconst (-1), 1) := by decide +kernel
theorem dX3_carryOut_139 : decode cX3_carryOut 139 = .ok (.ixor, 1) := by decide +kernel
theorem dX3_carryOut_140 : decode cX3_carryOut 140 = .ok (.iand, 1) := by decide +kernel
theorem dX3_carryOut_141 : decode cX3_carryOut 141 = .ok (.invokevirtual 187, 3) := by decide +kernel
theorem dX3_carryOut_144 : decode cX3_carryOut 144 = .ok (.ireturn, 1) := by decide +kernel
theorem dX3_carryOut_145 : decode cX3_carryOut 145 = .ok (.aload_n 0, 1) := by decide +kernel
theorem dX3_carryOut_146 : decode cX3_carryOut 146 = .ok (.dup, 1) := by decide +kernel
theorem dX3_carryOut_147 : decode cX3_carryOut 147 = .ok (.getfield 52, 3) := by decide +kernel
theorem dX3_carryOut_150 : decode cX3_carryOut 150 = .ok (.iload_n 3, 1) := by decide +kernel
theorem dX3_carryOut_151 : decode cX3_carryOut 151 = .ok (.iadd, 1) := by decide +kernel
theorem dX3_carryOut_152 : decode cX3_carryOut 152 = .ok (.putfield 52, 3) := by decide +kernel
theorem dX3_carryOut_155 : decode cX3_carryOut 155 = .ok (.aload_n 0, 1) := by decide +kernel
theorem dX3_carryOut_156 : decode cX3_carryOut 156 = .ok (.getfield 12, 3) := by decide +kernel
theorem dX3_carryOut_159 : decode cX3_carryOut 159 = .ok (.iload_n 2, 1) := by decide +kernel
theorem dX3_carryOut_160 : decode cX3_carryOut 160 = .ok (.iload_n 3, 1) := by decide +kernel
theorem dX3_carryOut_161 : decode cX3_carryOut 161 = .ok (.invokevirtual 190, 3) := by decide +kernel
theorem dX3_carryOut_164 : decode cX3_carryOut 164 = .ok (.ireturn, 1) := by decide +kernel
theorem dX3_carryOut_165 : decode cX3_carryOut 165 = .ok (.aload_n 0, 1) := by decide +kernel
theorem dX3_carryOut_166 : decode cX3_carryOut 166 = .ok (.getfield 21, 3) := by decide +kernel
theorem dX3_carryOut_169 : decode cX3_carryOut 169 = .ok (.iload_n 2, 1) := by decide +kernel
theorem dX3_carryOut_170 : decode cX3_carryOut 170 = .ok (.invokevirtual 193, 3) := by decide +kernel
theorem dX3_carryOut_173 : decode cX3_carryOut 173 = .ok (.ireturn, 1) := by decide +kernel
theorem dX3_carryOut_174 : decode cX3_carryOut 174 = .ok (.aload_n 0, 1) := by decide +kernel
theorem dX3_carryOut_175 : decode cX3_carryOut 175 = .ok (.getfield 21, 3) := by decide +kernel
theorem dX3_carryOut_178 : decode cX3_carryOut 178 = .ok (.iload_n 2, 1) := by decide +kernel
theorem dX3_carryOut_179 : decode cX3_carryOut 179 = .ok (.invokevirtual 196, 3) := by decide +kernel
theorem dX3_carryOut_182 : decode cX3_carryOut 182 = .ok (.ireturn, 1) := by decide +kernel
theorem dX3_carryOut_183 : decode cX3_carryOut 183 = .ok (.aload_n 0, 1) := by decide +kernel
theorem dX3_carryOut_184 : decode cX3_carryOut 184 = .ok (.iload_n 2, 1) := by decide +kernel
theorem dX3_carryOut_185 : decode cX3_carryOut 185 = .ok (.invokevirtual 199, 3) := by decide +kernel
theorem dX3_carryOut_188 : decode cX3_carryOut 188 = .ok (.ireturn, 1) := by decide +kernel
theorem dX3_carryOut_189 : decode cX3_carryOut 189 = .ok (.aload_n 0, 1) := by decide +kernel
theorem dX3_carryOut_190 : decode cX3_carryOut 190 = .ok (.iload_n 2, 1) := by decide +kernel
theorem dX3_carryOut_191 : decode cX3_carryOut 191 = .ok (.invokevirtual 202, 3) := by decide +kernel
theorem dX3_carryOut_194 : decode cX3_carryOut 194 = .ok (.ireturn, 1) := by decide +kernel
theorem dX3_carryOut_195 : decode cX3_carryOut 195 = .ok (.aload_n 0, 1) := by decide +kernel
theorem dX3_carryOut_196 : decode cX3_carryOut 196 = .ok (.iload_n 2, 1) := by decide +kernel
theorem dX3_carryOut_197 : decode cX3_carryOut 197 = .ok (.invokevirtual 205, 3) := by decide +kernel
theorem dX3_carryOut_200 : decode cX3_carryOut 200 = .ok (.ireturn, 1) := by decide +kernel
theorem dX3_replaceRate_0 : decode cX3_replaceRate 0 = .ok (.aload_n 0, 1) := by decide +kernel
theorem dX3_replaceRate_1 : decode cX3_replaceRate 1 = .ok (.getfield 32, 3) := by decide +kernel
theorem dX3_replaceRate_4 : decode cX3_replaceRate 4 = .ok (.istore_n 2, 1) := by decide +kernel
theorem dX3_replaceRate_5 : decode cX3_replaceRate 5 = .ok (.aload_n 0, 1) := by decide +kernel
theorem dX3_replaceRate_6 : decode cX3_replaceRate 6 = .ok (.iload_n 1, 1) := by decide +kernel
theorem dX3_replaceRate_7 : decode cX3_replaceRate 7 = .ok (.putfield 32, 3) := by decide +kernel
theorem dX3_replaceRate_10 : decode cX3_replaceRate 10 = .ok (.iload_n 2, 1) := by decide +kernel
theorem dX3_replaceRate_11 : decode cX3_replaceRate 11 = .ok (.ireturn, 1) := by decide +kernel
theorem dX3_replaceSeed_0 : decode cX3_replaceSeed 0 = .ok (.aload_n 0, 1) := by decide +kernel
theorem dX3_replaceSeed_1 : decode cX3_replaceSeed 1 = .ok (.getfield 46, 3) := by decide +kernel
theorem dX3_replaceSeed_4 : decode cX3_replaceSeed 4 = .ok (.istore_n 2, 1) := by decide +kernel
theorem dX3_replaceSeed_5 : decode cX3_replaceSeed 5 = .ok (.aload_n 0, 1) := by decide +kernel
theorem dX3_replaceSeed_6 : decode cX3_replaceSeed 6 = .ok (.iload_n 1, 1) := by decide +kernel
theorem dX3_replaceSeed_7 : decode cX3_replaceSeed 7 = .ok (.putfield 46, 3) := by decide +kernel
theorem dX3_replaceSeed_10 : decode cX3_replaceSeed 10 = .ok (.iload_n 2, 1) := by decide +kernel
theorem dX3_replaceSeed_11 : decode cX3_replaceSeed 11 = .ok (.ireturn, 1) := by decide +kernel
theorem dX3_letPass_0 : decode cX3_letPass 0 = .ok (.aload_n 0, 1) := by decide +kernel
theorem dX3_letPass_1 : decode cX3_letPass 1 = .ok (.getfield 58, 3) := by decide +kernel
theorem dX3_letPass_4 : decode cX3_letPass 4 = .ok (.istore_n 2, 1) := by decide +kernel
theorem dX3_letPass_5 : decode cX3_letPass 5 = .ok (.iconst 0, 1) := by decide +kernel
theorem dX3_letPass_6 : decode cX3_letPass 6 = .ok (.istore_n 3, 1) := by decide +kernel
theorem dX3_letPass_7 : decode cX3_letPass 7 = .ok (.iload_n 3, 1) := by decide +kernel
theorem dX3_letPass_8 : decode cX3_letPass 8 = .ok (.iload_n 1, 1) := by decide +kernel
theorem dX3_letPass_9 : decode cX3_letPass 9 = .ok (.if_icmp .ge 49, 3) := by decide +kernel
theorem dX3_letPass_12 : decode cX3_letPass 12 = .ok (.aload_n 0, 1) := by decide +kernel
theorem dX3_letPass_13 : decode cX3_letPass 13 = .ok (.getfield 21, 3) := by decide +kernel
theorem dX3_letPass_16 : decode cX3_letPass 16 = .ok (.aload_n 0, 1) := by decide +kernel
theorem dX3_letPass_17 : decode cX3_letPass 17 = .ok (.invokevirtual 208, 3) := by decide +kernel
theorem dX3_letPass_20 : decode cX3_letPass 20 = .ok (.putfield 211, 3) := by decide +kernel
theorem dX3_letPass_23 : decode cX3_letPass 23 = .ok (.aload_n 0, 1) := by decide +kernel
theorem dX3_letPass_24 : decode cX3_letPass 24 = .ok (.getfield 21, 3) := by decide +kernel
theorem dX3_letPass_27 : decode cX3_letPass 27 = .ok (.invokevirtual 214, 3) := by decide +kernel
theorem dX3_letPass_30 : decode cX3_letPass 30 = .ok (.aload_n 0, 1) := by decide +kernel
theorem dX3_letPass_31 : decode cX3_letPass 31 = .ok (.invokevirtual 217, 3) := by decide +kernel
theorem dX3_letPass_34 : decode cX3_letPass 34 = .ok (.aload_n 0, 1) := by decide +kernel
theorem dX3_letPass_35 : decode cX3_letPass 35 = .ok (.invokevirtual 220, 3) := by decide +kernel
theorem dX3_letPass_38 : decode cX3_letPass 38 = .ok (.aload_n 0, 1) := by decide +kernel
theorem dX3_letPass_39 : decode cX3_letPass 39 = .ok (.invokevirtual 223, 3) := by decide +kernel
theorem dX3_letPass_42 : decode cX3_letPass 42 = .ok (.aload_n 0, 1) := by decide +kernel
theorem dX3_letPass_43 : decode cX3_letPass 43 = .ok (.dup, 1) := by decide +kernel
theorem dX3_letPass_44 : decode cX3_letPass 44 = .ok (.getfield 49, 3) := by decide +kernel
theorem dX3_letPass_47 : decode cX3_letPass 47 = .ok (.iconst 1, 1) := by decide +kernel
theorem dX3_letPass_48 : decode cX3_letPass 48 = .ok (.iadd, 1) := by decide +kernel
theorem dX3_letPass_49 : decode cX3_letPass 49 = .ok (.putfield 49, 3) := by decide +kernel
theorem dX3_letPass_52 : decode cX3_letPass 52 = .ok (.iinc 3 1, 3) := by decide +kernel
theorem dX3_letPass_55 : decode cX3_letPass 55 = .ok (.goto (-48), 3) := by decide +kernel
theorem dX3_letPass_58 : decode cX3_letPass 58 = .ok (.aload_n 0, 1) := by decide +kernel
theorem dX3_letPass_59 : decode cX3_letPass 59 = .ok (.getfield 58, 3) := by decide +kernel
theorem dX3_letPass_62 : decode cX3_letPass 62 = .ok (.iload_n 2, 1) := by decide +kernel
theorem dX3_letPass_63 : decode cX3_letPass 63 = .ok (.isub, 1) := by decide +kernel
theorem dX3_letPass_64 : decode cX3_letPass 64 = .ok (.ireturn, 1) := by decide +kernel
theorem dX3_shelfAfterWalk_0 : decode cX3_shelfAfterWalk 0 = .ok (.aload_n 0, 1) := by decide +kernel
theorem dX3_shelfAfterWalk_1 : decode cX3_shelfAfterWalk 1 = .ok (.getfield 21, 3) := by decide +kernel
theorem dX3_shelfAfterWalk_4 : decode cX3_shelfAfterWalk 4 = .ok (.getfield 161, 3) := by decide +kernel
theorem dX3_shelfAfterWalk_7 : decode cX3_shelfAfterWalk 7 = .ok (.ifCond .ne 11, 3) := by decide +kernel
theorem dX3_shelfAfterWalk_10 : decode cX3_shelfAfterWalk 10 = .ok (.aload_n 0, 1) := by decide +kernel
theorem dX3_shelfAfterWalk_11 : decode cX3_shelfAfterWalk 11 = .ok (.getfield 21, 3) := by decide +kernel
theorem dX3_shelfAfterWalk_14 : decode cX3_shelfAfterWalk 14 = .ok (.getfield 211, 3) := by decide +kernel
theorem dX3_shelfAfterWalk_17 : decode cX3_shelfAfterWalk 17 = .ok (.ireturn, 1) := by decide +kernel
theorem dX3_shelfAfterWalk_18 : decode cX3_shelfAfterWalk 18 = .ok (.aload_n 0, 1) := by decide +kernel
theorem dX3_shelfAfterWalk_19 : decode cX3_shelfAfterWalk 19 = .ok (.getfield 12, 3) := by decide +kernel
theorem dX3_shelfAfterWalk_22 : decode cX3_shelfAfterWalk 22 = .ok (.aload_n 0, 1) := by decide +kernel
theorem dX3_shelfAfterWalk_23 : decode cX3_shelfAfterWalk 23 = .ok (.getfield 21, 3) := by decide +kernel
theorem dX3_shelfAfterWalk_26 : decode cX3_shelfAfterWalk 26 = .ok (.getfield 211, 3) := by decide +kernel
theorem dX3_shelfAfterWalk_29 : decode cX3_shelfAfterWalk 29 = .ok (.aload_n 0, 1) := by decide +kernel
theorem dX3_shelfAfterWalk_30 : decode cX3_shelfAfterWalk 30 = .ok (.getfield 21, 3) := by decide +kernel
theorem dX3_shelfAfterWalk_33 : decode cX3_shelfAfterWalk 33 = .ok (.invokevirtual 226, 3) := by decide +kernel
theorem dX3_shelfAfterWalk_36 : decode cX3_shelfAfterWalk 36 = .ok (.invokevirtual 229, 3) := by decide +kernel
theorem dX3_shelfAfterWalk_39 : decode cX3_shelfAfterWalk 39 = .ok (.ireturn, 1) := by decide +kernel
theorem dX3_catchMice_0 : decode cX3_catchMice 0 = .ok (.aload_n 0, 1) := by decide +kernel
theorem dX3_catchMice_1 : decode cX3_catchMice 1 = .ok (.getfield 12, 3) := by decide +kernel
theorem dX3_catchMice_4 : decode cX3_catchMice 4 = .ok (.getfield 145, 3) := by decide +kernel
theorem dX3_catchMice_7 : decode cX3_catchMice 7 = .ok (.aload_n 0, 1) := by decide +kernel
theorem dX3_catchMice_8 : decode cX3_catchMice 8 = .ok (.getfield 21, 3) := by decide +kernel
theorem dX3_catchMice_11 : decode cX3_catchMice 11 = .ok (.getfield 211, 3) := by decide +kernel
theorem dX3_catchMice_14 : decode cX3_catchMice 14 = .ok (.invokestatic 148, 3) := by decide +kernel
theorem dX3_catchMice_17 : decode cX3_catchMice 17 = .ok (.ifCond .eq 4, 3) := by decide +kernel
theorem dX3_catchMice_20 : decode cX3_catchMice 20 = .ok (.return_, 1) := by decide +kernel
theorem dX3_catchMice_21 : decode cX3_catchMice 21 = .ok (.iconst 0, 1) := by decide +kernel
theorem dX3_catchMice_22 : decode cX3_catchMice 22 = .ok (.istore_n 1, 1) := by decide +kernel
theorem dX3_catchMice_23 : decode cX3_catchMice 23 = .ok (.iconst 0, 1) := by decide +kernel
theorem dX3_catchMice_24 : decode cX3_catchMice 24 = .ok (.istore_n 2, 1) := by decide +kernel
theorem dX3_catchMice_25 : decode cX3_catchMice 25 = .ok (.iload_n 2, 1) := by decide +kernel
theorem dX3_catchMice_26 : decode cX3_catchMice 26 = .ok (.aload_n 0, 1) := by decide +kernel
theorem dX3_catchMice_27 : decode cX3_catchMice 27 = .ok (.getfield 28, 3) := by decide +kernel
theorem dX3_catchMice_30 : decode cX3_catchMice 30 = .ok (.getfield 232, 3) := by decide +kernel
theorem dX3_catchMice_33 : decode cX3_catchMice 33 = .ok (.if_icmp .ge 75, 3) := by decide +kernel
theorem dX3_catchMice_36 : decode cX3_catchMice 36 = .ok (.aload_n 0, 1) := by decide +kernel
theorem dX3_catchMice_37 : decode cX3_catchMice 37 = .ok (.getfield 28, 3) := by decide +kernel
theorem dX3_catchMice_40 : decode cX3_catchMice 40 = .ok (.getfield 233, 3) := by decide +kernel
theorem dX3_catchMice_43 : decode cX3_catchMice 43 = .ok (.iload_n 2, 1) := by decide +kernel
theorem dX3_catchMice_44 : decode cX3_catchMice 44 = .ok (.invokestatic 157, 3) := by decide +kernel
theorem dX3_catchMice_47 : decode cX3_catchMice 47 = .ok (.aload_n 0, 1) := by decide +kernel
theorem dX3_catchMice_48 : decode cX3_catchMice 48 = .ok (.getfield 21, 3) := by decide +kernel
theorem dX3_catchMice_51 : decode cX3_catchMice 51 = .ok (.getfield 211, 3) := by decide +kernel
theorem dX3_catchMice_54 : decode cX3_catchMice 54 = .ok (.if_icmp .ne 36, 3) := by decide +kernel
theorem dX3_catchMice_57 : decode cX3_catchMice 57 = .ok (.aload_n 0, 1) := by decide +kernel
theorem dX3_catchMice_58 : decode cX3_catchMice 58 = .ok (.dup, 1) := by decide +kernel
theorem dX3_catchMice_59 : decode cX3_catchMice 59 = .ok (.getfield 58, 3) := by decide +kernel
theorem dX3_catchMice_62 : decode cX3_catchMice 62 = .ok (.iconst 1, 1) := by decide +kernel
theorem dX3_catchMice_63 : decode cX3_catchMice 63 = .ok (.iadd, 1) := by decide +kernel
theorem dX3_catchMice_64 : decode cX3_catchMice 64 = .ok (.putfield 58, 3) := by decide +kernel
theorem dX3_catchMice_67 : decode cX3_catchMice 67 = .ok (.aload_n 0, 1) := by decide +kernel
theorem dX3_catchMice_68 : decode cX3_catchMice 68 = .ok (.dup, 1) := by decide +kernel
theorem dX3_catchMice_69 : decode cX3_catchMice 69 = .ok (.getfield 64, 3) := by decide +kernel
theorem dX3_catchMice_72 : decode cX3_catchMice 72 = .ok (.aload_n 0, 1) := by decide +kernel
theorem dX3_catchMice_73 : decode cX3_catchMice 73 = .ok (.getfield 28, 3) := by decide +kernel
theorem dX3_catchMice_76 : decode cX3_catchMice 76 = .ok (.getfield 235, 3) := by decide +kernel
theorem dX3_catchMice_79 : decode cX3_catchMice 79 = .ok (.iload_n 2, 1) := by decide +kernel
theorem dX3_catchMice_80 : decode cX3_catchMice 80 = .ok (.invokestatic 157, 3) := by decide +kernel
theorem dX3_catchMice_83 : decode cX3_catchMice 83 = .ok (.iadd, 1) := by decide +kernel
theorem dX3_catchMice_84 : decode cX3_catchMice 84 = .ok (.putfield 64, 3) := by decide +kernel
theorem dX3_catchMice_87 : decode cX3_catchMice 87 = .ok (.goto 15, 3) := by decide +kernel
theorem dX3_catchMice_90 : decode cX3_catchMice 90 = .ok (.aload_n 0, 1) := by decide +kernel
theorem dX3_catchMice_91 : decode cX3_catchMice 91 = .ok (.getfield 28, 3) := by decide +kernel
theorem dX3_catchMice_94 : decode cX3_catchMice 94 = .ok (.iload_n 2, 1) := by decide +kernel
theorem dX3_catchMice_95 : decode cX3_catchMice 95 = .ok (.iload_n 1, 1) := by decide +kernel
theorem dX3_catchMice_96 : decode cX3_catchMice 96 = .ok (.invokevirtual 237, 3) := by decide +kernel
theorem dX3_catchMice_99 : decode cX3_catchMice 99 = .ok (.iinc 1 1, 3) := by decide +kernel
theorem dX3_catchMice_102 : decode cX3_catchMice 102 = .ok (.iinc 2 1, 3) := by decide +kernel
theorem dX3_catchMice_105 : decode cX3_catchMice 105 = .ok (.goto (-80), 3) := by decide +kernel
theorem dX3_catchMice_108 : decode cX3_catchMice 108 = .ok (.aload_n 0, 1) := by decide +kernel
theorem dX3_catchMice_109 : decode cX3_catchMice 109 = .ok (.getfield 28, 3) := by decide +kernel
theorem dX3_catchMice_112 : decode cX3_catchMice 112 = .ok (.iload_n 1, 1) := by decide +kernel
theorem dX3_catchMice_113 : decode cX3_catchMice 113 = .ok (.putfield 232, 3) := by decide +kernel
theorem dX3_catchMice_116 : decode cX3_catchMice 116 = .ok (.return_, 1) := by decide +kernel
theorem dX3_visitMice_0 : decode cX3_visitMice 0 = .ok (.iconst 0, 1) := by decide +kernel
theorem dX3_visitMice_1 : decode cX3_visitMice 1 = .ok (.istore_n 1, 1) := by decide +kernel
theorem dX3_visitMice_2 : decode cX3_visitMice 2 = .ok (.iconst 0, 1) := by decide +kernel
theorem dX3_visitMice_3 : decode cX3_visitMice 3 = .ok (.istore_n 2, 1) := by decide +kernel
theorem dX3_visitMice_4 : decode cX3_visitMice 4 = .ok (.iload_n 2, 1) := by decide +kernel
theorem dX3_visitMice_5 : decode cX3_visitMice 5 = .ok (.aload_n 0, 1) := by decide +kernel
theorem dX3_visitMice_6 : decode cX3_visitMice 6 = .ok (.getfield 28, 3) := by decide +kernel
theorem dX3_visitMice_9 : decode cX3_visitMice 9 = .ok (.getfield 232, 3) := by decide +kernel
theorem dX3_visitMice_12 : decode cX3_visitMice 12 = .ok (.if_icmp .ge 42, 3) := by decide +kernel
theorem dX3_visitMice_15 : decode cX3_visitMice 15 = .ok (.aload_n 0, 1) := by decide +kernel
theorem dX3_visitMice_16 : decode cX3_visitMice 16 = .ok (.iload_n 2, 1) := by decide +kernel
theorem dX3_visitMice_17 : decode cX3_visitMice 17 = .ok (.invokevirtual 241, 3) := by decide +kernel
theorem dX3_visitMice_20 : decode cX3_visitMice 20 = .ok (.ifCond .eq 18, 3) := by decide +kernel
theorem dX3_visitMice_23 : decode cX3_visitMice 23 = .ok (.aload_n 0, 1) := by decide +kernel
theorem dX3_visitMice_24 : decode cX3_visitMice 24 = .ok (.getfield 28, 3) := by decide +kernel
theorem dX3_visitMice_27 : decode cX3_visitMice 27 = .ok (.iload_n 2, 1) := by decide +kernel
theorem dX3_visitMice_28 : decode cX3_visitMice 28 = .ok (.iload_n 1, 1) := by decide +kernel
theorem dX3_visitMice_29 : decode cX3_visitMice 29 = .ok (.invokevirtual 237, 3) := by decide +kernel
theorem dX3_visitMice_32 : decode cX3_visitMice 32 = .ok (.iinc 1 1, 3) := by decide +kernel
theorem dX3_visitMice_35 : decode cX3_visitMice 35 = .ok (.goto 13, 3) := by decide +kernel
theorem dX3_visitMice_38 : decode cX3_visitMice 38 = .ok (.aload_n 0, 1) := by decide +kernel
theorem dX3_visitMice_39 : decode cX3_visitMice 39 = .ok (.dup, 1) := by decide +kernel
theorem dX3_visitMice_40 : decode cX3_visitMice 40 = .ok (.getfield 61, 3) := by decide +kernel
theorem dX3_visitMice_43 : decode cX3_visitMice 43 = .ok (.iconst 1, 1) := by decide +kernel
theorem dX3_visitMice_44 : decode cX3_visitMice 44 = .ok (.iadd, 1) := by decide +kernel
theorem dX3_visitMice_45 : decode cX3_visitMice 45 = .ok (.putfield 61, 3) := by decide +kernel
theorem dX3_visitMice_48 : decode cX3_visitMice 48 = .ok (.iinc 2 1, 3) := by decide +kernel
theorem dX3_visitMice_51 : decode cX3_visitMice 51 = .ok (.goto (-47), 3) := by decide +kernel
theorem dX3_visitMice_54 : decode cX3_visitMice 54 = .ok (.aload_n 0, 1) := by decide +kernel
theorem dX3_visitMice_55 : decode cX3_visitMice 55 = .ok (.getfield 28, 3) := by decide +kernel
theorem dX3_visitMice_58 : decode cX3_visitMice 58 = .ok (.iload_n 1, 1) := by decide +kernel
theorem dX3_visitMice_59 : decode cX3_visitMice 59 = .ok (.putfield 232, 3) := by decide +kernel
theorem dX3_visitMice_62 : decode cX3_visitMice 62 = .ok (.return_, 1) := by decide +kernel
theorem dX3_staysAfterVisit_0 : decode cX3_staysAfterVisit 0 = .ok (.aload_n 0, 1) := by decide +kernel
theorem dX3_staysAfterVisit_1 : decode cX3_staysAfterVisit 1 = .ok (.getfield 28, 3) := by decide +kernel
theorem dX3_staysAfterVisit_4 : decode cX3_staysAfterVisit 4 = .ok (.getfield 233, 3) := by decide +kernel
theorem dX3_staysAfterVisit_7 : decode cX3_staysAfterVisit 7 = .ok (.iload_n 1, 1) := by decide +kernel
theorem dX3_staysAfterVisit_8 : decode cX3_staysAfterVisit 8 = .ok (.invokestatic 157, 3) := by decide +kernel
theorem dX3_staysAfterVisit_11 : decode cX3_staysAfterVisit 11 = .ok (.istore_n 2, 1) := by decide +kernel
theorem dX3_staysAfterVisit_12 : decode cX3_staysAfterVisit 12 = .ok (.aload_n 0, 1) := by decide +kernel
theorem dX3_staysAfterVisit_13 : decode cX3_staysAfterVisit 13 = .ok (.getfield 12, 3) := by decide +kernel
theorem dX3_staysAfterVisit_16 : decode cX3_staysAfterVisit 16 = .ok (.getfield 154, 3) := by decide +kernel
theorem dX3_staysAfterVisit_19 : decode cX3_staysAfterVisit 19 = .ok (.iload_n 2, 1) := by decide +kernel
theorem dX3_staysAfterVisit_20 : decode cX3_staysAfterVisit 20 = .ok (.invokestatic 157, 3) := by decide +kernel
theorem dX3_staysAfterVisit_23 : decode cX3_staysAfterVisit 23 = .ok (.ifCond .le 33, 3) := by decide +kernel
theorem dX3_staysAfterVisit_26 : decode cX3_staysAfterVisit 26 = .ok (.aload_n 0, 1) := by decide +kernel
theorem dX3_staysAfterVisit_27 : decode cX3_staysAfterVisit 27 = .ok (.getfield 12, 3) := by decide +kernel
theorem dX3_staysAfterVisit_30 : decode cX3_staysAfterVisit 30 = .ok (.iload_n 2, 1) := by decide +kernel
theorem dX3_staysAfterVisit_31 : decode cX3_staysAfterVisit 31 = .ok (.iconst (-1), 1) := by decide +kernel
theorem dX3_staysAfterVisit_32 : decode cX3_staysAfterVisit 32 = .ok (.invokevirtual 190, 3) := by decide +kernel
theorem dX3_staysAfterVisit_35 : decode cX3_staysAfterVisit 35 = .ok (.pop, 1) := by decide +kernel
theorem dX3_staysAfterVisit_36 : decode cX3_staysAfterVisit 36 = .ok (.aload_n 0, 1) := by decide +kernel
theorem dX3_staysAfterVisit_37 : decode cX3_staysAfterVisit 37 = .ok (.getfield 28, 3) := by decide +kernel
theorem dX3_staysAfterVisit_40 : decode cX3_staysAfterVisit 40 = .ok (.iload_n 1, 1) := by decide +kernel
theorem dX3_staysAfterVisit_41 : decode cX3_staysAfterVisit 41 = .ok (.invokevirtual 244, 3) := by decide +kernel
theorem dX3_staysAfterVisit_44 : decode cX3_staysAfterVisit 44 = .ok (.aload_n 0, 1) := by decide +kernel
theorem dX3_staysAfterVisit_45 : decode cX3_staysAfterVisit 45 = .ok (.dup, 1) := by decide +kernel
theorem dX3_staysAfterVisit_46 : decode cX3_staysAfterVisit 46 = .ok (.getfield 55, 3) := by decide +kernel
theorem dX3_staysAfterVisit_49 : decode cX3_staysAfterVisit 49 = .ok (.iconst 1, 1) := by decide +kernel
theorem dX3_staysAfterVisit_50 : decode cX3_staysAfterVisit 50 = .ok (.iadd, 1) := by decide +kernel
theorem dX3_staysAfterVisit_51 : decode cX3_staysAfterVisit 51 = .ok (.putfield 55, 3) := by decide +kernel
theorem dX3_staysAfterVisit_54 : decode cX3_staysAfterVisit 54 = .ok (.iconst 1, 1) := by decide +kernel
theorem dX3_staysAfterVisit_55 : decode cX3_staysAfterVisit 55 = .ok (.ireturn, 1) := by decide +kernel
theorem dX3_staysAfterVisit_56 : decode cX3_staysAfterVisit 56 = .ok (.aload_n 0, 1) := by decide +kernel
theorem dX3_staysAfterVisit_57 : decode cX3_staysAfterVisit 57 = .ok (.getfield 28, 3) := by decide +kernel
theorem dX3_staysAfterVisit_60 : decode cX3_staysAfterVisit 60 = .ok (.getfield 248, 3) := by decide +kernel
theorem dX3_staysAfterVisit_63 : decode cX3_staysAfterVisit 63 = .ok (.iload_n 1, 1) := by decide +kernel
theorem dX3_staysAfterVisit_64 : decode cX3_staysAfterVisit 64 = .ok (.invokestatic 157, 3) := by decide +kernel
theorem dX3_staysAfterVisit_67 : decode cX3_staysAfterVisit 67 = .ok (.iconst 1, 1) := by decide +kernel
theorem dX3_staysAfterVisit_68 : decode cX3_staysAfterVisit 68 = .ok (.iadd, 1) := by decide +kernel
theorem dX3_staysAfterVisit_69 : decode cX3_staysAfterVisit 69 = .ok (.istore_n 3, 1) := by decide +kernel
theorem dX3_staysAfterVisit_70 : decode cX3_staysAfterVisit 70 = .ok (.iload_n 3, 1) := by decide +kernel
theorem dX3_staysAfterVisit_71 : decode cX3_staysAfterVisit 71 = .ok (.iconst 3, 1) := by decide +kernel
theorem dX3_staysAfterVisit_72 : decode cX3_staysAfterVisit 72 = .ok (.if_icmp .lt 5, 3) := by decide +kernel
theorem dX3_staysAfterVisit_75 : decode cX3_staysAfterVisit 75 = .ok (.iconst 0, 1) := by decide +kernel
theorem dX3_staysAfterVisit_76 : decode cX3_staysAfterVisit 76 = .ok (.ireturn, 1) := by decide +kernel
theorem dX3_staysAfterVisit_77 : decode cX3_staysAfterVisit 77 = .ok (.aload_n 0, 1) := by decide +kernel
theorem dX3_staysAfterVisit_78 : decode cX3_staysAfterVisit 78 = .ok (.getfield 28, 3) := by decide +kernel
theorem dX3_staysAfterVisit_81 : decode cX3_staysAfterVisit 81 = .ok (.getfield 248, 3) := by decide +kernel
theorem dX3_staysAfterVisit_84 : decode cX3_staysAfterVisit 84 = .ok (.iload_n 1, 1) := by decide +kernel
theorem dX3_staysAfterVisit_85 : decode cX3_staysAfterVisit 85 = .ok (.iload_n 3, 1) := by decide +kernel
theorem dX3_staysAfterVisit_86 : decode cX3_staysAfterVisit 86 = .ok (.invokestatic 251, 3) := by decide +kernel
theorem dX3_staysAfterVisit_89 : decode cX3_staysAfterVisit 89 = .ok (.aload_n 0, 1) := by decide +kernel
theorem dX3_staysAfterVisit_90 : decode cX3_staysAfterVisit 90 = .ok (.getfield 28, 3) := by decide +kernel
theorem dX3_staysAfterVisit_93 : decode cX3_staysAfterVisit 93 = .ok (.getfield 233, 3) := by decide +kernel
theorem dX3_staysAfterVisit_96 : decode cX3_staysAfterVisit 96 = .ok (.iload_n 1, 1) := by decide +kernel
theorem dX3_staysAfterVisit_97 : decode cX3_staysAfterVisit 97 = .ok (.aload_n 0, 1) := by decide +kernel
theorem dX3_staysAfterVisit_98 : decode cX3_staysAfterVisit 98 = .ok (.getfield 12, 3) := by decide +kernel
theorem dX3_staysAfterVisit_101 : decode cX3_staysAfterVisit 101 = .ok (.iload_n 2, 1) := by decide +kernel
theorem dX3_staysAfterVisit_102 : decode cX3_staysAfterVisit 102 = .ok (.invokevirtual 255, 3) := by decide +kernel
theorem dX3_staysAfterVisit_105 : decode cX3_staysAfterVisit 105 = .ok (.invokestatic 251, 3) := by decide +kernel
theorem dX3_staysAfterVisit_108 : decode cX3_staysAfterVisit 108 = .ok (.iconst 1, 1) := by decide +kernel
theorem dX3_staysAfterVisit_109 : decode cX3_staysAfterVisit 109 = .ok (.ireturn, 1) := by decide +kernel
theorem dX3_drawMouse_0 : decode cX3_drawMouse 0 = .ok (.aload_n 0, 1) := by decide +kernel
theorem dX3_drawMouse_1 : decode cX3_drawMouse 1 = .ok (.aload_n 0, 1) := by decide +kernel
theorem dX3_drawMouse_2 : decode cX3_drawMouse 2 = .ok (.getfield 46, 3) := by decide +kernel
theorem dX3_drawMouse_5 : decode cX3_drawMouse 5 = .ok (.bipush 109, 2) := by decide +kernel
theorem dX3_drawMouse_7 : decode cX3_drawMouse 7 = .ok (.imul, 1) := by decide +kernel
theorem dX3_drawMouse_8 : decode cX3_drawMouse 8 = .ok (.bipush 89, 2) := by decide +kernel
theorem dX3_drawMouse_10 : decode cX3_drawMouse 10 = .ok (.iadd, 1) := by decide +kernel
theorem dX3_drawMouse_11 : decode cX3_drawMouse 11 = .ok (.sipush 1024, 3) := by decide +kernel
theorem dX3_drawMouse_14 : decode cX3_drawMouse 14 = .ok (.irem, 1) := by decide +kernel
theorem dX3_drawMouse_15 : decode cX3_drawMouse 15 = .ok (.putfield 46, 3) := by decide +kernel
theorem dX3_drawMouse_18 : decode cX3_drawMouse 18 = .ok (.aload_n 0, 1) := by decide +kernel
theorem dX3_drawMouse_19 : decode cX3_drawMouse 19 = .ok (.getfield 46, 3) := by decide +kernel
theorem dX3_drawMouse_22 : decode cX3_drawMouse 22 = .ok (.bipush 16, 2) := by decide +kernel
theorem dX3_drawMouse_24 : decode cX3_drawMouse 24 = .ok (.irem, 1) := by decide +kernel
theorem dX3_drawMouse_25 : decode cX3_drawMouse 25 = .ok (.aload_n 0, 1) := by decide +kernel
theorem dX3_drawMouse_26 : decode cX3_drawMouse 26 = .ok (.getfield 32, 3) := by decide +kernel
theorem dX3_drawMouse_29 : decode cX3_drawMouse 29 = .ok (.if_icmp .ge 47, 3) := by decide +kernel
theorem dX3_drawMouse_32 : decode cX3_drawMouse 32 = .ok (.aload_n 0, 1) := by decide +kernel
theorem dX3_drawMouse_33 : decode cX3_drawMouse 33 = .ok (.getfield 12, 3) := by decide +kernel
theorem dX3_drawMouse_36 : decode cX3_drawMouse 36 = .ok (.getfield 120, 3) := by decide +kernel
theorem dX3_drawMouse_39 : decode cX3_drawMouse 39 = .ok (.ifCond .le 37, 3) := by decide +kernel
theorem dX3_drawMouse_42 : decode cX3_drawMouse 42 = .ok (.aload_n 0, 1) := by decide +kernel
theorem dX3_drawMouse_43 : decode cX3_drawMouse 43 = .ok (.getfield 28, 3) := by decide +kernel
theorem dX3_drawMouse_46 : decode cX3_drawMouse 46 = .ok (.getfield 232, 3) := by decide +kernel
theorem dX3_drawMouse_49 : decode cX3_drawMouse 49 = .ok (.bipush 8, 2) := by decide +kernel
theorem dX3_drawMouse_51 : decode cX3_drawMouse 51 = .ok (.if_icmp .ge 25, 3) := by decide +kernel
theorem dX3_drawMouse_54 : decode cX3_drawMouse 54 = .ok (.aload_n 0, 1) := by decide +kernel
theorem dX3_drawMouse_55 : decode cX3_drawMouse 55 = .ok (.getfield 28, 3) := by decide +kernel
theorem dX3_drawMouse_58 : decode cX3_drawMouse 58 = .ok (.aload_n 0, 1) := by decide +kernel
theorem dX3_drawMouse_59 : decode cX3_drawMouse 59 = .ok (.getfield 46, 3) := by decide +kernel
theorem dX3_drawMouse_62 : decode cX3_drawMouse 62 = .ok (.bipush 16, 2) := by decide +kernel
theorem dX3_drawMouse_64 : decode cX3_drawMouse 64 = .ok (.idiv, 1) := by decide +kernel
theorem dX3_drawMouse_65 : decode cX3_drawMouse 65 = .ok (.aload_n 0, 1) := by decide +kernel
theorem dX3_drawMouse_66 : decode cX3_drawMouse 66 = .ok (.getfield 12, 3) := by decide +kernel
theorem dX3_drawMouse_69 : decode cX3_drawMouse 69 = .ok (.getfield 120, 3) := by decide +kernel
theorem dX3_drawMouse_72 : decode cX3_drawMouse 72 = .ok (.irem, 1) := by decide +kernel
theorem dX3_drawMouse_73 : decode cX3_drawMouse 73 = .ok (.invokevirtual 258, 3) := by decide +kernel
theorem dX3_drawMouse_76 : decode cX3_drawMouse 76 = .ok (.return_, 1) := by decide +kernel
theorem dX3_countLapSteps_0 : decode cX3_countLapSteps 0 = .ok (.iconst 0, 1) := by decide +kernel
theorem dX3_countLapSteps_1 : decode cX3_countLapSteps 1 = .ok (.istore_n 1, 1) := by decide +kernel
theorem dX3_countLapSteps_2 : decode cX3_countLapSteps 2 = .ok (.iconst 0, 1) := by decide +kernel
theorem dX3_countLapSteps_3 : decode cX3_countLapSteps 3 = .ok (.istore_n 2, 1) := by decide +kernel
theorem dX3_countLapSteps_4 : decode cX3_countLapSteps 4 = .ok (.iload_n 2, 1) := by decide +kernel
theorem dX3_countLapSteps_5 : decode cX3_countLapSteps 5 = .ok (.aload_n 0, 1) := by decide +kernel
theorem dX3_countLapSteps_6 : decode cX3_countLapSteps 6 = .ok (.getfield 21, 3) := by decide +kernel
theorem dX3_countLapSteps_9 : decode cX3_countLapSteps 9 = .ok (.getfield 161, 3) := by decide +kernel
theorem dX3_countLapSteps_12 : decode cX3_countLapSteps 12 = .ok (.if_icmp .ge 66, 3) := by decide +kernel
theorem dX3_countLapSteps_15 : decode cX3_countLapSteps 15 = .ok (.aload_n 0, 1) := by decide +kernel
theorem dX3_countLapSteps_16 : decode cX3_countLapSteps 16 = .ok (.getfield 21, 3) := by decide +kernel
theorem dX3_countLapSteps_19 : decode cX3_countLapSteps 19 = .ok (.getfield 261, 3) := by decide +kernel
theorem dX3_countLapSteps_22 : decode cX3_countLapSteps 22 = .ok (.iload_n 2, 1) := by decide +kernel
theorem dX3_countLapSteps_23 : decode cX3_countLapSteps 23 = .ok (.invokestatic 157, 3) := by decide +kernel
theorem dX3_countLapSteps_26 : decode cX3_countLapSteps 26 = .ok (.istore_n 3, 1) := by decide +kernel
theorem dX3_countLapSteps_27 : decode cX3_countLapSteps 27 = .ok (.aload_n 0, 1) := by decide +kernel
theorem dX3_countLapSteps_28 : decode cX3_countLapSteps 28 = .ok (.getfield 21, 3) := by decide +kernel
theorem dX3_countLapSteps_31 : decode cX3_countLapSteps 31 = .ok (.getfield 261, 3) := by decide +kernel
theorem dX3_countLapSteps_34 : decode cX3_countLapSteps 34 = .ok (.aload_n 0, 1) := by decide +kernel
theorem dX3_countLapSteps_35 : decode cX3_countLapSteps 35 = .ok (.getfield 21, 3) := by decide +kernel
theorem dX3_countLapSteps_38 : decode cX3_countLapSteps 38 = .ok (.iload_n 2, 1) := by decide +kernel
theorem dX3_countLapSteps_39 : decode cX3_countLapSteps 39 = .ok (.invokevirtual 264, 3) := by decide +kernel
theorem dX3_countLapSteps_42 : decode cX3_countLapSteps 42 = .ok (.invokestatic 157, 3) := by decide +kernel
theorem dX3_countLapSteps_45 : decode cX3_countLapSteps 45 = .ok (.istore 4, 2) := by decide +kernel
theorem dX3_countLapSteps_47 : decode cX3_countLapSteps 47 = .ok (.aload_n 0, 1) := by decide +kernel
theorem dX3_countLapSteps_48 : decode cX3_countLapSteps 48 = .ok (.getfield 12, 3) := by decide +kernel
theorem dX3_countLapSteps_51 : decode cX3_countLapSteps 51 = .ok (.iload_n 3, 1) := by decide +kernel
theorem dX3_countLapSteps_52 : decode cX3_countLapSteps 52 = .ok (.iload 4, 2) := by decide +kernel
theorem dX3_countLapSteps_54 : decode cX3_countLapSteps 54 = .ok (.invokevirtual 267, 3) := by decide +kernel
theorem dX3_countLapSteps_57 : decode cX3_countLapSteps 57 = .ok (.istore 5, 2) := by decide +kernel
theorem dX3_countLapSteps_59 : decode cX3_countLapSteps 59 = .ok (.iload 5, 2) := by decide +kernel
theorem dX3_countLapSteps_61 : decode cX3_countLapSteps 61 = .ok (.iconst (-1), 1) := by decide +kernel
theorem dX3_countLapSteps_62 : decode cX3_countLapSteps 62 = .ok (.if_icmp .ne 5, 3) := by decide +kernel
theorem dX3_countLapSteps_65 : decode cX3_countLapSteps 65 = .ok (.iconst (-1), 1) := by decide +kernel
theorem dX3_countLapSteps_66 : decode cX3_countLapSteps 66 = .ok (.ireturn, 1) := by decide +kernel
theorem dX3_countLapSteps_67 : decode cX3_countLapSteps 67 = .ok (.iload_n 1, 1) := by decide +kernel
theorem dX3_countLapSteps_68 : decode cX3_countLapSteps 68 = .ok (.iload 5, 2) := by decide +kernel
theorem dX3_countLapSteps_70 : decode cX3_countLapSteps 70 = .ok (.iadd, 1) := by decide +kernel
theorem dX3_countLapSteps_71 : decode cX3_countLapSteps 71 = .ok (.istore_n 1, 1) := by decide +kernel
theorem dX3_countLapSteps_72 : decode cX3_countLapSteps 72 = .ok (.iinc 2 1, 3) := by decide +kernel
theorem dX3_countLapSteps_75 : decode cX3_countLapSteps 75 = .ok (.goto (-71), 3) := by decide +kernel
theorem dX3_countLapSteps_78 : decode cX3_countLapSteps 78 = .ok (.iload_n 1, 1) := by decide +kernel
theorem dX3_countLapSteps_79 : decode cX3_countLapSteps 79 = .ok (.ireturn, 1) := by decide +kernel
theorem dX4_init_0 : decode cX4_init 0 = .ok (.aload_n 0, 1) := by decide +kernel
theorem dX4_init_1 : decode cX4_init 1 = .ok (.invokespecial 3, 3) := by decide +kernel
theorem dX4_init_4 : decode cX4_init 4 = .ok (.aload_n 0, 1) := by decide +kernel
theorem dX4_init_5 : decode cX4_init 5 = .ok (.bipush 64, 2) := by decide +kernel
theorem dX4_init_7 : decode cX4_init 7 = .ok (.newarray .char, 2) := by decide +kernel
theorem dX4_init_9 : decode cX4_init 9 = .ok (.putfield 9, 3) := by decide +kernel
theorem dX4_init_12 : decode cX4_init 12 = .ok (.return_, 1) := by decide +kernel
theorem dX4_showShelf_0 : decode cX4_showShelf 0 = .ok (.aload_n 1, 1) := by decide +kernel
theorem dX4_showShelf_1 : decode cX4_showShelf 1 = .ok (.getfield 15, 3) := by decide +kernel
theorem dX4_showShelf_4 : decode cX4_showShelf 4 = .ok (.astore_n 3, 1) := by decide +kernel
theorem dX4_showShelf_5 : decode cX4_showShelf 5 = .ok (.aload_n 0, 1) := by decide +kernel
theorem dX4_showShelf_6 : decode cX4_showShelf 6 = .ok (.iconst 0, 1) := by decide +kernel
theorem dX4_showShelf_7 : decode cX4_showShelf 7 = .ok (.putfield 21, 3) := by decide +kernel
theorem dX4_showShelf_10 : decode cX4_showShelf 10 = .ok (.aload_n 0, 1) := by decide +kernel
theorem dX4_showShelf_11 : decode cX4_showShelf 11 = .ok (.iload_n 2, 1) := by decide +kernel
theorem dX4_showShelf_12 : decode cX4_showShelf 12 = .ok (.invokevirtual 25, 3) := by decide +kernel
theorem dX4_showShelf_15 : decode cX4_showShelf 15 = .ok (.aload_n 0, 1) := by decide +kernel
theorem dX4_showShelf_16 : decode cX4_showShelf 16 = .ok (.bipush 58, 2) := by decide +kernel
theorem dX4_showShelf_18 : decode cX4_showShelf 18 = .ok (.invokevirtual 29, 3) := by decide +kernel
theorem dX4_showShelf_21 : decode cX4_showShelf 21 = .ok (.aload_n 0, 1) := by decide +kernel
theorem dX4_showShelf_22 : decode cX4_showShelf 22 = .ok (.aload_n 3, 1) := by decide +kernel
theorem dX4_showShelf_23 : decode cX4_showShelf 23 = .ok (.getfield 33, 3) := by decide +kernel
theorem dX4_showShelf_26 : decode cX4_showShelf 26 = .ok (.iload_n 2, 1) := by decide +kernel
theorem dX4_showShelf_27 : decode cX4_showShelf 27 = .ok (.invokestatic 39, 3) := by decide +kernel
theorem dX4_showShelf_30 : decode cX4_showShelf 30 = .ok (.invokevirtual 25, 3) := by decide +kernel
theorem dX4_showShelf_33 : decode cX4_showShelf 33 = .ok (.aload_n 0, 1) := by decide +kernel
theorem dX4_showShelf_34 : decode cX4_showShelf 34 = .ok (.aload_n 3, 1) := by decide +kernel
theorem dX4_showShelf_35 : decode cX4_showShelf 35 = .ok (.getfield 43, 3) := by decide +kernel
theorem dX4_showShelf_38 : decode cX4_showShelf 38 = .ok (.iload_n 2, 1) := by decide +kernel
theorem dX4_showShelf_39 : decode cX4_showShelf 39 = .ok (.invokestatic 46, 3) := by decide +kernel
theorem dX4_showShelf_42 : decode cX4_showShelf 42 = .ok (.bipush 98, 2) := by decide +kernel
theorem dX4_showShelf_44 : decode cX4_showShelf 44 = .ok (.invokevirtual 50, 3) := by decide +kernel
theorem dX4_showShelf_47 : decode cX4_showShelf 47 = .ok (.aload_n 0, 1) := by decide +kernel
theorem dX4_showShelf_48 : decode cX4_showShelf 48 = .ok (.aload_n 1, 1) := by decide +kernel
theorem dX4_showShelf_49 : decode cX4_showShelf 49 = .ok (.getfield 54, 3) := by decide +kernel
theorem dX4_showShelf_52 : decode cX4_showShelf 52 = .ok (.getfield 58, 3) := by decide +kernel
theorem dX4_showShelf_55 : decode cX4_showShelf 55 = .ok (.iload_n 2, 1) := by decide +kernel
theorem dX4_showShelf_56 : decode cX4_showShelf 56 = .ok (.if_icmp .ne 7, 3) := by decide +kernel
theorem dX4_showShelf_59 : decode cX4_showShelf 59 = .ok (.iconst 1, 1) := by decide +kernel
theorem dX4_showShelf_60 : decode cX4_showShelf 60 = .ok (.goto 4, 3) := by decide +kernel
theorem dX4_showShelf_63 : decode cX4_showShelf 63 = .ok (.iconst 0, 1) := by decide +kernel
theorem dX4_showShelf_64 : decode cX4_showShelf 64 = .ok (.bipush 67, 2) := by decide +kernel
theorem dX4_showShelf_66 : decode cX4_showShelf 66 = .ok (.invokevirtual 50, 3) := by decide +kernel
theorem dX4_showShelf_69 : decode cX4_showShelf 69 = .ok (.aload_n 1, 1) := by decide +kernel
theorem dX4_showShelf_70 : decode cX4_showShelf 70 = .ok (.getfield 63, 3) := by decide +kernel
theorem dX4_showShelf_73 : decode cX4_showShelf 73 = .ok (.iload_n 2, 1) := by decide +kernel
theorem dX4_showShelf_74 : decode cX4_showShelf 74 = .ok (.invokevirtual 67, 3) := by decide +kernel
theorem dX4_showShelf_77 : decode cX4_showShelf 77 = .ok (.istore 4, 2) := by decide +kernel
theorem dX4_showShelf_79 : decode cX4_showShelf 79 = .ok (.iconst 0, 1) := by decide +kernel
theorem dX4_showShelf_80 : decode cX4_showShelf 80 = .ok (.istore 5, 2) := by decide +kernel
theorem dX4_showShelf_82 : decode cX4_showShelf 82 = .ok (.iload 5, 2) := by decide +kernel
theorem dX4_showShelf_84 : decode cX4_showShelf 84 = .ok (.iload 4, 2) := by decide +kernel
theorem dX4_showShelf_86 : decode cX4_showShelf 86 = .ok (.if_icmp .ge 15, 3) := by decide +kernel
theorem dX4_showShelf_89 : decode cX4_showShelf 89 = .ok (.aload_n 0, 1) := by decide +kernel
theorem dX4_showShelf_90 : decode cX4_showShelf 90 = .ok (.bipush 109, 2) := by decide +kernel
theorem dX4_showShelf_92 : decode cX4_showShelf 92 = .ok (.invokevirtual 29, 3) := by decide +kernel
theorem dX4_showShelf_95 : decode cX4_showShelf 95 = .ok (.iinc 5 1, 3) := by decide +kernel
theorem dX4_showShelf_98 : decode cX4_showShelf 98 = .ok (.goto (-16), 3) := by decide +kernel
theorem dX4_showShelf_101 : decode cX4_showShelf 101 = .ok (.iconst 0, 1) := by decide +kernel
theorem dX4_showShelf_102 : decode cX4_showShelf 102 = .ok (.istore 5, 2) := by decide +kernel
theorem dX4_showShelf_104 : decode cX4_showShelf 104 = .ok (.iload 5, 2) := by decide +kernel
theorem dX4_showShelf_106 : decode cX4_showShelf 106 = .ok (.aload_n 3, 1) := by decide +kernel
theorem dX4_showShelf_107 : decode cX4_showShelf 107 = .ok (.getfield 73, 3) := by decide +kernel
theorem dX4_showShelf_110 : decode cX4_showShelf 110 = .ok (.if_icmp .ge 31, 3) := by decide +kernel
theorem dX4_showShelf_113 : decode cX4_showShelf 113 = .ok (.aload_n 3, 1) := by decide +kernel
theorem dX4_showShelf_114 : decode cX4_showShelf 114 = .ok (.iload_n 2, 1) := by decide +kernel
theorem dX4_showShelf_115 : decode cX4_showShelf 115 = .ok (.iload 5, 2) := by decide +kernel
theorem dX4_showShelf_117 : decode cX4_showShelf 117 = .ok (.invokevirtual 76, 3) := by decide +kernel
theorem dX4_showShelf_120 : decode cX4_showShelf 120 = .ok (.ifCond .eq 15, 3) := by decide +kernel
theorem dX4_showShelf_123 : decode cX4_showShelf 123 = .ok (.aload_n 0, 1) := by decide +kernel
theorem dX4_showShelf_124 : decode cX4_showShelf 124 = .ok (.bipush 45, 2) := by decide +kernel
theorem dX4_showShelf_126 : decode cX4_showShelf 126 = .ok (.invokevirtual 29, 3) := by decide +kernel
theorem dX4_showShelf_129 : decode cX4_showShelf 129 = .ok (.aload_n 0, 1) := by decide +kernel
theorem dX4_showShelf_130 : decode cX4_showShelf 130 = .ok (.iload 5, 2) := by decide +kernel
theorem dX4_showShelf_132 : decode cX4_showShelf 132 = .ok (.invokevirtual 25, 3) := by decide +kernel
theorem dX4_showShelf_135 : decode cX4_showShelf 135 = .ok (.iinc 5 1, 3) := by decide +kernel
theorem dX4_showShelf_138 : decode cX4_showShelf 138 = .ok (.goto (-34), 3) := by decide +kernel
theorem dX4_showShelf_141 : decode cX4_showShelf 141 = .ok (.return_, 1) := by decide +kernel
theorem dX4_showStops_0 : decode cX4_showStops 0 = .ok (.aload_n 0, 1) := by decide +kernel
theorem dX4_showStops_1 : decode cX4_showStops 1 = .ok (.iconst 0, 1) := by decide +kernel
theorem dX4_showStops_2 : decode cX4_showStops 2 = .ok (.putfield 21, 3) := by decide +kernel
theorem dX4_showStops_5 : decode cX4_showStops 5 = .ok (.iconst 0, 1) := by decide +kernel
theorem dX4_showStops_6 : decode cX4_showStops 6 = .ok (.istore_n 2, 1) := by decide +kernel
theorem dX4_showStops_7 : decode cX4_showStops 7 = .ok (.iload_n 2, 1) := by decide +kernel
theorem dX4_showStops_8 : decode cX4_showStops 8 = .ok (.aload_n 1, 1) := by decide +kernel
theorem dX4_showStops_9 : decode cX4_showStops 9 = .ok (.getfield 79, 3) := by decide +kernel
theorem dX4_showStops_12 : decode cX4_showStops 12 = .ok (.if_icmp .ge 55, 3) := by decide +kernel
theorem dX4_showStops_15 : decode cX4_showStops 15 = .ok (.aload_n 0, 1) := by decide +kernel
theorem dX4_showStops_16 : decode cX4_showStops 16 = .ok (.iload_n 2, 1) := by decide +kernel
theorem dX4_showStops_17 : decode cX4_showStops 17 = .ok (.ifCond .le 7, 3) := by decide +kernel
theorem dX4_showStops_20 : decode cX4_showStops 20 = .ok (.iconst 1, 1) := by decide +kernel
theorem dX4_showStops_21 : decode cX4_showStops 21 = .ok (.goto 4, 3) := by decide +kernel
theorem dX4_showStops_24 : decode cX4_showStops 24 = .ok (.iconst 0, 1) := by decide +kernel
theorem dX4_showStops_25 : decode cX4_showStops 25 = .ok (.bipush 32, 2) := by decide +kernel
theorem dX4_showStops_27 : decode cX4_showStops 27 = .ok (.invokevirtual 50, 3) := by decide +kernel
theorem dX4_showStops_30 : decode cX4_showStops 30 = .ok (.aload_n 0, 1) := by decide +kernel
theorem dX4_showStops_31 : decode cX4_showStops 31 = .ok (.aload_n 1, 1) := by decide +kernel
theorem dX4_showStops_32 : decode cX4_showStops 32 = .ok (.getfield 80, 3) := by decide +kernel
theorem dX4_showStops_35 : decode cX4_showStops 35 = .ok (.iload_n 2, 1) := by decide +kernel
theorem dX4_showStops_36 : decode cX4_showStops 36 = .ok (.invokestatic 39, 3) := by decide +kernel
theorem dX4_showStops_39 : decode cX4_showStops 39 = .ok (.invokevirtual 25, 3) := by decide +kernel
theorem dX4_showStops_42 : decode cX4_showStops 42 = .ok (.aload_n 0, 1) := by decide +kernel
theorem dX4_showStops_43 : decode cX4_showStops 43 = .ok (.iload_n 2, 1) := by decide +kernel
theorem dX4_showStops_44 : decode cX4_showStops 44 = .ok (.aload_n 1, 1) := by decide +kernel
theorem dX4_showStops_45 : decode cX4_showStops 45 = .ok (.getfield 83, 3) := by decide +kernel
theorem dX4_showStops_48 : decode cX4_showStops 48 = .ok (.if_icmp .ne 7, 3) := by decide +kernel
theorem dX4_showStops_51 : decode cX4_showStops 51 = .ok (.iconst 1, 1) := by decide +kernel
theorem dX4_showStops_52 : decode cX4_showStops 52 = .ok (.goto 4, 3) := by decide +kernel
theorem dX4_showStops_55 : decode cX4_showStops 55 = .ok (.iconst 0, 1) := by decide +kernel
theorem dX4_showStops_56 : decode cX4_showStops 56 = .ok (.bipush 42, 2) := by decide +kernel
theorem dX4_showStops_58 : decode cX4_showStops 58 = .ok (.invokevirtual 50, 3) := by decide +kernel
theorem dX4_showStops_61 : decode cX4_showStops 61 = .ok (.iinc 2 1, 3) := by decide +kernel
theorem dX4_showStops_64 : decode cX4_showStops 64 = .ok (.goto (-57), 3) := by decide +kernel
theorem dX4_showStops_67 : decode cX4_showStops 67 = .ok (.return_, 1) := by decide +kernel
theorem dX4_append_0 : decode cX4_append 0 = .ok (.aload_n 0, 1) := by decide +kernel
theorem dX4_append_1 : decode cX4_append 1 = .ok (.getfield 21, 3) := by decide +kernel
theorem dX4_append_4 : decode cX4_append 4 = .ok (.ifCond .lt 35, 3) := by decide +kernel
theorem dX4_append_7 : decode cX4_append 7 = .ok (.aload_n 0, 1) := by decide +kernel
theorem dX4_append_8 : decode cX4_append 8 = .ok (.getfield 21, 3) := by decide +kernel
theorem dX4_append_11 : decode cX4_append 11 = .ok (.aload_n 0, 1) := by decide +kernel
theorem dX4_append_12 : decode cX4_append 12 = .ok (.getfield 9, 3) := by decide +kernel
theorem dX4_append_15 : decode cX4_append 15 = .ok (.arraylength, 1) := by decide +kernel
theorem dX4_append_16 : decode cX4_append 16 = .ok (.if_icmp .ge 23, 3) := by decide +kernel
theorem dX4_append_19 : decode cX4_append 19 = .ok (.aload_n 0, 1) := by decide +kernel
theorem dX4_append_20 : decode cX4_append 20 = .ok (.getfield 9, 3) := by decide +kernel
theorem dX4_append_23 : decode cX4_append 23 = .ok (.aload_n 0, 1) := by decide +kernel
theorem dX4_append_24 : decode cX4_append 24 = .ok (.getfield 21, 3) := by decide +kernel
theorem dX4_append_27 : decode cX4_append 27 = .ok (.iload_n 1, 1) := by decide +kernel
theorem dX4_append_28 : decode cX4_append 28 = .ok (.castore, 1) := by decide +kernel
theorem dX4_append_29 : decode cX4_append 29 = .ok (.aload_n 0, 1) := by decide +kernel
theorem dX4_append_30 : decode cX4_append 30 = .ok (.dup, 1) := by decide +kernel
theorem dX4_append_31 : decode cX4_append 31 = .ok (.getfield 21, 3) := by decide +kernel
theorem dX4_append_34 : decode cX4_append 34 = .ok (.iconst 1, 1) := by decide +kernel
theorem dX4_append_35 : decode cX4_append 35 = .ok (.iadd, 1) := by decide +kernel
theorem dX4_append_36 : decode cX4_append 36 = .ok (.putfield 21, 3) := by decide +kernel
theorem dX4_append_39 : decode cX4_append 39 = .ok (.return_, 1) := by decide +kernel
theorem dX4_appendIf_0 : decode cX4_appendIf 0 = .ok (.iload_n 1, 1) := by decide +kernel
theorem dX4_appendIf_1 : decode cX4_appendIf 1 = .ok (.ifCond .eq 8, 3) := by decide +kernel
theorem dX4_appendIf_4 : decode cX4_appendIf 4 = .ok (.aload_n 0, 1) := by decide +kernel
theorem dX4_appendIf_5 : decode cX4_appendIf 5 = .ok (.iload_n 2, 1) := by decide +kernel
theorem dX4_appendIf_6 : decode cX4_appendIf 6 = .ok (.invokevirtual 29, 3) := by decide +kernel
theorem dX4_appendIf_9 : decode cX4_appendIf 9 = .ok (.return_, 1) := by decide +kernel
theorem dX4_appendNumber_0 : decode cX4_appendNumber 0 = .ok (.aload_n 0, 1) := by decide +kernel
theorem dX4_appendNumber_1 : decode cX4_appendNumber 1 = .ok (.iload_n 1, 1) := by decide +kernel
theorem dX4_appendNumber_2 : decode cX4_appendNumber 2 = .ok (.bipush 10, 2) := by decide +kernel
theorem dX4_appendNumber_4 : decode cX4_appendNumber 4 = .ok (.if_icmp .lt 7, 3) := by decide +kernel
theorem dX4_appendNumber_7 : decode cX4_appendNumber 7 = .ok (.iconst 1, 1) := by decide +kernel
theorem dX4_appendNumber_8 : decode cX4_appendNumber 8 = .ok (.goto 4, 3) := by decide +kernel
theorem dX4_appendNumber_11 : decode cX4_appendNumber 11 = .ok (.iconst 0, 1) := by decide +kernel
theorem dX4_appendNumber_12 : decode cX4_appendNumber 12 = .ok (.bipush 48, 2) := by decide +kernel
theorem dX4_appendNumber_14 : decode cX4_appendNumber 14 = .ok (.iload_n 1, 1) := by decide +kernel
theorem dX4_appendNumber_15 : decode cX4_appendNumber 15 = .ok (.bipush 10, 2) := by decide +kernel
theorem dX4_appendNumber_17 : decode cX4_appendNumber 17 = .ok (.idiv, 1) := by decide +kernel
theorem dX4_appendNumber_18 : decode cX4_appendNumber 18 = .ok (.iadd, 1) := by decide +kernel
theorem dX4_appendNumber_19 : decode cX4_appendNumber 19 = .ok (.i2c, 1) := by decide +kernel
theorem dX4_appendNumber_20 : decode cX4_appendNumber 20 = .ok (.invokevirtual 50, 3) := by decide +kernel
theorem dX4_appendNumber_23 : decode cX4_appendNumber 23 = .ok (.aload_n 0, 1) := by decide +kernel
theorem dX4_appendNumber_24 : decode cX4_appendNumber 24 = .ok (.bipush 48, 2) := by decide +kernel
theorem dX4_appendNumber_26 : decode cX4_appendNumber 26 = .ok (.iload_n 1, 1) := by decide +kernel
theorem dX4_appendNumber_27 : decode cX4_appendNumber 27 = .ok (.bipush 10, 2) := by decide +kernel
theorem dX4_appendNumber_29 : decode cX4_appendNumber 29 = .ok (.irem, 1) := by decide +kernel
theorem dX4_appendNumber_30 : decode cX4_appendNumber 30 = .ok (.iadd, 1) := by decide +kernel
theorem dX4_appendNumber_31 : decode cX4_appendNumber 31 = .ok (.i2c, 1) := by decide +kernel
theorem dX4_appendNumber_32 : decode cX4_appendNumber 32 = .ok (.invokevirtual 29, 3) := by decide +kernel
theorem dX4_appendNumber_35 : decode cX4_appendNumber 35 = .ok (.return_, 1) := by decide +kernel
theorem dX5_init_0 : decode cX5_init 0 = .ok (.aload_n 0, 1) := by decide +kernel
theorem dX5_init_1 : decode cX5_init 1 = .ok (.invokespecial 3, 3) := by decide +kernel
theorem dX5_init_4 : decode cX5_init 4 = .ok (.aload_n 0, 1) := by decide +kernel
theorem dX5_init_5 : decode cX5_init 5 = .ok (.bipush 8, 2) := by decide +kernel
theorem dX5_init_7 : decode cX5_init 7 = .ok (.newarray .int, 2) := by decide +kernel
theorem dX5_init_9 : decode cX5_init 9 = .ok (.putfield 9, 3) := by decide +kernel
theorem dX5_init_12 : decode cX5_init 12 = .ok (.aload_n 0, 1) := by decide +kernel
theorem dX5_init_13 : decode cX5_init 13 = .ok (.bipush 8, 2) := by decide +kernel
theorem dX5_init_15 : decode cX5_init 15 = .ok (.newarray .int, 2) := by decide +kernel
theorem dX5_init_17 : decode cX5_init 17 = .ok (.putfield 15, 3) := by decide +kernel
theorem dX5_init_20 : decode cX5_init 20 = .ok (.aload_n 0, 1) := by decide +kernel
theorem dX5_init_21 : decode cX5_init 21 = .ok (.bipush 8, 2) := by decide +kernel
theorem dX5_init_23 : decode cX5_init 23 = .ok (.newarray .int, 2) := by decide +kernel
theorem dX5_init_25 : decode cX5_init 25 = .ok (.putfield 18, 3) := by decide +kernel
theorem dX5_init_28 : decode cX5_init 28 = .ok (.return_, 1) := by decide +kernel
theorem dX5_copyFrom_0 : decode cX5_copyFrom 0 = .ok (.aload_n 1, 1) := by decide +kernel
theorem dX5_copyFrom_1 : decode cX5_copyFrom 1 = .ok (.getfield 9, 3) := by decide +kernel
theorem dX5_copyFrom_4 : decode cX5_copyFrom 4 = .ok (.aload_n 0, 1) := by decide +kernel
theorem dX5_copyFrom_5 : decode cX5_copyFrom 5 = .ok (.getfield 9, 3) := by decide +kernel
theorem dX5_copyFrom_8 : decode cX5_copyFrom 8 = .ok (.invokestatic 21, 3) := by decide +kernel
theorem dX5_copyFrom_11 : decode cX5_copyFrom 11 = .ok (.aload_n 1, 1) := by decide +kernel
theorem dX5_copyFrom_12 : decode cX5_copyFrom 12 = .ok (.getfield 15, 3) := by decide +kernel
theorem dX5_copyFrom_15 : decode cX5_copyFrom 15 = .ok (.aload_n 0, 1) := by decide +kernel
theorem dX5_copyFrom_16 : decode cX5_copyFrom 16 = .ok (.getfield 15, 3) := by decide +kernel
theorem dX5_copyFrom_19 : decode cX5_copyFrom 19 = .ok (.invokestatic 21, 3) := by decide +kernel
theorem dX5_copyFrom_22 : decode cX5_copyFrom 22 = .ok (.aload_n 1, 1) := by decide +kernel
theorem dX5_copyFrom_23 : decode cX5_copyFrom 23 = .ok (.getfield 18, 3) := by decide +kernel
theorem dX5_copyFrom_26 : decode cX5_copyFrom 26 = .ok (.aload_n 0, 1) := by decide +kernel
theorem dX5_copyFrom_27 : decode cX5_copyFrom 27 = .ok (.getfield 18, 3) := by decide +kernel
