theorem dX12_unlinks_15 : decode cX12_unlinks 15 = .ok (.isub, 1) := by decide +kernel
theorem dX12_unlinks_16 : decode cX12_unlinks 16 = .ok (.iastore, 1) := by decide +kernel
theorem dX12_unlinks_17 : decode cX12_unlinks 17 = .ok (.aload_n 0, 1) := by decide +kernel
theorem dX12_unlinks_18 : decode cX12_unlinks 18 = .ok (.getfield 32, 3) := by decide +kernel
theorem dX12_unlinks_21 : decode cX12_unlinks 21 = .ok (.iconst 1, 1) := by decide +kernel
theorem dX12_unlinks_22 : decode cX12_unlinks 22 = .ok (.iaload, 1) := by decide +kernel
theorem dX12_unlinks_23 : decode cX12_unlinks 23 = .ok (.ireturn, 1) := by decide +kernel
theorem dX12_unlink_0 : decode cX12_unlink 0 = .ok (.aload_n 0, 1) := by decide +kernel
theorem dX12_unlink_1 : decode cX12_unlink 1 = .ok (.iload_n 1, 1) := by decide +kernel
theorem dX12_unlink_2 : decode cX12_unlink 2 = .ok (.iload_n 2, 1) := by decide +kernel
theorem dX12_unlink_3 : decode cX12_unlink 3 = .ok (.invokevirtual 115, 3) := by decide +kernel
theorem dX12_unlink_6 : decode cX12_unlink 6 = .ok (.istore_n 3, 1) := by decide +kernel
theorem dX12_unlink_7 : decode cX12_unlink 7 = .ok (.iload_n 3, 1) := by decide +kernel
theorem dX12_unlink_8 : decode cX12_unlink 8 = .ok (.ifCond .eq 9, 3) := by decide +kernel
theorem dX12_unlink_11 : decode cX12_unlink 11 = .ok (.aload_n 0, 1) := by decide +kernel
theorem dX12_unlink_12 : decode cX12_unlink 12 = .ok (.iload_n 3, 1) := by decide +kernel
theorem dX12_unlink_13 : decode cX12_unlink 13 = .ok (.invokevirtual 87, 3) := by decide +kernel
theorem dX12_unlink_16 : decode cX12_unlink 16 = .ok (.ireturn, 1) := by decide +kernel
theorem dX12_unlink_17 : decode cX12_unlink 17 = .ok (.aload_n 0, 1) := by decide +kernel
theorem dX12_unlink_18 : decode cX12_unlink 18 = .ok (.invokevirtual 90, 3) := by decide +kernel
theorem dX12_unlink_21 : decode cX12_unlink 21 = .ok (.aload_n 0, 1) := by decide +kernel
theorem dX12_unlink_22 : decode cX12_unlink 22 = .ok (.iload_n 1, 1) := by decide +kernel
theorem dX12_unlink_23 : decode cX12_unlink 23 = .ok (.iload_n 2, 1) := by decide +kernel
theorem dX12_unlink_24 : decode cX12_unlink 24 = .ok (.invokevirtual 118, 3) := by decide +kernel
theorem dX12_unlink_27 : decode cX12_unlink 27 = .ok (.ireturn, 1) := by decide +kernel
theorem dX12_notBlind_0 : decode cX12_notBlind 0 = .ok (.aload_n 0, 1) := by decide +kernel
theorem dX12_notBlind_1 : decode cX12_notBlind 1 = .ok (.iload_n 1, 1) := by decide +kernel
theorem dX12_notBlind_2 : decode cX12_notBlind 2 = .ok (.invokevirtual 96, 3) := by decide +kernel
theorem dX12_notBlind_5 : decode cX12_notBlind 5 = .ok (.ifCond .ne 5, 3) := by decide +kernel
theorem dX12_notBlind_8 : decode cX12_notBlind 8 = .ok (.iconst 1, 1) := by decide +kernel
theorem dX12_notBlind_9 : decode cX12_notBlind 9 = .ok (.ireturn, 1) := by decide +kernel
theorem dX12_notBlind_10 : decode cX12_notBlind 10 = .ok (.aload_n 0, 1) := by decide +kernel
theorem dX12_notBlind_11 : decode cX12_notBlind 11 = .ok (.getfield 32, 3) := by decide +kernel
theorem dX12_notBlind_14 : decode cX12_notBlind 14 = .ok (.bipush 26, 2) := by decide +kernel
theorem dX12_notBlind_16 : decode cX12_notBlind 16 = .ok (.iload_n 1, 1) := by decide +kernel
theorem dX12_notBlind_17 : decode cX12_notBlind 17 = .ok (.iadd, 1) := by decide +kernel
theorem dX12_notBlind_18 : decode cX12_notBlind 18 = .ok (.iaload, 1) := by decide +kernel
theorem dX12_notBlind_19 : decode cX12_notBlind 19 = .ok (.iload_n 2, 1) := by decide +kernel
theorem dX12_notBlind_20 : decode cX12_notBlind 20 = .ok (.if_icmp .ne 13, 3) := by decide +kernel
theorem dX12_notBlind_23 : decode cX12_notBlind 23 = .ok (.aload_n 0, 1) := by decide +kernel
theorem dX12_notBlind_24 : decode cX12_notBlind 24 = .ok (.iconst 5, 1) := by decide +kernel
theorem dX12_notBlind_25 : decode cX12_notBlind 25 = .ok (.iload_n 2, 1) := by decide +kernel
theorem dX12_notBlind_26 : decode cX12_notBlind 26 = .ok (.iconst 2, 1) := by decide +kernel
theorem dX12_notBlind_27 : decode cX12_notBlind 27 = .ok (.invokevirtual 80, 3) := by decide +kernel
theorem dX12_notBlind_30 : decode cX12_notBlind 30 = .ok (.goto 4, 3) := by decide +kernel
theorem dX12_notBlind_33 : decode cX12_notBlind 33 = .ok (.iconst 0, 1) := by decide +kernel
theorem dX12_notBlind_34 : decode cX12_notBlind 34 = .ok (.ireturn, 1) := by decide +kernel
theorem dX12_blinds_0 : decode cX12_blinds 0 = .ok (.aload_n 0, 1) := by decide +kernel
theorem dX12_blinds_1 : decode cX12_blinds 1 = .ok (.getfield 32, 3) := by decide +kernel
theorem dX12_blinds_4 : decode cX12_blinds 4 = .ok (.bipush 26, 2) := by decide +kernel
theorem dX12_blinds_6 : decode cX12_blinds 6 = .ok (.iload_n 1, 1) := by decide +kernel
theorem dX12_blinds_7 : decode cX12_blinds 7 = .ok (.iadd, 1) := by decide +kernel
theorem dX12_blinds_8 : decode cX12_blinds 8 = .ok (.iload_n 2, 1) := by decide +kernel
theorem dX12_blinds_9 : decode cX12_blinds 9 = .ok (.iastore, 1) := by decide +kernel
theorem dX12_blinds_10 : decode cX12_blinds 10 = .ok (.iconst 0, 1) := by decide +kernel
theorem dX12_blinds_11 : decode cX12_blinds 11 = .ok (.istore_n 3, 1) := by decide +kernel
theorem dX12_blinds_12 : decode cX12_blinds 12 = .ok (.iconst 0, 1) := by decide +kernel
theorem dX12_blinds_13 : decode cX12_blinds 13 = .ok (.istore 4, 2) := by decide +kernel
theorem dX12_blinds_15 : decode cX12_blinds 15 = .ok (.iload 4, 2) := by decide +kernel
theorem dX12_blinds_17 : decode cX12_blinds 17 = .ok (.aload_n 0, 1) := by decide +kernel
theorem dX12_blinds_18 : decode cX12_blinds 18 = .ok (.getfield 32, 3) := by decide +kernel
theorem dX12_blinds_21 : decode cX12_blinds 21 = .ok (.iconst 0, 1) := by decide +kernel
theorem dX12_blinds_22 : decode cX12_blinds 22 = .ok (.iaload, 1) := by decide +kernel
theorem dX12_blinds_23 : decode cX12_blinds 23 = .ok (.if_icmp .ge 22, 3) := by decide +kernel
theorem dX12_blinds_26 : decode cX12_blinds 26 = .ok (.iload_n 3, 1) := by decide +kernel
theorem dX12_blinds_27 : decode cX12_blinds 27 = .ok (.aload_n 0, 1) := by decide +kernel
theorem dX12_blinds_28 : decode cX12_blinds 28 = .ok (.getfield 32, 3) := by decide +kernel
theorem dX12_blinds_31 : decode cX12_blinds 31 = .ok (.bipush 26, 2) := by decide +kernel
theorem dX12_blinds_33 : decode cX12_blinds 33 = .ok (.iload 4, 2) := by decide +kernel
theorem dX12_blinds_35 : decode cX12_blinds 35 = .ok (.iadd, 1) := by decide +kernel
theorem dX12_blinds_36 : decode cX12_blinds 36 = .ok (.iaload, 1) := by decide +kernel
theorem dX12_blinds_37 : decode cX12_blinds 37 = .ok (.iadd, 1) := by decide +kernel
theorem dX12_blinds_38 : decode cX12_blinds 38 = .ok (.istore_n 3, 1) := by decide +kernel
theorem dX12_blinds_39 : decode cX12_blinds 39 = .ok (.iinc 4 1, 3) := by decide +kernel
theorem dX12_blinds_42 : decode cX12_blinds 42 = .ok (.goto (-27), 3) := by decide +kernel
theorem dX12_blinds_45 : decode cX12_blinds 45 = .ok (.iload_n 3, 1) := by decide +kernel
theorem dX12_blinds_46 : decode cX12_blinds 46 = .ok (.ireturn, 1) := by decide +kernel
theorem dX12_setBlind_0 : decode cX12_setBlind 0 = .ok (.iload_n 2, 1) := by decide +kernel
theorem dX12_setBlind_1 : decode cX12_setBlind 1 = .ok (.ifCond .eq 7, 3) := by decide +kernel
theorem dX12_setBlind_4 : decode cX12_setBlind 4 = .ok (.iconst 1, 1) := by decide +kernel
theorem dX12_setBlind_5 : decode cX12_setBlind 5 = .ok (.goto 4, 3) := by decide +kernel
theorem dX12_setBlind_8 : decode cX12_setBlind 8 = .ok (.iconst 0, 1) := by decide +kernel
theorem dX12_setBlind_9 : decode cX12_setBlind 9 = .ok (.istore_n 3, 1) := by decide +kernel
theorem dX12_setBlind_10 : decode cX12_setBlind 10 = .ok (.aload_n 0, 1) := by decide +kernel
theorem dX12_setBlind_11 : decode cX12_setBlind 11 = .ok (.iload_n 1, 1) := by decide +kernel
theorem dX12_setBlind_12 : decode cX12_setBlind 12 = .ok (.iload_n 3, 1) := by decide +kernel
theorem dX12_setBlind_13 : decode cX12_setBlind 13 = .ok (.invokevirtual 121, 3) := by decide +kernel
theorem dX12_setBlind_16 : decode cX12_setBlind 16 = .ok (.istore 4, 2) := by decide +kernel
theorem dX12_setBlind_18 : decode cX12_setBlind 18 = .ok (.iload 4, 2) := by decide +kernel
theorem dX12_setBlind_20 : decode cX12_setBlind 20 = .ok (.ifCond .eq 10, 3) := by decide +kernel
theorem dX12_setBlind_23 : decode cX12_setBlind 23 = .ok (.aload_n 0, 1) := by decide +kernel
theorem dX12_setBlind_24 : decode cX12_setBlind 24 = .ok (.iload 4, 2) := by decide +kernel
theorem dX12_setBlind_26 : decode cX12_setBlind 26 = .ok (.invokevirtual 87, 3) := by decide +kernel
theorem dX12_setBlind_29 : decode cX12_setBlind 29 = .ok (.ireturn, 1) := by decide +kernel
theorem dX12_setBlind_30 : decode cX12_setBlind 30 = .ok (.aload_n 0, 1) := by decide +kernel
theorem dX12_setBlind_31 : decode cX12_setBlind 31 = .ok (.invokevirtual 90, 3) := by decide +kernel
theorem dX12_setBlind_34 : decode cX12_setBlind 34 = .ok (.aload_n 0, 1) := by decide +kernel
theorem dX12_setBlind_35 : decode cX12_setBlind 35 = .ok (.iload_n 1, 1) := by decide +kernel
theorem dX12_setBlind_36 : decode cX12_setBlind 36 = .ok (.iload_n 3, 1) := by decide +kernel
theorem dX12_setBlind_37 : decode cX12_setBlind 37 = .ok (.invokevirtual 124, 3) := by decide +kernel
theorem dX12_setBlind_40 : decode cX12_setBlind 40 = .ok (.ireturn, 1) := by decide +kernel
theorem dX12_notFill_0 : decode cX12_notFill 0 = .ok (.aload_n 0, 1) := by decide +kernel
theorem dX12_notFill_1 : decode cX12_notFill 1 = .ok (.iload_n 1, 1) := by decide +kernel
theorem dX12_notFill_2 : decode cX12_notFill 2 = .ok (.invokevirtual 96, 3) := by decide +kernel
theorem dX12_notFill_5 : decode cX12_notFill 5 = .ok (.ifCond .ne 5, 3) := by decide +kernel
theorem dX12_notFill_8 : decode cX12_notFill 8 = .ok (.iconst 1, 1) := by decide +kernel
theorem dX12_notFill_9 : decode cX12_notFill 9 = .ok (.ireturn, 1) := by decide +kernel
theorem dX12_notFill_10 : decode cX12_notFill 10 = .ok (.iload_n 2, 1) := by decide +kernel
theorem dX12_notFill_11 : decode cX12_notFill 11 = .ok (.iconst 1, 1) := by decide +kernel
theorem dX12_notFill_12 : decode cX12_notFill 12 = .ok (.bipush 99, 2) := by decide +kernel
theorem dX12_notFill_14 : decode cX12_notFill 14 = .ok (.invokestatic 76, 3) := by decide +kernel
theorem dX12_notFill_17 : decode cX12_notFill 17 = .ok (.ifCond .ne 5, 3) := by decide +kernel
theorem dX12_notFill_20 : decode cX12_notFill 20 = .ok (.iconst 2, 1) := by decide +kernel
theorem dX12_notFill_21 : decode cX12_notFill 21 = .ok (.ireturn, 1) := by decide +kernel
theorem dX12_notFill_22 : decode cX12_notFill 22 = .ok (.aload_n 0, 1) := by decide +kernel
theorem dX12_notFill_23 : decode cX12_notFill 23 = .ok (.getfield 32, 3) := by decide +kernel
theorem dX12_notFill_26 : decode cX12_notFill 26 = .ok (.bipush 14, 2) := by decide +kernel
theorem dX12_notFill_28 : decode cX12_notFill 28 = .ok (.iload_n 1, 1) := by decide +kernel
theorem dX12_notFill_29 : decode cX12_notFill 29 = .ok (.iadd, 1) := by decide +kernel
theorem dX12_notFill_30 : decode cX12_notFill 30 = .ok (.iaload, 1) := by decide +kernel
theorem dX12_notFill_31 : decode cX12_notFill 31 = .ok (.iload_n 2, 1) := by decide +kernel
theorem dX12_notFill_32 : decode cX12_notFill 32 = .ok (.iadd, 1) := by decide +kernel
theorem dX12_notFill_33 : decode cX12_notFill 33 = .ok (.bipush 99, 2) := by decide +kernel
theorem dX12_notFill_35 : decode cX12_notFill 35 = .ok (.if_icmp .le 14, 3) := by decide +kernel
theorem dX12_notFill_38 : decode cX12_notFill 38 = .ok (.aload_n 0, 1) := by decide +kernel
theorem dX12_notFill_39 : decode cX12_notFill 39 = .ok (.iconst 1, 1) := by decide +kernel
theorem dX12_notFill_40 : decode cX12_notFill 40 = .ok (.bipush 99, 2) := by decide +kernel
theorem dX12_notFill_42 : decode cX12_notFill 42 = .ok (.iconst 3, 1) := by decide +kernel
theorem dX12_notFill_43 : decode cX12_notFill 43 = .ok (.invokevirtual 80, 3) := by decide +kernel
theorem dX12_notFill_46 : decode cX12_notFill 46 = .ok (.goto 4, 3) := by decide +kernel
theorem dX12_notFill_49 : decode cX12_notFill 49 = .ok (.iconst 0, 1) := by decide +kernel
theorem dX12_notFill_50 : decode cX12_notFill 50 = .ok (.ireturn, 1) := by decide +kernel
theorem dX12_fills_0 : decode cX12_fills 0 = .ok (.aload_n 0, 1) := by decide +kernel
theorem dX12_fills_1 : decode cX12_fills 1 = .ok (.getfield 32, 3) := by decide +kernel
theorem dX12_fills_4 : decode cX12_fills 4 = .ok (.bipush 14, 2) := by decide +kernel
theorem dX12_fills_6 : decode cX12_fills 6 = .ok (.iload_n 1, 1) := by decide +kernel
theorem dX12_fills_7 : decode cX12_fills 7 = .ok (.iadd, 1) := by decide +kernel
theorem dX12_fills_8 : decode cX12_fills 8 = .ok (.dup2, 1) := by decide +kernel
theorem dX12_fills_9 : decode cX12_fills 9 = .ok (.iaload, 1) := by decide +kernel
theorem dX12_fills_10 : decode cX12_fills 10 = .ok (.iload_n 2, 1) := by decide +kernel
theorem dX12_fills_11 : decode cX12_fills 11 = .ok (.iadd, 1) := by decide +kernel
theorem dX12_fills_12 : decode cX12_fills 12 = .ok (.iastore, 1) := by decide +kernel
theorem dX12_fills_13 : decode cX12_fills 13 = .ok (.aload_n 0, 1) := by decide +kernel
theorem dX12_fills_14 : decode cX12_fills 14 = .ok (.getfield 32, 3) := by decide +kernel
theorem dX12_fills_17 : decode cX12_fills 17 = .ok (.bipush 13, 2) := by decide +kernel
theorem dX12_fills_19 : decode cX12_fills 19 = .ok (.dup2, 1) := by decide +kernel
theorem dX12_fills_20 : decode cX12_fills 20 = .ok (.iaload, 1) := by decide +kernel
theorem dX12_fills_21 : decode cX12_fills 21 = .ok (.iload_n 2, 1) := by decide +kernel
theorem dX12_fills_22 : decode cX12_fills 22 = .ok (.iadd, 1) := by decide +kernel
theorem dX12_fills_23 : decode cX12_fills 23 = .ok (.iastore, 1) := by decide +kernel
theorem dX12_fills_24 : decode cX12_fills 24 = .ok (.aload_n 0, 1) := by decide +kernel
theorem dX12_fills_25 : decode cX12_fills 25 = .ok (.getfield 32, 3) := by decide +kernel
theorem dX12_fills_28 : decode cX12_fills 28 = .ok (.bipush 14, 2) := by decide +kernel
theorem dX12_fills_30 : decode cX12_fills 30 = .ok (.iload_n 1, 1) := by decide +kernel
theorem dX12_fills_31 : decode cX12_fills 31 = .ok (.iadd, 1) := by decide +kernel
theorem dX12_fills_32 : decode cX12_fills 32 = .ok (.iaload, 1) := by decide +kernel
theorem dX12_fills_33 : decode cX12_fills 33 = .ok (.ireturn, 1) := by decide +kernel
theorem dX12_fill_0 : decode cX12_fill 0 = .ok (.aload_n 0, 1) := by decide +kernel
theorem dX12_fill_1 : decode cX12_fill 1 = .ok (.iload_n 1, 1) := by decide +kernel
theorem dX12_fill_2 : decode cX12_fill 2 = .ok (.iload_n 2, 1) := by decide +kernel
theorem dX12_fill_3 : decode cX12_fill 3 = .ok (.invokevirtual 127, 3) := by decide +kernel
theorem dX12_fill_6 : decode cX12_fill 6 = .ok (.istore_n 3, 1) := by decide +kernel
theorem dX12_fill_7 : decode cX12_fill 7 = .ok (.iload_n 3, 1) := by decide +kernel
theorem dX12_fill_8 : decode cX12_fill 8 = .ok (.ifCond .eq 9, 3) := by decide +kernel
theorem dX12_fill_11 : decode cX12_fill 11 = .ok (.aload_n 0, 1) := by decide +kernel
theorem dX12_fill_12 : decode cX12_fill 12 = .ok (.iload_n 3, 1) := by decide +kernel
theorem dX12_fill_13 : decode cX12_fill 13 = .ok (.invokevirtual 87, 3) := by decide +kernel
theorem dX12_fill_16 : decode cX12_fill 16 = .ok (.ireturn, 1) := by decide +kernel
theorem dX12_fill_17 : decode cX12_fill 17 = .ok (.aload_n 0, 1) := by decide +kernel
theorem dX12_fill_18 : decode cX12_fill 18 = .ok (.invokevirtual 90, 3) := by decide +kernel
theorem dX12_fill_21 : decode cX12_fill 21 = .ok (.aload_n 0, 1) := by decide +kernel
theorem dX12_fill_22 : decode cX12_fill 22 = .ok (.iload_n 1, 1) := by decide +kernel
theorem dX12_fill_23 : decode cX12_fill 23 = .ok (.iload_n 2, 1) := by decide +kernel
theorem dX12_fill_24 : decode cX12_fill 24 = .ok (.invokevirtual 130, 3) := by decide +kernel
theorem dX12_fill_27 : decode cX12_fill 27 = .ok (.ireturn, 1) := by decide +kernel
theorem dX12_notStop_0 : decode cX12_notStop 0 = .ok (.aload_n 0, 1) := by decide +kernel
theorem dX12_notStop_1 : decode cX12_notStop 1 = .ok (.iload_n 1, 1) := by decide +kernel
theorem dX12_notStop_2 : decode cX12_notStop 2 = .ok (.invokevirtual 96, 3) := by decide +kernel
theorem dX12_notStop_5 : decode cX12_notStop 5 = .ok (.ifCond .ne 5, 3) := by decide +kernel
theorem dX12_notStop_8 : decode cX12_notStop 8 = .ok (.iconst 1, 1) := by decide +kernel
theorem dX12_notStop_9 : decode cX12_notStop 9 = .ok (.ireturn, 1) := by decide +kernel
theorem dX12_notStop_10 : decode cX12_notStop 10 = .ok (.aload_n 0, 1) := by decide +kernel
theorem dX12_notStop_11 : decode cX12_notStop 11 = .ok (.getfield 32, 3) := by decide +kernel
theorem dX12_notStop_14 : decode cX12_notStop 14 = .ok (.iconst 2, 1) := by decide +kernel
theorem dX12_notStop_15 : decode cX12_notStop 15 = .ok (.iaload, 1) := by decide +kernel
theorem dX12_notStop_16 : decode cX12_notStop 16 = .ok (.bipush 10, 2) := by decide +kernel
theorem dX12_notStop_18 : decode cX12_notStop 18 = .ok (.if_icmp .ne 14, 3) := by decide +kernel
theorem dX12_notStop_21 : decode cX12_notStop 21 = .ok (.aload_n 0, 1) := by decide +kernel
theorem dX12_notStop_22 : decode cX12_notStop 22 = .ok (.iconst 1, 1) := by decide +kernel
theorem dX12_notStop_23 : decode cX12_notStop 23 = .ok (.bipush 10, 2) := by decide +kernel
theorem dX12_notStop_25 : decode cX12_notStop 25 = .ok (.iconst 2, 1) := by decide +kernel
theorem dX12_notStop_26 : decode cX12_notStop 26 = .ok (.invokevirtual 80, 3) := by decide +kernel
theorem dX12_notStop_29 : decode cX12_notStop 29 = .ok (.goto 4, 3) := by decide +kernel
theorem dX12_notStop_32 : decode cX12_notStop 32 = .ok (.iconst 0, 1) := by decide +kernel
theorem dX12_notStop_33 : decode cX12_notStop 33 = .ok (.ireturn, 1) := by decide +kernel
theorem dX12_addsStop_0 : decode cX12_addsStop 0 = .ok (.aload_n 0, 1) := by decide +kernel
theorem dX12_addsStop_1 : decode cX12_addsStop 1 = .ok (.getfield 32, 3) := by decide +kernel
theorem dX12_addsStop_4 : decode cX12_addsStop 4 = .ok (.sipush 182, 3) := by decide +kernel
theorem dX12_addsStop_7 : decode cX12_addsStop 7 = .ok (.aload_n 0, 1) := by decide +kernel
theorem dX12_addsStop_8 : decode cX12_addsStop 8 = .ok (.getfield 32, 3) := by decide +kernel
theorem dX12_addsStop_11 : decode cX12_addsStop 11 = .ok (.iconst 2, 1) := by decide +kernel
theorem dX12_addsStop_12 : decode cX12_addsStop 12 = .ok (.iaload, 1) := by decide +kernel
theorem dX12_addsStop_13 : decode cX12_addsStop 13 = .ok (.iadd, 1) := by decide +kernel
theorem dX12_addsStop_14 : decode cX12_addsStop 14 = .ok (.iload_n 1, 1) := by decide +kernel
theorem dX12_addsStop_15 : decode cX12_addsStop 15 = .ok (.iastore, 1) := by decide +kernel
theorem dX12_addsStop_16 : decode cX12_addsStop 16 = .ok (.aload_n 0, 1) := by decide +kernel
theorem dX12_addsStop_17 : decode cX12_addsStop 17 = .ok (.getfield 32, 3) := by decide +kernel
theorem dX12_addsStop_20 : decode cX12_addsStop 20 = .ok (.iconst 2, 1) := by decide +kernel
theorem dX12_addsStop_21 : decode cX12_addsStop 21 = .ok (.dup2, 1) := by decide +kernel
theorem dX12_addsStop_22 : decode cX12_addsStop 22 = .ok (.iaload, 1) := by decide +kernel
theorem dX12_addsStop_23 : decode cX12_addsStop 23 = .ok (.iconst 1, 1) := by decide +kernel
theorem dX12_addsStop_24 : decode cX12_addsStop 24 = .ok (.iadd, 1) := by decide +kernel
theorem dX12_addsStop_25 : decode cX12_addsStop 25 = .ok (.iastore, 1) := by decide +kernel
theorem dX12_addsStop_26 : decode cX12_addsStop 26 = .ok (.aload_n 0, 1) := by decide +kernel
theorem dX12_addsStop_27 : decode cX12_addsStop 27 = .ok (.getfield 32, 3) := by decide +kernel
theorem dX12_addsStop_30 : decode cX12_addsStop 30 = .ok (.iconst 2, 1) := by decide +kernel
theorem dX12_addsStop_31 : decode cX12_addsStop 31 = .ok (.iaload, 1) := by decide +kernel
theorem dX12_addsStop_32 : decode cX12_addsStop 32 = .ok (.ireturn, 1) := by decide +kernel
theorem dX12_addStop_0 : decode cX12_addStop 0 = .ok (.aload_n 0, 1) := by decide +kernel
theorem dX12_addStop_1 : decode cX12_addStop 1 = .ok (.iload_n 1, 1) := by decide +kernel
theorem dX12_addStop_2 : decode cX12_addStop 2 = .ok (.invokevirtual 133, 3) := by decide +kernel
theorem dX12_addStop_5 : decode cX12_addStop 5 = .ok (.istore_n 2, 1) := by decide +kernel
theorem dX12_addStop_6 : decode cX12_addStop 6 = .ok (.iload_n 2, 1) := by decide +kernel
theorem dX12_addStop_7 : decode cX12_addStop 7 = .ok (.ifCond .eq 9, 3) := by decide +kernel
theorem dX12_addStop_10 : decode cX12_addStop 10 = .ok (.aload_n 0, 1) := by decide +kernel
theorem dX12_addStop_11 : decode cX12_addStop 11 = .ok (.iload_n 2, 1) := by decide +kernel
theorem dX12_addStop_12 : decode cX12_addStop 12 = .ok (.invokevirtual 87, 3) := by decide +kernel
theorem dX12_addStop_15 : decode cX12_addStop 15 = .ok (.ireturn, 1) := by decide +kernel
theorem dX12_addStop_16 : decode cX12_addStop 16 = .ok (.aload_n 0, 1) := by decide +kernel
theorem dX12_addStop_17 : decode cX12_addStop 17 = .ok (.invokevirtual 90, 3) := by decide +kernel
theorem dX12_addStop_20 : decode cX12_addStop 20 = .ok (.aload_n 0, 1) := by decide +kernel
theorem dX12_addStop_21 : decode cX12_addStop 21 = .ok (.iload_n 1, 1) := by decide +kernel
theorem dX12_addStop_22 : decode cX12_addStop 22 = .ok (.invokevirtual 136, 3) := by decide +kernel
theorem dX12_addStop_25 : decode cX12_addStop 25 = .ok (.ireturn, 1) := by decide +kernel
theorem dX12_notDrop_0 : decode cX12_notDrop 0 = .ok (.iload_n 1, 1) := by decide +kernel
theorem dX12_notDrop_1 : decode cX12_notDrop 1 = .ok (.iconst 0, 1) := by decide +kernel
theorem dX12_notDrop_2 : decode cX12_notDrop 2 = .ok (.aload_n 0, 1) := by decide +kernel
theorem dX12_notDrop_3 : decode cX12_notDrop 3 = .ok (.getfield 32, 3) := by decide +kernel
theorem dX12_notDrop_6 : decode cX12_notDrop 6 = .ok (.iconst 2, 1) := by decide +kernel
theorem dX12_notDrop_7 : decode cX12_notDrop 7 = .ok (.iaload, 1) := by decide +kernel
theorem dX12_notDrop_8 : decode cX12_notDrop 8 = .ok (.iconst 1, 1) := by decide +kernel
theorem dX12_notDrop_9 : decode cX12_notDrop 9 = .ok (.isub, 1) := by decide +kernel
theorem dX12_notDrop_10 : decode cX12_notDrop 10 = .ok (.invokestatic 76, 3) := by decide +kernel
theorem dX12_notDrop_13 : decode cX12_notDrop 13 = .ok (.ifCond .eq 7, 3) := by decide +kernel
theorem dX12_notDrop_16 : decode cX12_notDrop 16 = .ok (.iconst 0, 1) := by decide +kernel
theorem dX12_notDrop_17 : decode cX12_notDrop 17 = .ok (.goto 4, 3) := by decide +kernel
theorem dX12_notDrop_20 : decode cX12_notDrop 20 = .ok (.iconst 1, 1) := by decide +kernel
theorem dX12_notDrop_21 : decode cX12_notDrop 21 = .ok (.ireturn, 1) := by decide +kernel
theorem dX12_drops_0 : decode cX12_drops 0 = .ok (.aload_n 0, 1) := by decide +kernel
theorem dX12_drops_1 : decode cX12_drops 1 = .ok (.getfield 32, 3) := by decide +kernel
theorem dX12_drops_4 : decode cX12_drops 4 = .ok (.sipush 182, 3) := by decide +kernel
theorem dX12_drops_7 : decode cX12_drops 7 = .ok (.iload_n 1, 1) := by decide +kernel
theorem dX12_drops_8 : decode cX12_drops 8 = .ok (.iadd, 1) := by decide +kernel
theorem dX12_drops_9 : decode cX12_drops 9 = .ok (.iaload, 1) := by decide +kernel
theorem dX12_drops_10 : decode cX12_drops 10 = .ok (.istore_n 2, 1) := by decide +kernel
theorem dX12_drops_11 : decode cX12_drops 11 = .ok (.aload_n 0, 1) := by decide +kernel
theorem dX12_drops_12 : decode cX12_drops 12 = .ok (.getfield 32, 3) := by decide +kernel
theorem dX12_drops_15 : decode cX12_drops 15 = .ok (.iconst 2, 1) := by decide +kernel
theorem dX12_drops_16 : decode cX12_drops 16 = .ok (.dup2, 1) := by decide +kernel
theorem dX12_drops_17 : decode cX12_drops 17 = .ok (.iaload, 1) := by decide +kernel
theorem dX12_drops_18 : decode cX12_drops 18 = .ok (.iconst 1, 1) := by decide +kernel
theorem dX12_drops_19 : decode cX12_drops 19 = .ok (.isub, 1) := by decide +kernel
theorem dX12_drops_20 : decode cX12_drops 20 = .ok (.iastore, 1) := by decide +kernel
theorem dX12_drops_21 : decode cX12_drops 21 = .ok (.iload_n 1, 1) := by decide +kernel
theorem dX12_drops_22 : decode cX12_drops 22 = .ok (.istore_n 3, 1) := by decide +kernel
theorem dX12_drops_23 : decode cX12_drops 23 = .ok (.iload_n 3, 1) := by decide +kernel
theorem dX12_drops_24 : decode cX12_drops 24 = .ok (.aload_n 0, 1) := by decide +kernel
theorem dX12_drops_25 : decode cX12_drops 25 = .ok (.getfield 32, 3) := by decide +kernel
theorem dX12_drops_28 : decode cX12_drops 28 = .ok (.iconst 2, 1) := by decide +kernel
theorem dX12_drops_29 : decode cX12_drops 29 = .ok (.iaload, 1) := by decide +kernel
theorem dX12_drops_30 : decode cX12_drops 30 = .ok (.if_icmp .ge 31, 3) := by decide +kernel
theorem dX12_drops_33 : decode cX12_drops 33 = .ok (.aload_n 0, 1) := by decide +kernel
theorem dX12_drops_34 : decode cX12_drops 34 = .ok (.getfield 32, 3) := by decide +kernel
theorem dX12_drops_37 : decode cX12_drops 37 = .ok (.sipush 182, 3) := by decide +kernel
theorem dX12_drops_40 : decode cX12_drops 40 = .ok (.iload_n 3, 1) := by decide +kernel
theorem dX12_drops_41 : decode cX12_drops 41 = .ok (.iadd, 1) := by decide +kernel
theorem dX12_drops_42 : decode cX12_drops 42 = .ok (.aload_n 0, 1) := by decide +kernel
theorem dX12_drops_43 : decode cX12_drops 43 = .ok (.getfield 32, 3) := by decide +kernel
theorem dX12_drops_46 : decode cX12_drops 46 = .ok (.sipush 182, 3) := by decide +kernel
theorem dX12_drops_49 : decode cX12_drops 49 = .ok (.iload_n 3, 1) := by decide +kernel
theorem dX12_drops_50 : decode cX12_drops 50 = .ok (.iadd, 1) := by decide +kernel
theorem dX12_drops_51 : decode cX12_drops 51 = .ok (.iconst 1, 1) := by decide +kernel
theorem dX12_drops_52 : decode cX12_drops 52 = .ok (.iadd, 1) := by decide +kernel
theorem dX12_drops_53 : decode cX12_drops 53 = .ok (.iaload, 1) := by decide +kernel
theorem dX12_drops_54 : decode cX12_drops 54 = .ok (.iastore, 1) := by decide +kernel
theorem dX12_drops_55 : decode cX12_drops 55 = .ok (.iinc 3 1, 3) := by decide +kernel
theorem dX12_drops_58 : decode cX12_drops 58 = .ok (.goto (-35), 3) := by decide +kernel
theorem dX12_drops_61 : decode cX12_drops 61 = .ok (.aload_n 0, 1) := by decide +kernel
theorem dX12_drops_62 : decode cX12_drops 62 = .ok (.getfield 32, 3) := by decide +kernel
theorem dX12_drops_65 : decode cX12_drops 65 = .ok (.sipush 182, 3) := by decide +kernel
theorem dX12_drops_68 : decode cX12_drops 68 = .ok (.aload_n 0, 1) := by decide +kernel
theorem dX12_drops_69 : decode cX12_drops 69 = .ok (.getfield 32, 3) := by decide +kernel
theorem dX12_drops_72 : decode cX12_drops 72 = .ok (.iconst 2, 1) := by decide +kernel
theorem dX12_drops_73 : decode cX12_drops 73 = .ok (.iaload, 1) := by decide +kernel
theorem dX12_drops_74 : decode cX12_drops 74 = .ok (.iadd, 1) := by decide +kernel
theorem dX12_drops_75 : decode cX12_drops 75 = .ok (.iconst 0, 1) := by decide +kernel
theorem dX12_drops_76 : decode cX12_drops 76 = .ok (.iastore, 1) := by decide +kernel
theorem dX12_drops_77 : decode cX12_drops 77 = .ok (.iload_n 1, 1) := by decide +kernel
theorem dX12_drops_78 : decode cX12_drops 78 = .ok (.aload_n 0, 1) := by decide +kernel
theorem dX12_drops_79 : decode cX12_drops 79 = .ok (.getfield 32, 3) := by decide +kernel
theorem dX12_drops_82 : decode cX12_drops 82 = .ok (.iconst 4, 1) := by decide +kernel
theorem dX12_drops_83 : decode cX12_drops 83 = .ok (.iaload, 1) := by decide +kernel
theorem dX12_drops_84 : decode cX12_drops 84 = .ok (.if_icmp .ge 13, 3) := by decide +kernel
theorem dX12_drops_87 : decode cX12_drops 87 = .ok (.aload_n 0, 1) := by decide +kernel
theorem dX12_drops_88 : decode cX12_drops 88 = .ok (.getfield 32, 3) := by decide +kernel
theorem dX12_drops_91 : decode cX12_drops 91 = .ok (.iconst 4, 1) := by decide +kernel
theorem dX12_drops_92 : decode cX12_drops 92 = .ok (.dup2, 1) := by decide +kernel
theorem dX12_drops_93 : decode cX12_drops 93 = .ok (.iaload, 1) := by decide +kernel
theorem dX12_drops_94 : decode cX12_drops 94 = .ok (.iconst 1, 1) := by decide +kernel
theorem dX12_drops_95 : decode cX12_drops 95 = .ok (.isub, 1) := by decide +kernel
theorem dX12_drops_96 : decode cX12_drops 96 = .ok (.iastore, 1) := by decide +kernel
theorem dX12_drops_97 : decode cX12_drops 97 = .ok (.aload_n 0, 1) := by decide +kernel
theorem dX12_drops_98 : decode cX12_drops 98 = .ok (.getfield 32, 3) := by decide +kernel
theorem dX12_drops_101 : decode cX12_drops 101 = .ok (.iconst 4, 1) := by decide +kernel
theorem dX12_drops_102 : decode cX12_drops 102 = .ok (.iaload, 1) := by decide +kernel
theorem dX12_drops_103 : decode cX12_drops 103 = .ok (.aload_n 0, 1) := by decide +kernel
theorem dX12_drops_104 : decode cX12_drops 104 = .ok (.getfield 32, 3) := by decide +kernel
theorem dX12_drops_107 : decode cX12_drops 107 = .ok (.iconst 2, 1) := by decide +kernel
theorem dX12_drops_108 : decode cX12_drops 108 = .ok (.iaload, 1) := by decide +kernel
theorem dX12_drops_109 : decode cX12_drops 109 = .ok (.if_icmp .lt 10, 3) := by decide +kernel
theorem dX12_drops_112 : decode cX12_drops 112 = .ok (.aload_n 0, 1) := by decide +kernel
theorem dX12_drops_113 : decode cX12_drops 113 = .ok (.getfield 32, 3) := by decide +kernel
theorem dX12_drops_116 : decode cX12_drops 116 = .ok (.iconst 4, 1) := by decide +kernel
theorem dX12_drops_117 : decode cX12_drops 117 = .ok (.iconst 0, 1) := by decide +kernel
theorem dX12_drops_118 : decode cX12_drops 118 = .ok (.iastore, 1) := by decide +kernel
theorem dX12_drops_119 : decode cX12_drops 119 = .ok (.iload_n 2, 1) := by decide +kernel
theorem dX12_drops_120 : decode cX12_drops 120 = .ok (.ireturn, 1) := by decide +kernel
theorem dX12_removeStop_0 : decode cX12_removeStop 0 = .ok (.aload_n 0, 1) := by decide +kernel
theorem dX12_removeStop_1 : decode cX12_removeStop 1 = .ok (.iload_n 1, 1) := by decide +kernel
theorem dX12_removeStop_2 : decode cX12_removeStop 2 = .ok (.invokevirtual 139, 3) := by decide +kernel
theorem dX12_removeStop_5 : decode cX12_removeStop 5 = .ok (.ifCond .eq 9, 3) := by decide +kernel
theorem dX12_removeStop_8 : decode cX12_removeStop 8 = .ok (.aload_n 0, 1) := by decide +kernel
theorem dX12_removeStop_9 : decode cX12_removeStop 9 = .ok (.iconst 1, 1) := by decide +kernel
theorem dX12_removeStop_10 : decode cX12_removeStop 10 = .ok (.invokevirtual 87, 3) := by decide +kernel
theorem dX12_removeStop_13 : decode cX12_removeStop 13 = .ok (.ireturn, 1) := by decide +kernel
theorem dX12_removeStop_14 : decode cX12_removeStop 14 = .ok (.aload_n 0, 1) := by decide +kernel
theorem dX12_removeStop_15 : decode cX12_removeStop 15 = .ok (.invokevirtual 90, 3) := by decide +kernel
theorem dX12_removeStop_18 : decode cX12_removeStop 18 = .ok (.aload_n 0, 1) := by decide +kernel
theorem dX12_removeStop_19 : decode cX12_removeStop 19 = .ok (.iload_n 1, 1) := by decide +kernel
theorem dX12_removeStop_20 : decode cX12_removeStop 20 = .ok (.invokevirtual 142, 3) := by decide +kernel
theorem dX12_removeStop_23 : decode cX12_removeStop 23 = .ok (.ireturn, 1) := by decide +kernel
theorem dX12_distancesTo_0 : decode cX12_distancesTo 0 = .ok (.iconst 0, 1) := by decide +kernel
theorem dX12_distancesTo_1 : decode cX12_distancesTo 1 = .ok (.istore_n 2, 1) := by decide +kernel
theorem dX12_distancesTo_2 : decode cX12_distancesTo 2 = .ok (.iload_n 2, 1) := by decide +kernel
theorem dX12_distancesTo_3 : decode cX12_distancesTo 3 = .ok (.aload_n 0, 1) := by decide +kernel
theorem dX12_distancesTo_4 : decode cX12_distancesTo 4 = .ok (.getfield 32, 3) := by decide +kernel
theorem dX12_distancesTo_7 : decode cX12_distancesTo 7 = .ok (.iconst 0, 1) := by decide +kernel
theorem dX12_distancesTo_8 : decode cX12_distancesTo 8 = .ok (.iaload, 1) := by decide +kernel
theorem dX12_distancesTo_9 : decode cX12_distancesTo 9 = .ok (.if_icmp .ge 26, 3) := by decide +kernel
theorem dX12_distancesTo_12 : decode cX12_distancesTo 12 = .ok (.aload_n 0, 1) := by decide +kernel
theorem dX12_distancesTo_13 : decode cX12_distancesTo 13 = .ok (.getfield 48, 3) := by decide +kernel
theorem dX12_distancesTo_16 : decode cX12_distancesTo 16 = .ok (.iload_n 2, 1) := by decide +kernel
theorem dX12_distancesTo_17 : decode cX12_distancesTo 17 = .ok (.iload_n 2, 1) := by decide +kernel
theorem dX12_distancesTo_18 : decode cX12_distancesTo 18 = .ok (.iload_n 1, 1) := by decide +kernel
theorem dX12_distancesTo_19 : decode cX12_distancesTo 19 = .ok (.if_icmp .ne 7, 3) := by decide +kernel
theorem dX12_distancesTo_22 : decode cX12_distancesTo 22 = .ok (.iconst 0, 1) := by decide +kernel
theorem dX12_distancesTo_23 : decode cX12_distancesTo 23 = .ok (.goto 5, 3) := by decide +kernel
theorem dX12_distancesTo_26 : decode cX12_distancesTo 26 = .ok (.bipush 99, 2) := by decide +kernel
theorem dX12_distancesTo_28 : decode cX12_distancesTo 28 = .ok (.iastore, 1) := by decide +kernel
theorem dX12_distancesTo_29 : decode cX12_distancesTo 29 = .ok (.iinc 2 1, 3) := by decide +kernel
theorem dX12_distancesTo_32 : decode cX12_distancesTo 32 = .ok (.goto (-30), 3) := by decide +kernel
theorem dX12_distancesTo_35 : decode cX12_distancesTo 35 = .ok (.iconst 1, 1) := by decide +kernel
theorem dX12_distancesTo_36 : decode cX12_distancesTo 36 = .ok (.istore_n 2, 1) := by decide +kernel
theorem dX12_distancesTo_37 : decode cX12_distancesTo 37 = .ok (.iload_n 2, 1) := by decide +kernel
theorem dX12_distancesTo_38 : decode cX12_distancesTo 38 = .ok (.ifCond .eq 94, 3) := by decide +kernel
theorem dX12_distancesTo_41 : decode cX12_distancesTo 41 = .ok (.iconst 0, 1) := by decide +kernel
theorem dX12_distancesTo_42 : decode cX12_distancesTo 42 = .ok (.istore_n 2, 1) := by decide +kernel
theorem dX12_distancesTo_43 : decode cX12_distancesTo 43 = .ok (.iconst 0, 1) := by decide +kernel
theorem dX12_distancesTo_44 : decode cX12_distancesTo 44 = .ok (.istore_n 3, 1) := by decide +kernel
theorem dX12_distancesTo_45 : decode cX12_distancesTo 45 = .ok (.iload_n 3, 1) := by decide +kernel
theorem dX12_distancesTo_46 : decode cX12_distancesTo 46 = .ok (.aload_n 0, 1) := by decide +kernel
theorem dX12_distancesTo_47 : decode cX12_distancesTo 47 = .ok (.getfield 32, 3) := by decide +kernel
theorem dX12_distancesTo_50 : decode cX12_distancesTo 50 = .ok (.iconst 0, 1) := by decide +kernel
theorem dX12_distancesTo_51 : decode cX12_distancesTo 51 = .ok (.iaload, 1) := by decide +kernel
theorem dX12_distancesTo_52 : decode cX12_distancesTo 52 = .ok (.if_icmp .ge 77, 3) := by decide +kernel
theorem dX12_distancesTo_55 : decode cX12_distancesTo 55 = .ok (.iconst 0, 1) := by decide +kernel
theorem dX12_distancesTo_56 : decode cX12_distancesTo 56 = .ok (.istore 4, 2) := by decide +kernel
theorem dX12_distancesTo_58 : decode cX12_distancesTo 58 = .ok (.iload 4, 2) := by decide +kernel
theorem dX12_distancesTo_60 : decode cX12_distancesTo 60 = .ok (.aload_n 0, 1) := by decide +kernel
theorem dX12_distancesTo_61 : decode cX12_distancesTo 61 = .ok (.getfield 32, 3) := by decide +kernel
theorem dX12_distancesTo_64 : decode cX12_distancesTo 64 = .ok (.iconst 0, 1) := by decide +kernel
theorem dX12_distancesTo_65 : decode cX12_distancesTo 65 = .ok (.iaload, 1) := by decide +kernel
theorem dX12_distancesTo_66 : decode cX12_distancesTo 66 = .ok (.if_icmp .ge 57, 3) := by decide +kernel
theorem dX12_distancesTo_69 : decode cX12_distancesTo 69 = .ok (.aload_n 0, 1) := by decide +kernel
theorem dX12_distancesTo_70 : decode cX12_distancesTo 70 = .ok (.iload_n 3, 1) := by decide +kernel
theorem dX12_distancesTo_71 : decode cX12_distancesTo 71 = .ok (.iload 4, 2) := by decide +kernel
theorem dX12_distancesTo_73 : decode cX12_distancesTo 73 = .ok (.invokevirtual 100, 3) := by decide +kernel
theorem dX12_distancesTo_76 : decode cX12_distancesTo 76 = .ok (.ifCond .eq 41, 3) := by decide +kernel
theorem dX12_distancesTo_79 : decode cX12_distancesTo 79 = .ok (.aload_n 0, 1) := by decide +kernel
theorem dX12_distancesTo_80 : decode cX12_distancesTo 80 = .ok (.getfield 48, 3) := by decide +kernel
theorem dX12_distancesTo_83 : decode cX12_distancesTo 83 = .ok (.iload 4, 2) := by decide +kernel
theorem dX12_distancesTo_85 : decode cX12_distancesTo 85 = .ok (.iaload, 1) := by decide +kernel
theorem dX12_distancesTo_86 : decode cX12_distancesTo 86 = .ok (.iconst 1, 1) := by decide +kernel
theorem dX12_distancesTo_87 : decode cX12_distancesTo 87 = .ok (.iadd, 1) := by decide +kernel
theorem dX12_distancesTo_88 : decode cX12_distancesTo 88 = .ok (.aload_n 0, 1) := by decide +kernel
theorem dX12_distancesTo_89 : decode cX12_distancesTo 89 = .ok (.getfield 48, 3) := by decide +kernel
theorem dX12_distancesTo_92 : decode cX12_distancesTo 92 = .ok (.iload_n 3, 1) := by decide +kernel
theorem dX12_distancesTo_93 : decode cX12_distancesTo 93 = .ok (.iaload, 1) := by decide +kernel
theorem dX12_distancesTo_94 : decode cX12_distancesTo 94 = .ok (.if_icmp .lt 6, 3) := by decide +kernel
theorem dX12_distancesTo_97 : decode cX12_distancesTo 97 = .ok (.goto 20, 3) := by decide +kernel
theorem dX12_distancesTo_100 : decode cX12_distancesTo 100 = .ok (.aload_n 0, 1) := by decide +kernel
theorem dX12_distancesTo_101 : decode cX12_distancesTo 101 = .ok (.getfield 48, 3) := by decide +kernel
theorem dX12_distancesTo_104 : decode cX12_distancesTo 104 = .ok (.iload_n 3, 1) := by decide +kernel
theorem dX12_distancesTo_105 : decode cX12_distancesTo 105 = .ok (.aload_n 0, 1) := by decide +kernel
theorem dX12_distancesTo_106 : decode cX12_distancesTo 106 = .ok (.getfield 48, 3) := by decide +kernel
theorem dX12_distancesTo_109 : decode cX12_distancesTo 109 = .ok (.iload 4, 2) := by decide +kernel
theorem dX12_distancesTo_111 : decode cX12_distancesTo 111 = .ok (.iaload, 1) := by decide +kernel
theorem dX12_distancesTo_112 : decode cX12_distancesTo 112 = .ok (.iconst 1, 1) := by decide +kernel
theorem dX12_distancesTo_113 : decode cX12_distancesTo 113 = .ok (.iadd, 1) := by decide +kernel
theorem dX12_distancesTo_114 : decode cX12_distancesTo 114 = .ok (.iastore, 1) := by decide +kernel
theorem dX12_distancesTo_115 : decode cX12_distancesTo 115 = .ok (.iconst 1, 1) := by decide +kernel
theorem dX12_distancesTo_116 : decode cX12_distancesTo 116 = .ok (.istore_n 2, 1) := by decide +kernel
theorem dX12_distancesTo_117 : decode cX12_distancesTo 117 = .ok (.iinc 4 1, 3) := by decide +kernel
theorem dX12_distancesTo_120 : decode cX12_distancesTo 120 = .ok (.goto (-62), 3) := by decide +kernel
theorem dX12_distancesTo_123 : decode cX12_distancesTo 123 = .ok (.iinc 3 1, 3) := by decide +kernel
theorem dX12_distancesTo_126 : decode cX12_distancesTo 126 = .ok (.goto (-81), 3) := by decide +kernel
theorem dX12_distancesTo_129 : decode cX12_distancesTo 129 = .ok (.goto (-92), 3) := by decide +kernel
theorem dX12_distancesTo_132 : decode cX12_distancesTo 132 = .ok (.return_, 1) := by decide +kernel
theorem dX12_walked_0 : decode cX12_walked 0 = .ok (.aload_n 0, 1) := by decide +kernel
theorem dX12_walked_1 : decode cX12_walked 1 = .ok (.getfield 32, 3) := by decide +kernel
theorem dX12_walked_4 : decode cX12_walked 4 = .ok (.iconst 3, 1) := by decide +kernel
theorem dX12_walked_5 : decode cX12_walked 5 = .ok (.iaload, 1) := by decide +kernel
theorem dX12_walked_6 : decode cX12_walked 6 = .ok (.istore_n 1, 1) := by decide +kernel
theorem dX12_walked_7 : decode cX12_walked 7 = .ok (.aload_n 0, 1) := by decide +kernel
theorem dX12_walked_8 : decode cX12_walked 8 = .ok (.getfield 32, 3) := by decide +kernel
theorem dX12_walked_11 : decode cX12_walked 11 = .ok (.iconst 2, 1) := by decide +kernel
theorem dX12_walked_12 : decode cX12_walked 12 = .ok (.iaload, 1) := by decide +kernel
theorem dX12_walked_13 : decode cX12_walked 13 = .ok (.ifCond .ne 5, 3) := by decide +kernel
theorem dX12_walked_16 : decode cX12_walked 16 = .ok (.iload_n 1, 1) := by decide +kernel
theorem dX12_walked_17 : decode cX12_walked 17 = .ok (.ireturn, 1) := by decide +kernel
theorem dX12_walked_18 : decode cX12_walked 18 = .ok (.aload_n 0, 1) := by decide +kernel
theorem dX12_walked_19 : decode cX12_walked 19 = .ok (.aload_n 0, 1) := by decide +kernel
theorem dX12_walked_20 : decode cX12_walked 20 = .ok (.getfield 32, 3) := by decide +kernel
theorem dX12_walked_23 : decode cX12_walked 23 = .ok (.sipush 182, 3) := by decide +kernel
theorem dX12_walked_26 : decode cX12_walked 26 = .ok (.aload_n 0, 1) := by decide +kernel
theorem dX12_walked_27 : decode cX12_walked 27 = .ok (.getfield 32, 3) := by decide +kernel
theorem dX12_walked_30 : decode cX12_walked 30 = .ok (.iconst 4, 1) := by decide +kernel
theorem dX12_walked_31 : decode cX12_walked 31 = .ok (.iaload, 1) := by decide +kernel
theorem dX12_walked_32 : decode cX12_walked 32 = .ok (.iadd, 1) := by decide +kernel
theorem dX12_walked_33 : decode cX12_walked 33 = .ok (.iaload, 1) := by decide +kernel
theorem dX12_walked_34 : decode cX12_walked 34 = .ok (.invokevirtual 145, 3) := by decide +kernel
theorem dX12_walked_37 : decode cX12_walked 37 = .ok (.aload_n 0, 1) := by decide +kernel
theorem dX12_walked_38 : decode cX12_walked 38 = .ok (.getfield 48, 3) := by decide +kernel
theorem dX12_walked_41 : decode cX12_walked 41 = .ok (.iload_n 1, 1) := by decide +kernel
theorem dX12_walked_42 : decode cX12_walked 42 = .ok (.iaload, 1) := by decide +kernel
theorem dX12_walked_43 : decode cX12_walked 43 = .ok (.ifCond .eq 14, 3) := by decide +kernel
theorem dX12_walked_46 : decode cX12_walked 46 = .ok (.aload_n 0, 1) := by decide +kernel
theorem dX12_walked_47 : decode cX12_walked 47 = .ok (.getfield 48, 3) := by decide +kernel
theorem dX12_walked_50 : decode cX12_walked 50 = .ok (.iload_n 1, 1) := by decide +kernel
theorem dX12_walked_51 : decode cX12_walked 51 = .ok (.iaload, 1) := by decide +kernel
theorem dX12_walked_52 : decode cX12_walked 52 = .ok (.bipush 99, 2) := by decide +kernel
theorem dX12_walked_54 : decode cX12_walked 54 = .ok (.if_icmp .ne 5, 3) := by decide +kernel
theorem dX12_walked_57 : decode cX12_walked 57 = .ok (.iload_n 1, 1) := by decide +kernel
theorem dX12_walked_58 : decode cX12_walked 58 = .ok (.ireturn, 1) := by decide +kernel
theorem dX12_walked_59 : decode cX12_walked 59 = .ok (.iconst 0, 1) := by decide +kernel
theorem dX12_walked_60 : decode cX12_walked 60 = .ok (.istore_n 2, 1) := by decide +kernel
theorem dX12_walked_61 : decode cX12_walked 61 = .ok (.aload_n 0, 1) := by decide +kernel
theorem dX12_walked_62 : decode cX12_walked 62 = .ok (.iload_n 1, 1) := by decide +kernel
theorem dX12_walked_63 : decode cX12_walked 63 = .ok (.iload_n 2, 1) := by decide +kernel
theorem dX12_walked_64 : decode cX12_walked 64 = .ok (.invokevirtual 100, 3) := by decide +kernel
theorem dX12_walked_67 : decode cX12_walked 67 = .ok (.ifCond .eq 20, 3) := by decide +kernel
theorem dX12_walked_70 : decode cX12_walked 70 = .ok (.aload_n 0, 1) := by decide +kernel
theorem dX12_walked_71 : decode cX12_walked 71 = .ok (.getfield 48, 3) := by decide +kernel
theorem dX12_walked_74 : decode cX12_walked 74 = .ok (.iload_n 2, 1) := by decide +kernel
theorem dX12_walked_75 : decode cX12_walked 75 = .ok (.iaload, 1) := by decide +kernel
theorem dX12_walked_76 : decode cX12_walked 76 = .ok (.aload_n 0, 1) := by decide +kernel
theorem dX12_walked_77 : decode cX12_walked 77 = .ok (.getfield 48, 3) := by decide +kernel
theorem dX12_walked_80 : decode cX12_walked 80 = .ok (.iload_n 1, 1) := by decide +kernel
theorem dX12_walked_81 : decode cX12_walked 81 = .ok (.iaload, 1) := by decide +kernel
theorem dX12_walked_82 : decode cX12_walked 82 = .ok (.iconst 1, 1) := by decide +kernel
theorem dX12_walked_83 : decode cX12_walked 83 = .ok (.isub, 1) := by decide +kernel
theorem dX12_walked_84 : decode cX12_walked 84 = .ok (.if_icmp .eq 9, 3) := by decide +kernel
theorem dX12_walked_87 : decode cX12_walked 87 = .ok (.iinc 2 1, 3) := by decide +kernel
theorem dX12_walked_90 : decode cX12_walked 90 = .ok (.goto (-29), 3) := by decide +kernel
theorem dX12_walked_93 : decode cX12_walked 93 = .ok (.iload_n 2, 1) := by decide +kernel
theorem dX12_walked_94 : decode cX12_walked 94 = .ok (.ireturn, 1) := by decide +kernel
theorem dX12_mouse_0 : decode cX12_mouse 0 = .ok (.aload_n 0, 1) := by decide +kernel
theorem dX12_mouse_1 : decode cX12_mouse 1 = .ok (.getfield 32, 3) := by decide +kernel
theorem dX12_mouse_4 : decode cX12_mouse 4 = .ok (.sipush 192, 3) := by decide +kernel
theorem dX12_mouse_7 : decode cX12_mouse 7 = .ok (.iconst 3, 1) := by decide +kernel
theorem dX12_mouse_8 : decode cX12_mouse 8 = .ok (.iload_n 1, 1) := by decide +kernel
theorem dX12_mouse_9 : decode cX12_mouse 9 = .ok (.imul, 1) := by decide +kernel
theorem dX12_mouse_10 : decode cX12_mouse 10 = .ok (.iadd, 1) := by decide +kernel
theorem dX12_mouse_11 : decode cX12_mouse 11 = .ok (.iload_n 2, 1) := by decide +kernel
theorem dX12_mouse_12 : decode cX12_mouse 12 = .ok (.iadd, 1) := by decide +kernel
theorem dX12_mouse_13 : decode cX12_mouse 13 = .ok (.iaload, 1) := by decide +kernel
theorem dX12_mouse_14 : decode cX12_mouse 14 = .ok (.ireturn, 1) := by decide +kernel
theorem dX12_removesMouse_0 : decode cX12_removesMouse 0 = .ok (.aload_n 0, 1) := by decide +kernel
theorem dX12_removesMouse_1 : decode cX12_removesMouse 1 = .ok (.getfield 32, 3) := by decide +kernel
theorem dX12_removesMouse_4 : decode cX12_removesMouse 4 = .ok (.bipush 8, 2) := by decide +kernel
theorem dX12_removesMouse_6 : decode cX12_removesMouse 6 = .ok (.dup2, 1) := by decide +kernel
theorem dX12_removesMouse_7 : decode cX12_removesMouse 7 = .ok (.iaload, 1) := by decide +kernel
theorem dX12_removesMouse_8 : decode cX12_removesMouse 8 = .ok (.iconst 1, 1) := by decide +kernel
theorem dX12_removesMouse_9 : decode cX12_removesMouse 9 = .ok (.isub, 1) := by decide +kernel
theorem dX12_removesMouse_10 : decode cX12_removesMouse 10 = .ok (.iastore, 1) := by decide +kernel
theorem dX12_removesMouse_11 : decode cX12_removesMouse 11 = .ok (.sipush 192, 3) := by decide +kernel
theorem dX12_removesMouse_14 : decode cX12_removesMouse 14 = .ok (.iconst 3, 1) := by decide +kernel
theorem dX12_removesMouse_15 : decode cX12_removesMouse 15 = .ok (.aload_n 0, 1) := by decide +kernel
theorem dX12_removesMouse_16 : decode cX12_removesMouse 16 = .ok (.getfield 32, 3) := by decide +kernel
theorem dX12_removesMouse_19 : decode cX12_removesMouse 19 = .ok (.bipush 8, 2) := by decide +kernel
theorem dX12_removesMouse_21 : decode cX12_removesMouse 21 = .ok (.iaload, 1) := by decide +kernel
theorem dX12_removesMouse_22 : decode cX12_removesMouse 22 = .ok (.imul, 1) := by decide +kernel
theorem dX12_removesMouse_23 : decode cX12_removesMouse 23 = .ok (.iadd, 1) := by decide +kernel
theorem dX12_removesMouse_24 : decode cX12_removesMouse 24 = .ok (.istore_n 2, 1) := by decide +kernel
theorem dX12_removesMouse_25 : decode cX12_removesMouse 25 = .ok (.sipush 192, 3) := by decide +kernel
theorem dX12_removesMouse_28 : decode cX12_removesMouse 28 = .ok (.iconst 3, 1) := by decide +kernel
theorem dX12_removesMouse_29 : decode cX12_removesMouse 29 = .ok (.iload_n 1, 1) := by decide +kernel
theorem dX12_removesMouse_30 : decode cX12_removesMouse 30 = .ok (.imul, 1) := by decide +kernel
theorem dX12_removesMouse_31 : decode cX12_removesMouse 31 = .ok (.iadd, 1) := by decide +kernel
theorem dX12_removesMouse_32 : decode cX12_removesMouse 32 = .ok (.istore_n 3, 1) := by decide +kernel
theorem dX12_removesMouse_33 : decode cX12_removesMouse 33 = .ok (.iload_n 3, 1) := by decide +kernel
theorem dX12_removesMouse_34 : decode cX12_removesMouse 34 = .ok (.iload_n 2, 1) := by decide +kernel
theorem dX12_removesMouse_35 : decode cX12_removesMouse 35 = .ok (.if_icmp .ge 23, 3) := by decide +kernel
theorem dX12_removesMouse_38 : decode cX12_removesMouse 38 = .ok (.aload_n 0, 1) := by decide +kernel
theorem dX12_removesMouse_39 : decode cX12_removesMouse 39 = .ok (.getfield 32, 3) := by decide +kernel
theorem dX12_removesMouse_42 : decode cX12_removesMouse 42 = .ok (.iload_n 3, 1) := by decide +kernel
theorem dX12_removesMouse_43 : decode cX12_removesMouse 43 = .ok (.aload_n 0, 1) := by decide +kernel
theorem dX12_removesMouse_44 : decode cX12_removesMouse 44 = .ok (.getfield 32, 3) := by decide +kernel
theorem dX12_removesMouse_47 : decode cX12_removesMouse 47 = .ok (.iload_n 3, 1) := by decide +kernel
theorem dX12_removesMouse_48 : decode cX12_removesMouse 48 = .ok (.iconst 3, 1) := by decide +kernel
theorem dX12_removesMouse_49 : decode cX12_removesMouse 49 = .ok (.iadd, 1) := by decide +kernel
theorem dX12_removesMouse_50 : decode cX12_removesMouse 50 = .ok (.iaload, 1) := by decide +kernel
theorem dX12_removesMouse_51 : decode cX12_removesMouse 51 = .ok (.iastore, 1) := by decide +kernel
theorem dX12_removesMouse_52 : decode cX12_removesMouse 52 = .ok (.iinc 3 1, 3) := by decide +kernel
theorem dX12_removesMouse_55 : decode cX12_removesMouse 55 = .ok (.goto (-22), 3) := by decide +kernel
theorem dX12_removesMouse_58 : decode cX12_removesMouse 58 = .ok (.iconst 0, 1) := by decide +kernel
theorem dX12_removesMouse_59 : decode cX12_removesMouse 59 = .ok (.istore_n 3, 1) := by decide +kernel
theorem dX12_removesMouse_60 : decode cX12_removesMouse 60 = .ok (.iload_n 3, 1) := by decide +kernel
theorem dX12_removesMouse_61 : decode cX12_removesMouse 61 = .ok (.iconst 3, 1) := by decide +kernel
theorem dX12_removesMouse_62 : decode cX12_removesMouse 62 = .ok (.if_icmp .ge 18, 3) := by decide +kernel
theorem dX12_removesMouse_65 : decode cX12_removesMouse 65 = .ok (.aload_n 0, 1) := by decide +kernel
theorem dX12_removesMouse_66 : decode cX12_removesMouse 66 = .ok (.getfield 32, 3) := by decide +kernel
theorem dX12_removesMouse_69 : decode cX12_removesMouse 69 = .ok (.iload_n 2, 1) := by decide +kernel
theorem dX12_removesMouse_70 : decode cX12_removesMouse 70 = .ok (.iload_n 3, 1) := by decide +kernel
theorem dX12_removesMouse_71 : decode cX12_removesMouse 71 = .ok (.iadd, 1) := by decide +kernel
theorem dX12_removesMouse_72 : decode cX12_removesMouse 72 = .ok (.iconst 0, 1) := by decide +kernel
theorem dX12_removesMouse_73 : decode cX12_removesMouse 73 = .ok (.iastore, 1) := by decide +kernel
theorem dX12_removesMouse_74 : decode cX12_removesMouse 74 = .ok (.iinc 3 1, 3) := by decide +kernel
theorem dX12_removesMouse_77 : decode cX12_removesMouse 77 = .ok (.goto (-17), 3) := by decide +kernel
theorem dX12_removesMouse_80 : decode cX12_removesMouse 80 = .ok (.return_, 1) := by decide +kernel
theorem dX12_walks_0 : decode cX12_walks 0 = .ok (.aload_n 0, 1) := by decide +kernel
theorem dX12_walks_1 : decode cX12_walks 1 = .ok (.getfield 32, 3) := by decide +kernel
theorem dX12_walks_4 : decode cX12_walks 4 = .ok (.iconst 2, 1) := by decide +kernel
theorem dX12_walks_5 : decode cX12_walks 5 = .ok (.iaload, 1) := by decide +kernel
theorem dX12_walks_6 : decode cX12_walks 6 = .ok (.ifCond .ne 4, 3) := by decide +kernel
theorem dX12_walks_9 : decode cX12_walks 9 = .ok (.return_, 1) := by decide +kernel
theorem dX12_walks_10 : decode cX12_walks 10 = .ok (.aload_n 0, 1) := by decide +kernel
theorem dX12_walks_11 : decode cX12_walks 11 = .ok (.getfield 32, 3) := by decide +kernel
theorem dX12_walks_14 : decode cX12_walks 14 = .ok (.iconst 3, 1) := by decide +kernel
theorem dX12_walks_15 : decode cX12_walks 15 = .ok (.aload_n 0, 1) := by decide +kernel
theorem dX12_walks_16 : decode cX12_walks 16 = .ok (.invokevirtual 149, 3) := by decide +kernel
theorem dX12_walks_19 : decode cX12_walks 19 = .ok (.iastore, 1) := by decide +kernel
theorem dX12_walks_20 : decode cX12_walks 20 = .ok (.aload_n 0, 1) := by decide +kernel
theorem dX12_walks_21 : decode cX12_walks 21 = .ok (.getfield 32, 3) := by decide +kernel
theorem dX12_walks_24 : decode cX12_walks 24 = .ok (.iconst 3, 1) := by decide +kernel
theorem dX12_walks_25 : decode cX12_walks 25 = .ok (.iaload, 1) := by decide +kernel
theorem dX12_walks_26 : decode cX12_walks 26 = .ok (.aload_n 0, 1) := by decide +kernel
theorem dX12_walks_27 : decode cX12_walks 27 = .ok (.getfield 32, 3) := by decide +kernel
theorem dX12_walks_30 : decode cX12_walks 30 = .ok (.sipush 182, 3) := by decide +kernel
theorem dX12_walks_33 : decode cX12_walks 33 = .ok (.aload_n 0, 1) := by decide +kernel
theorem dX12_walks_34 : decode cX12_walks 34 = .ok (.getfield 32, 3) := by decide +kernel
theorem dX12_walks_37 : decode cX12_walks 37 = .ok (.iconst 4, 1) := by decide +kernel
theorem dX12_walks_38 : decode cX12_walks 38 = .ok (.iaload, 1) := by decide +kernel
theorem dX12_walks_39 : decode cX12_walks 39 = .ok (.iadd, 1) := by decide +kernel
theorem dX12_walks_40 : decode cX12_walks 40 = .ok (.iaload, 1) := by decide +kernel
theorem dX12_walks_41 : decode cX12_walks 41 = .ok (.if_icmp .ne 24, 3) := by decide +kernel
theorem dX12_walks_44 : decode cX12_walks 44 = .ok (.aload_n 0, 1) := by decide +kernel
theorem dX12_walks_45 : decode cX12_walks 45 = .ok (.getfield 32, 3) := by decide +kernel
theorem dX12_walks_48 : decode cX12_walks 48 = .ok (.iconst 4, 1) := by decide +kernel
theorem dX12_walks_49 : decode cX12_walks 49 = .ok (.aload_n 0, 1) := by decide +kernel
theorem dX12_walks_50 : decode cX12_walks 50 = .ok (.getfield 32, 3) := by decide +kernel
theorem dX12_walks_53 : decode cX12_walks 53 = .ok (.iconst 4, 1) := by decide +kernel
theorem dX12_walks_54 : decode cX12_walks 54 = .ok (.iaload, 1) := by decide +kernel
theorem dX12_walks_55 : decode cX12_walks 55 = .ok (.iconst 1, 1) := by decide +kernel
theorem dX12_walks_56 : decode cX12_walks 56 = .ok (.iadd, 1) := by decide +kernel
theorem dX12_walks_57 : decode cX12_walks 57 = .ok (.aload_n 0, 1) := by decide +kernel
theorem dX12_walks_58 : decode cX12_walks 58 = .ok (.getfield 32, 3) := by decide +kernel
theorem dX12_walks_61 : decode cX12_walks 61 = .ok (.iconst 2, 1) := by decide +kernel
theorem dX12_walks_62 : decode cX12_walks 62 = .ok (.iaload, 1) := by decide +kernel
theorem dX12_walks_63 : decode cX12_walks 63 = .ok (.irem, 1) := by decide +kernel
theorem dX12_walks_64 : decode cX12_walks 64 = .ok (.iastore, 1) := by decide +kernel
theorem dX12_walks_65 : decode cX12_walks 65 = .ok (.return_, 1) := by decide +kernel
theorem dX12_catches_0 : decode cX12_catches 0 = .ok (.aload_n 0, 1) := by decide +kernel
theorem dX12_catches_1 : decode cX12_catches 1 = .ok (.getfield 32, 3) := by decide +kernel
theorem dX12_catches_4 : decode cX12_catches 4 = .ok (.bipush 26, 2) := by decide +kernel
theorem dX12_catches_6 : decode cX12_catches 6 = .ok (.aload_n 0, 1) := by decide +kernel
theorem dX12_catches_7 : decode cX12_catches 7 = .ok (.getfield 32, 3) := by decide +kernel
theorem dX12_catches_10 : decode cX12_catches 10 = .ok (.iconst 3, 1) := by decide +kernel
theorem dX12_catches_11 : decode cX12_catches 11 = .ok (.iaload, 1) := by decide +kernel
theorem dX12_catches_12 : decode cX12_catches 12 = .ok (.iadd, 1) := by decide +kernel
theorem dX12_catches_13 : decode cX12_catches 13 = .ok (.iaload, 1) := by decide +kernel
theorem dX12_catches_14 : decode cX12_catches 14 = .ok (.iconst 1, 1) := by decide +kernel
theorem dX12_catches_15 : decode cX12_catches 15 = .ok (.if_icmp .ne 5, 3) := by decide +kernel
theorem dX12_catches_18 : decode cX12_catches 18 = .ok (.iconst 0, 1) := by decide +kernel
theorem dX12_catches_19 : decode cX12_catches 19 = .ok (.ireturn, 1) := by decide +kernel
theorem dX12_catches_20 : decode cX12_catches 20 = .ok (.iconst 0, 1) := by decide +kernel
theorem dX12_catches_21 : decode cX12_catches 21 = .ok (.istore_n 1, 1) := by decide +kernel
theorem dX12_catches_22 : decode cX12_catches 22 = .ok (.iconst 0, 1) := by decide +kernel
theorem dX12_catches_23 : decode cX12_catches 23 = .ok (.istore_n 2, 1) := by decide +kernel
theorem dX12_catches_24 : decode cX12_catches 24 = .ok (.iload_n 2, 1) := by decide +kernel
theorem dX12_catches_25 : decode cX12_catches 25 = .ok (.aload_n 0, 1) := by decide +kernel
theorem dX12_catches_26 : decode cX12_catches 26 = .ok (.getfield 32, 3) := by decide +kernel
theorem dX12_catches_29 : decode cX12_catches 29 = .ok (.bipush 8, 2) := by decide +kernel
theorem dX12_catches_31 : decode cX12_catches 31 = .ok (.iaload, 1) := by decide +kernel
theorem dX12_catches_32 : decode cX12_catches 32 = .ok (.if_icmp .ge 51, 3) := by decide +kernel
theorem dX12_catches_35 : decode cX12_catches 35 = .ok (.aload_n 0, 1) := by decide +kernel
theorem dX12_catches_36 : decode cX12_catches 36 = .ok (.iload_n 2, 1) := by decide +kernel
theorem dX12_catches_37 : decode cX12_catches 37 = .ok (.iconst 0, 1) := by decide +kernel
theorem dX12_catches_38 : decode cX12_catches 38 = .ok (.invokevirtual 153, 3) := by decide +kernel
theorem dX12_catches_41 : decode cX12_catches 41 = .ok (.aload_n 0, 1) := by decide +kernel
theorem dX12_catches_42 : decode cX12_catches 42 = .ok (.getfield 32, 3) := by decide +kernel
theorem dX12_catches_45 : decode cX12_catches 45 = .ok (.iconst 3, 1) := by decide +kernel
theorem dX12_catches_46 : decode cX12_catches 46 = .ok (.iaload, 1) := by decide +kernel
theorem dX12_catches_47 : decode cX12_catches 47 = .ok (.if_icmp .ne 30, 3) := by decide +kernel
theorem dX12_catches_50 : decode cX12_catches 50 = .ok (.aload_n 0, 1) := by decide +kernel
theorem dX12_catches_51 : decode cX12_catches 51 = .ok (.getfield 32, 3) := by decide +kernel
theorem dX12_catches_54 : decode cX12_catches 54 = .ok (.bipush 11, 2) := by decide +kernel
theorem dX12_catches_56 : decode cX12_catches 56 = .ok (.dup2, 1) := by decide +kernel
theorem dX12_catches_57 : decode cX12_catches 57 = .ok (.iaload, 1) := by decide +kernel
theorem dX12_catches_58 : decode cX12_catches 58 = .ok (.aload_n 0, 1) := by decide +kernel
theorem dX12_catches_59 : decode cX12_catches 59 = .ok (.iload_n 2, 1) := by decide +kernel
theorem dX12_catches_60 : decode cX12_catches 60 = .ok (.iconst 1, 1) := by decide +kernel
theorem dX12_catches_61 : decode cX12_catches 61 = .ok (.invokevirtual 153, 3) := by decide +kernel
theorem dX12_catches_64 : decode cX12_catches 64 = .ok (.iadd, 1) := by decide +kernel
theorem dX12_catches_65 : decode cX12_catches 65 = .ok (.iastore, 1) := by decide +kernel
theorem dX12_catches_66 : decode cX12_catches 66 = .ok (.aload_n 0, 1) := by decide +kernel
theorem dX12_catches_67 : decode cX12_catches 67 = .ok (.iload_n 2, 1) := by decide +kernel
theorem dX12_catches_68 : decode cX12_catches 68 = .ok (.invokevirtual 156, 3) := by decide +kernel
theorem dX12_catches_71 : decode cX12_catches 71 = .ok (.iinc 1 1, 3) := by decide +kernel
theorem dX12_catches_74 : decode cX12_catches 74 = .ok (.goto (-50), 3) := by decide +kernel
theorem dX12_catches_77 : decode cX12_catches 77 = .ok (.iinc 2 1, 3) := by decide +kernel
theorem dX12_catches_80 : decode cX12_catches 80 = .ok (.goto (-56), 3) := by decide +kernel
theorem dX12_catches_83 : decode cX12_catches 83 = .ok (.aload_n 0, 1) := by decide +kernel
theorem dX12_catches_84 : decode cX12_catches 84 = .ok (.getfield 32, 3) := by decide +kernel
theorem dX12_catches_87 : decode cX12_catches 87 = .ok (.bipush 9, 2) := by decide +kernel
theorem dX12_catches_89 : decode cX12_catches 89 = .ok (.dup2, 1) := by decide +kernel
theorem dX12_catches_90 : decode cX12_catches 90 = .ok (.iaload, 1) := by decide +kernel
theorem dX12_catches_91 : decode cX12_catches 91 = .ok (.iload_n 1, 1) := by decide +kernel
theorem dX12_catches_92 : decode cX12_catches 92 = .ok (.iadd, 1) := by decide +kernel
theorem dX12_catches_93 : decode cX12_catches 93 = .ok (.iastore, 1) := by decide +kernel
theorem dX12_catches_94 : decode cX12_catches 94 = .ok (.iload_n 1, 1) := by decide +kernel
theorem dX12_catches_95 : decode cX12_catches 95 = .ok (.ireturn, 1) := by decide +kernel
theorem dX12_richest_0 : decode cX12_richest 0 = .ok (.iload_n 1, 1) := by decide +kernel
theorem dX12_richest_1 : decode cX12_richest 1 = .ok (.istore_n 2, 1) := by decide +kernel
theorem dX12_richest_2 : decode cX12_richest 2 = .ok (.iconst 0, 1) := by decide +kernel
theorem dX12_richest_3 : decode cX12_richest 3 = .ok (.istore_n 3, 1) := by decide +kernel
theorem dX12_richest_4 : decode cX12_richest 4 = .ok (.iload_n 3, 1) := by decide +kernel
theorem dX12_richest_5 : decode cX12_richest 5 = .ok (.aload_n 0, 1) := by decide +kernel
theorem dX12_richest_6 : decode cX12_richest 6 = .ok (.getfield 32, 3) := by decide +kernel
theorem dX12_richest_9 : decode cX12_richest 9 = .ok (.iconst 0, 1) := by decide +kernel
theorem dX12_richest_10 : decode cX12_richest 10 = .ok (.iaload, 1) := by decide +kernel
theorem dX12_richest_11 : decode cX12_richest 11 = .ok (.if_icmp .ge 46, 3) := by decide +kernel
theorem dX12_richest_14 : decode cX12_richest 14 = .ok (.aload_n 0, 1) := by decide +kernel
theorem dX12_richest_15 : decode cX12_richest 15 = .ok (.iload_n 1, 1) := by decide +kernel
theorem dX12_richest_16 : decode cX12_richest 16 = .ok (.iload_n 3, 1) := by decide +kernel
theorem dX12_richest_17 : decode cX12_richest 17 = .ok (.invokevirtual 100, 3) := by decide +kernel
theorem dX12_richest_20 : decode cX12_richest 20 = .ok (.ifCond .eq 31, 3) := by decide +kernel
theorem dX12_richest_23 : decode cX12_richest 23 = .ok (.iload_n 2, 1) := by decide +kernel
theorem dX12_richest_24 : decode cX12_richest 24 = .ok (.iload_n 1, 1) := by decide +kernel
theorem dX12_richest_25 : decode cX12_richest 25 = .ok (.if_icmp .eq 24, 3) := by decide +kernel
theorem dX12_richest_28 : decode cX12_richest 28 = .ok (.aload_n 0, 1) := by decide +kernel
theorem dX12_richest_29 : decode cX12_richest 29 = .ok (.getfield 32, 3) := by decide +kernel
theorem dX12_richest_32 : decode cX12_richest 32 = .ok (.bipush 14, 2) := by decide +kernel
theorem dX12_richest_34 : decode cX12_richest 34 = .ok (.iload_n 3, 1) := by decide +kernel
theorem dX12_richest_35 : decode cX12_richest 35 = .ok (.iadd, 1) := by decide +kernel
theorem dX12_richest_36 : decode cX12_richest 36 = .ok (.iaload, 1) := by decide +kernel
theorem dX12_richest_37 : decode cX12_richest 37 = .ok (.aload_n 0, 1) := by decide +kernel
theorem dX12_richest_38 : decode cX12_richest 38 = .ok (.getfield 32, 3) := by decide +kernel
theorem dX12_richest_41 : decode cX12_richest 41 = .ok (.bipush 14, 2) := by decide +kernel
theorem dX12_richest_43 : decode cX12_richest 43 = .ok (.iload_n 2, 1) := by decide +kernel
theorem dX12_richest_44 : decode cX12_richest 44 = .ok (.iadd, 1) := by decide +kernel
theorem dX12_richest_45 : decode cX12_richest 45 = .ok (.iaload, 1) := by decide +kernel
theorem dX12_richest_46 : decode cX12_richest 46 = .ok (.if_icmp .le 5, 3) := by decide +kernel
theorem dX12_richest_49 : decode cX12_richest 49 = .ok (.iload_n 3, 1) := by decide +kernel
theorem dX12_richest_50 : decode cX12_richest 50 = .ok (.istore_n 2, 1) := by decide +kernel
theorem dX12_richest_51 : decode cX12_richest 51 = .ok (.iinc 3 1, 3) := by decide +kernel
theorem dX12_richest_54 : decode cX12_richest 54 = .ok (.goto (-50), 3) := by decide +kernel
theorem dX12_richest_57 : decode cX12_richest 57 = .ok (.iload_n 2, 1) := by decide +kernel
theorem dX12_richest_58 : decode cX12_richest 58 = .ok (.ireturn, 1) := by decide +kernel
theorem dX12_stays_0 : decode cX12_stays 0 = .ok (.sipush 192, 3) := by decide +kernel
theorem dX12_stays_3 : decode cX12_stays 3 = .ok (.iconst 3, 1) := by decide +kernel
theorem dX12_stays_4 : decode cX12_stays 4 = .ok (.iload_n 1, 1) := by decide +kernel
theorem dX12_stays_5 : decode cX12_stays 5 = .ok (.imul, 1) := by decide +kernel
theorem dX12_stays_6 : decode cX12_stays 6 = .ok (.iadd, 1) := by decide +kernel
theorem dX12_stays_7 : decode cX12_stays 7 = .ok (.istore_n 2, 1) := by decide +kernel
theorem dX12_stays_8 : decode cX12_stays 8 = .ok (.aload_n 0, 1) := by decide +kernel
theorem dX12_stays_9 : decode cX12_stays 9 = .ok (.getfield 32, 3) := by decide +kernel
theorem dX12_stays_12 : decode cX12_stays 12 = .ok (.bipush 14, 2) := by decide +kernel
theorem dX12_stays_14 : decode cX12_stays 14 = .ok (.aload_n 0, 1) := by decide +kernel
theorem dX12_stays_15 : decode cX12_stays 15 = .ok (.getfield 32, 3) := by decide +kernel
theorem dX12_stays_18 : decode cX12_stays 18 = .ok (.iload_n 2, 1) := by decide +kernel
theorem dX12_stays_19 : decode cX12_stays 19 = .ok (.iaload, 1) := by decide +kernel
theorem dX12_stays_20 : decode cX12_stays 20 = .ok (.iadd, 1) := by decide +kernel
theorem dX12_stays_21 : decode cX12_stays 21 = .ok (.iaload, 1) := by decide +kernel
theorem dX12_stays_22 : decode cX12_stays 22 = .ok (.ifCond .le 55, 3) := by decide +kernel
theorem dX12_stays_25 : decode cX12_stays 25 = .ok (.aload_n 0, 1) := by decide +kernel
theorem dX12_stays_26 : decode cX12_stays 26 = .ok (.getfield 32, 3) := by decide +kernel
theorem dX12_stays_29 : decode cX12_stays 29 = .ok (.bipush 14, 2) := by decide +kernel
theorem dX12_stays_31 : decode cX12_stays 31 = .ok (.aload_n 0, 1) := by decide +kernel
theorem dX12_stays_32 : decode cX12_stays 32 = .ok (.getfield 32, 3) := by decide +kernel
theorem dX12_stays_35 : decode cX12_stays 35 = .ok (.iload_n 2, 1) := by decide +kernel
theorem dX12_stays_36 : decode cX12_stays 36 = .ok (.iaload, 1) := by decide +kernel
theorem dX12_stays_37 : decode cX12_stays 37 = .ok (.iadd, 1) := by decide +kernel
theorem dX12_stays_38 : decode cX12_stays 38 = .ok (.dup2, 1) := by decide +kernel
theorem dX12_stays_39 : decode cX12_stays 39 = .ok (.iaload, 1) := by decide +kernel
theorem dX12_stays_40 : decode cX12_stays 40 = .ok (.iconst 1, 1) := by decide +kernel
theorem dX12_stays_41 : decode cX12_stays 41 = .ok (.isub, 1) := by decide +kernel
theorem dX12_stays_42 : decode cX12_stays 42 = .ok (.iastore, 1) := by decide +kernel
theorem dX12_stays_43 : decode cX12_stays 43 = .ok (.aload_n 0, 1) := by decide +kernel
theorem dX12_stays_44 : decode cX12_stays 44 = .ok (.getfield 32, 3) := by decide +kernel
theorem dX12_stays_47 : decode cX12_stays 47 = .ok (.iload_n 2, 1) := by decide +kernel
theorem dX12_stays_48 : decode cX12_stays 48 = .ok (.iconst 1, 1) := by decide +kernel
theorem dX12_stays_49 : decode cX12_stays 49 = .ok (.iadd, 1) := by decide +kernel
theorem dX12_stays_50 : decode cX12_stays 50 = .ok (.dup2, 1) := by decide +kernel
theorem dX12_stays_51 : decode cX12_stays 51 = .ok (.iaload, 1) := by decide +kernel
theorem dX12_stays_52 : decode cX12_stays 52 = .ok (.iconst 1, 1) := by decide +kernel
theorem dX12_stays_53 : decode cX12_stays 53 = .ok (.iadd, 1) := by decide +kernel
theorem dX12_stays_54 : decode cX12_stays 54 = .ok (.iastore, 1) := by decide +kernel
theorem dX12_stays_55 : decode cX12_stays 55 = .ok (.aload_n 0, 1) := by decide +kernel
theorem dX12_stays_56 : decode cX12_stays 56 = .ok (.getfield 32, 3) := by decide +kernel
theorem dX12_stays_59 : decode cX12_stays 59 = .ok (.bipush 12, 2) := by decide +kernel
theorem dX12_stays_61 : decode cX12_stays 61 = .ok (.dup2, 1) := by decide +kernel
theorem dX12_stays_62 : decode cX12_stays 62 = .ok (.iaload, 1) := by decide +kernel
theorem dX12_stays_63 : decode cX12_stays 63 = .ok (.iconst 1, 1) := by decide +kernel
theorem dX12_stays_64 : decode cX12_stays 64 = .ok (.iadd, 1) := by decide +kernel
theorem dX12_stays_65 : decode cX12_stays 65 = .ok (.iastore, 1) := by decide +kernel
theorem dX12_stays_66 : decode cX12_stays 66 = .ok (.aload_n 0, 1) := by decide +kernel
theorem dX12_stays_67 : decode cX12_stays 67 = .ok (.getfield 32, 3) := by decide +kernel
theorem dX12_stays_70 : decode cX12_stays 70 = .ok (.iload_n 2, 1) := by decide +kernel
theorem dX12_stays_71 : decode cX12_stays 71 = .ok (.iconst 2, 1) := by decide +kernel
theorem dX12_stays_72 : decode cX12_stays 72 = .ok (.iadd, 1) := by decide +kernel
theorem dX12_stays_73 : decode cX12_stays 73 = .ok (.iconst 0, 1) := by decide +kernel
theorem dX12_stays_74 : decode cX12_stays 74 = .ok (.iastore, 1) := by decide +kernel
theorem dX12_stays_75 : decode cX12_stays 75 = .ok (.iconst 1, 1) := by decide +kernel
theorem dX12_stays_76 : decode cX12_stays 76 = .ok (.ireturn, 1) := by decide +kernel
theorem dX12_stays_77 : decode cX12_stays 77 = .ok (.aload_n 0, 1) := by decide +kernel
theorem dX12_stays_78 : decode cX12_stays 78 = .ok (.getfield 32, 3) := by decide +kernel
theorem dX12_stays_81 : decode cX12_stays 81 = .ok (.iload_n 2, 1) := by decide +kernel
theorem dX12_stays_82 : decode cX12_stays 82 = .ok (.iconst 2, 1) := by decide +kernel
theorem dX12_stays_83 : decode cX12_stays 83 = .ok (.iadd, 1) := by decide +kernel
theorem dX12_stays_84 : decode cX12_stays 84 = .ok (.dup2, 1) := by decide +kernel
theorem dX12_stays_85 : decode cX12_stays 85 = .ok (.iaload, 1) := by decide +kernel
theorem dX12_stays_86 : decode cX12_stays 86 = .ok (.iconst 1, 1) := by decide +kernel
theorem dX12_stays_87 : decode cX12_stays 87 = .ok (.iadd, 1) := by decide +kernel
theorem dX12_stays_88 : decode cX12_stays 88 = .ok (.iastore, 1) := by decide +kernel
theorem dX12_stays_89 : decode cX12_stays 89 = .ok (.aload_n 0, 1) := by decide +kernel
theorem dX12_stays_90 : decode cX12_stays 90 = .ok (.getfield 32, 3) := by decide +kernel
theorem dX12_stays_93 : decode cX12_stays 93 = .ok (.iload_n 2, 1) := by decide +kernel
theorem dX12_stays_94 : decode cX12_stays 94 = .ok (.iconst 2, 1) := by decide +kernel
theorem dX12_stays_95 : decode cX12_stays 95 = .ok (.iadd, 1) := by decide +kernel
theorem dX12_stays_96 : decode cX12_stays 96 = .ok (.iaload, 1) := by decide +kernel
theorem dX12_stays_97 : decode cX12_stays 97 = .ok (.iconst 3, 1) := by decide +kernel
theorem dX12_stays_98 : decode cX12_stays 98 = .ok (.if_icmp .ne 21, 3) := by decide +kernel
theorem dX12_stays_101 : decode cX12_stays 101 = .ok (.aload_n 0, 1) := by decide +kernel
theorem dX12_stays_102 : decode cX12_stays 102 = .ok (.iload_n 1, 1) := by decide +kernel
theorem dX12_stays_103 : decode cX12_stays 103 = .ok (.invokevirtual 156, 3) := by decide +kernel
theorem dX12_stays_106 : decode cX12_stays 106 = .ok (.aload_n 0, 1) := by decide +kernel
theorem dX12_stays_107 : decode cX12_stays 107 = .ok (.getfield 32, 3) := by decide +kernel
theorem dX12_stays_110 : decode cX12_stays 110 = .ok (.bipush 10, 2) := by decide +kernel
theorem dX12_stays_112 : decode cX12_stays 112 = .ok (.dup2, 1) := by decide +kernel
theorem dX12_stays_113 : decode cX12_stays 113 = .ok (.iaload, 1) := by decide +kernel
theorem dX12_stays_114 : decode cX12_stays 114 = .ok (.iconst 1, 1) := by decide +kernel
theorem dX12_stays_115 : decode cX12_stays 115 = .ok (.iadd, 1) := by decide +kernel
theorem dX12_stays_116 : decode cX12_stays 116 = .ok (.iastore, 1) := by decide +kernel
theorem dX12_stays_117 : decode cX12_stays 117 = .ok (.iconst 0, 1) := by decide +kernel
theorem dX12_stays_118 : decode cX12_stays 118 = .ok (.ireturn, 1) := by decide +kernel
theorem dX12_stays_119 : decode cX12_stays 119 = .ok (.aload_n 0, 1) := by decide +kernel
theorem dX12_stays_120 : decode cX12_stays 120 = .ok (.getfield 32, 3) := by decide +kernel
theorem dX12_stays_123 : decode cX12_stays 123 = .ok (.iload_n 2, 1) := by decide +kernel
theorem dX12_stays_124 : decode cX12_stays 124 = .ok (.aload_n 0, 1) := by decide +kernel
theorem dX12_stays_125 : decode cX12_stays 125 = .ok (.aload_n 0, 1) := by decide +kernel
theorem dX12_stays_126 : decode cX12_stays 126 = .ok (.getfield 32, 3) := by decide +kernel
theorem dX12_stays_129 : decode cX12_stays 129 = .ok (.iload_n 2, 1) := by decide +kernel
theorem dX12_stays_130 : decode cX12_stays 130 = .ok (.iaload, 1) := by decide +kernel
theorem dX12_stays_131 : decode cX12_stays 131 = .ok (.invokevirtual 159, 3) := by decide +kernel
theorem dX12_stays_134 : decode cX12_stays 134 = .ok (.iastore, 1) := by decide +kernel
theorem dX12_stays_135 : decode cX12_stays 135 = .ok (.iconst 1, 1) := by decide +kernel
theorem dX12_stays_136 : decode cX12_stays 136 = .ok (.ireturn, 1) := by decide +kernel
theorem dX12_appears_0 : decode cX12_appears 0 = .ok (.aload_n 0, 1) := by decide +kernel
theorem dX12_appears_1 : decode cX12_appears 1 = .ok (.getfield 32, 3) := by decide +kernel
theorem dX12_appears_4 : decode cX12_appears 4 = .ok (.bipush 6, 2) := by decide +kernel
theorem dX12_appears_6 : decode cX12_appears 6 = .ok (.aload_n 0, 1) := by decide +kernel
theorem dX12_appears_7 : decode cX12_appears 7 = .ok (.getfield 32, 3) := by decide +kernel
theorem dX12_appears_10 : decode cX12_appears 10 = .ok (.bipush 6, 2) := by decide +kernel
theorem dX12_appears_12 : decode cX12_appears 12 = .ok (.iaload, 1) := by decide +kernel
theorem dX12_appears_13 : decode cX12_appears 13 = .ok (.bipush 109, 2) := by decide +kernel
theorem dX12_appears_15 : decode cX12_appears 15 = .ok (.imul, 1) := by decide +kernel
theorem dX12_appears_16 : decode cX12_appears 16 = .ok (.bipush 89, 2) := by decide +kernel
theorem dX12_appears_18 : decode cX12_appears 18 = .ok (.iadd, 1) := by decide +kernel
theorem dX12_appears_19 : decode cX12_appears 19 = .ok (.sipush 1024, 3) := by decide +kernel
theorem dX12_appears_22 : decode cX12_appears 22 = .ok (.irem, 1) := by decide +kernel
theorem dX12_appears_23 : decode cX12_appears 23 = .ok (.iastore, 1) := by decide +kernel
theorem dX12_appears_24 : decode cX12_appears 24 = .ok (.aload_n 0, 1) := by decide +kernel
theorem dX12_appears_25 : decode cX12_appears 25 = .ok (.getfield 32, 3) := by decide +kernel
theorem dX12_appears_28 : decode cX12_appears 28 = .ok (.bipush 6, 2) := by decide +kernel
theorem dX12_appears_30 : decode cX12_appears 30 = .ok (.iaload, 1) := by decide +kernel
theorem dX12_appears_31 : decode cX12_appears 31 = .ok (.bipush 16, 2) := by decide +kernel
theorem dX12_appears_33 : decode cX12_appears 33 = .ok (.irem, 1) := by decide +kernel
theorem dX12_appears_34 : decode cX12_appears 34 = .ok (.aload_n 0, 1) := by decide +kernel
theorem dX12_appears_35 : decode cX12_appears 35 = .ok (.getfield 32, 3) := by decide +kernel
theorem dX12_appears_38 : decode cX12_appears 38 = .ok (.iconst 5, 1) := by decide +kernel
theorem dX12_appears_39 : decode cX12_appears 39 = .ok (.iaload, 1) := by decide +kernel
theorem dX12_appears_40 : decode cX12_appears 40 = .ok (.if_icmp .ge 24, 3) := by decide +kernel
theorem dX12_appears_43 : decode cX12_appears 43 = .ok (.aload_n 0, 1) := by decide +kernel
theorem dX12_appears_44 : decode cX12_appears 44 = .ok (.getfield 32, 3) := by decide +kernel
theorem dX12_appears_47 : decode cX12_appears 47 = .ok (.iconst 0, 1) := by decide +kernel
theorem dX12_appears_48 : decode cX12_appears 48 = .ok (.iaload, 1) := by decide +kernel
theorem dX12_appears_49 : decode cX12_appears 49 = .ok (.ifCond .eq 15, 3) := by decide +kernel
theorem dX12_appears_52 : decode cX12_appears 52 = .ok (.aload_n 0, 1) := by decide +kernel
theorem dX12_appears_53 : decode cX12_appears 53 = .ok (.getfield 32, 3) := by decide +kernel
theorem dX12_appears_56 : decode cX12_appears 56 = .ok (.bipush 8, 2) := by decide +kernel
theorem dX12_appears_58 : decode cX12_appears 58 = .ok (.iaload, 1) := by decide +kernel
theorem dX12_appears_59 : decode cX12_appears 59 = .ok (.bipush 8, 2) := by decide +kernel
theorem dX12_appears_61 : decode cX12_appears 61 = .ok (.if_icmp .ne 4, 3) := by decide +kernel
theorem dX12_appears_64 : decode cX12_appears 64 = .ok (.return_, 1) := by decide +kernel
theorem dX12_appears_65 : decode cX12_appears 65 = .ok (.sipush 192, 3) := by decide +kernel
theorem dX12_appears_68 : decode cX12_appears 68 = .ok (.iconst 3, 1) := by decide +kernel
theorem dX12_appears_69 : decode cX12_appears 69 = .ok (.aload_n 0, 1) := by decide +kernel
theorem dX12_appears_70 : decode cX12_appears 70 = .ok (.getfield 32, 3) := by decide +kernel
theorem dX12_appears_73 : decode cX12_appears 73 = .ok (.bipush 8, 2) := by decide +kernel
theorem dX12_appears_75 : decode cX12_appears 75 = .ok (.iaload, 1) := by decide +kernel
theorem dX12_appears_76 : decode cX12_appears 76 = .ok (.imul, 1) := by decide +kernel
theorem dX12_appears_77 : decode cX12_appears 77 = .ok (.iadd, 1) := by decide +kernel
theorem dX12_appears_78 : decode cX12_appears 78 = .ok (.istore_n 1, 1) := by decide +kernel
theorem dX12_appears_79 : decode cX12_appears 79 = .ok (.aload_n 0, 1) := by decide +kernel
theorem dX12_appears_80 : decode cX12_appears 80 = .ok (.getfield 32, 3) := by decide +kernel
theorem dX12_appears_83 : decode cX12_appears 83 = .ok (.iload_n 1, 1) := by decide +kernel
theorem dX12_appears_84 : decode cX12_appears 84 = .ok (.aload_n 0, 1) := by decide +kernel
theorem dX12_appears_85 : decode cX12_appears 85 = .ok (.getfield 32, 3) := by decide +kernel
theorem dX12_appears_88 : decode cX12_appears 88 = .ok (.bipush 6, 2) := by decide +kernel
theorem dX12_appears_90 : decode cX12_appears 90 = .ok (.iaload, 1) := by decide +kernel
theorem dX12_appears_91 : decode cX12_appears 91 = .ok (.bipush 16, 2) := by decide +kernel
theorem dX12_appears_93 : decode cX12_appears 93 = .ok (.idiv, 1) := by decide +kernel
theorem dX12_appears_94 : decode cX12_appears 94 = .ok (.aload_n 0, 1) := by decide +kernel
theorem dX12_appears_95 : decode cX12_appears 95 = .ok (.getfield 32, 3) := by decide +kernel
theorem dX12_appears_98 : decode cX12_appears 98 = .ok (.iconst 0, 1) := by decide +kernel
theorem dX12_appears_99 : decode cX12_appears 99 = .ok (.iaload, 1) := by decide +kernel
theorem dX12_appears_100 : decode cX12_appears 100 = .ok (.irem, 1) := by decide +kernel
theorem dX12_appears_101 : decode cX12_appears 101 = .ok (.iastore, 1) := by decide +kernel
theorem dX12_appears_102 : decode cX12_appears 102 = .ok (.aload_n 0, 1) := by decide +kernel
theorem dX12_appears_103 : decode cX12_appears 103 = .ok (.getfield 32, 3) := by decide +kernel
theorem dX12_appears_106 : decode cX12_appears 106 = .ok (.iload_n 1, 1) := by decide +kernel
theorem dX12_appears_107 : decode cX12_appears 107 = .ok (.iconst 1, 1) := by decide +kernel
theorem dX12_appears_108 : decode cX12_appears 108 = .ok (.iadd, 1) := by decide +kernel
theorem dX12_appears_109 : decode cX12_appears 109 = .ok (.iconst 0, 1) := by decide +kernel
theorem dX12_appears_110 : decode cX12_appears 110 = .ok (.iastore, 1) := by decide +kernel
theorem dX12_appears_111 : decode cX12_appears 111 = .ok (.aload_n 0, 1) := by decide +kernel
theorem dX12_appears_112 : decode cX12_appears 112 = .ok (.getfield 32, 3) := by decide +kernel
theorem dX12_appears_115 : decode cX12_appears 115 = .ok (.iload_n 1, 1) := by decide +kernel
theorem dX12_appears_116 : decode cX12_appears 116 = .ok (.iconst 2, 1) := by decide +kernel
theorem dX12_appears_117 : decode cX12_appears 117 = .ok (.iadd, 1) := by decide +kernel
theorem dX12_appears_118 : decode cX12_appears 118 = .ok (.iconst 0, 1) := by decide +kernel
theorem dX12_appears_119 : decode cX12_appears 119 = .ok (.iastore, 1) := by decide +kernel
theorem dX12_appears_120 : decode cX12_appears 120 = .ok (.aload_n 0, 1) := by decide +kernel
theorem dX12_appears_121 : decode cX12_appears 121 = .ok (.getfield 32, 3) := by decide +kernel
theorem dX12_appears_124 : decode cX12_appears 124 = .ok (.bipush 8, 2) := by decide +kernel
theorem dX12_appears_126 : decode cX12_appears 126 = .ok (.dup2, 1) := by decide +kernel
theorem dX12_appears_127 : decode cX12_appears 127 = .ok (.iaload, 1) := by decide +kernel
theorem dX12_appears_128 : decode cX12_appears 128 = .ok (.iconst 1, 1) := by decide +kernel
theorem dX12_appears_129 : decode cX12_appears 129 = .ok (.iadd, 1) := by decide +kernel
theorem dX12_appears_130 : decode cX12_appears 130 = .ok (.iastore, 1) := by decide +kernel
theorem dX12_appears_131 : decode cX12_appears 131 = .ok (.return_, 1) := by decide +kernel
theorem dX12_passesOne_0 : decode cX12_passesOne 0 = .ok (.aload_n 0, 1) := by decide +kernel
theorem dX12_passesOne_1 : decode cX12_passesOne 1 = .ok (.getfield 32, 3) := by decide +kernel
theorem dX12_passesOne_4 : decode cX12_passesOne 4 = .ok (.bipush 7, 2) := by decide +kernel
theorem dX12_passesOne_6 : decode cX12_passesOne 6 = .ok (.dup2, 1) := by decide +kernel
theorem dX12_passesOne_7 : decode cX12_passesOne 7 = .ok (.iaload, 1) := by decide +kernel
theorem dX12_passesOne_8 : decode cX12_passesOne 8 = .ok (.iconst 1, 1) := by decide +kernel
theorem dX12_passesOne_9 : decode cX12_passesOne 9 = .ok (.iadd, 1) := by decide +kernel
theorem dX12_passesOne_10 : decode cX12_passesOne 10 = .ok (.iastore, 1) := by decide +kernel
theorem dX12_passesOne_11 : decode cX12_passesOne 11 = .ok (.aload_n 0, 1) := by decide +kernel
theorem dX12_passesOne_12 : decode cX12_passesOne 12 = .ok (.invokevirtual 162, 3) := by decide +kernel
theorem dX12_passesOne_15 : decode cX12_passesOne 15 = .ok (.aload_n 0, 1) := by decide +kernel
theorem dX12_passesOne_16 : decode cX12_passesOne 16 = .ok (.invokevirtual 165, 3) := by decide +kernel
theorem dX12_passesOne_19 : decode cX12_passesOne 19 = .ok (.istore_n 1, 1) := by decide +kernel
theorem dX12_passesOne_20 : decode cX12_passesOne 20 = .ok (.iconst 0, 1) := by decide +kernel
theorem dX12_passesOne_21 : decode cX12_passesOne 21 = .ok (.istore_n 2, 1) := by decide +kernel
theorem dX12_passesOne_22 : decode cX12_passesOne 22 = .ok (.iload_n 2, 1) := by decide +kernel
theorem dX12_passesOne_23 : decode cX12_passesOne 23 = .ok (.aload_n 0, 1) := by decide +kernel
theorem dX12_passesOne_24 : decode cX12_passesOne 24 = .ok (.getfield 32, 3) := by decide +kernel
theorem dX12_passesOne_27 : decode cX12_passesOne 27 = .ok (.bipush 8, 2) := by decide +kernel
theorem dX12_passesOne_29 : decode cX12_passesOne 29 = .ok (.iaload, 1) := by decide +kernel
theorem dX12_passesOne_30 : decode cX12_passesOne 30 = .ok (.if_icmp .ge 22, 3) := by decide +kernel
theorem dX12_passesOne_33 : decode cX12_passesOne 33 = .ok (.iload_n 2, 1) := by decide +kernel
theorem dX12_passesOne_34 : decode cX12_passesOne 34 = .ok (.aload_n 0, 1) := by decide +kernel
theorem dX12_passesOne_35 : decode cX12_passesOne 35 = .ok (.iload_n 2, 1) := by decide +kernel
theorem dX12_passesOne_36 : decode cX12_passesOne 36 = .ok (.invokevirtual 168, 3) := by decide +kernel
theorem dX12_passesOne_39 : decode cX12_passesOne 39 = .ok (.ifCond .eq 7, 3) := by decide +kernel
theorem dX12_passesOne_42 : decode cX12_passesOne 42 = .ok (.iconst 1, 1) := by decide +kernel
theorem dX12_passesOne_43 : decode cX12_passesOne 43 = .ok (.goto 4, 3) := by decide +kernel
theorem dX12_passesOne_46 : decode cX12_passesOne 46 = .ok (.iconst 0, 1) := by decide +kernel
theorem dX12_passesOne_47 : decode cX12_passesOne 47 = .ok (.iadd, 1) := by decide +kernel
theorem dX12_passesOne_48 : decode cX12_passesOne 48 = .ok (.istore_n 2, 1) := by decide +kernel
theorem dX12_passesOne_49 : decode cX12_passesOne 49 = .ok (.goto (-27), 3) := by decide +kernel
theorem dX12_passesOne_52 : decode cX12_passesOne 52 = .ok (.aload_n 0, 1) := by decide +kernel
theorem dX12_passesOne_53 : decode cX12_passesOne 53 = .ok (.invokevirtual 171, 3) := by decide +kernel
theorem dX12_passesOne_56 : decode cX12_passesOne 56 = .ok (.iload_n 1, 1) := by decide +kernel
theorem dX12_passesOne_57 : decode cX12_passesOne 57 = .ok (.ireturn, 1) := by decide +kernel
theorem dX12_passes_0 : decode cX12_passes 0 = .ok (.iconst 0, 1) := by decide +kernel
theorem dX12_passes_1 : decode cX12_passes 1 = .ok (.istore_n 2, 1) := by decide +kernel
theorem dX12_passes_2 : decode cX12_passes 2 = .ok (.iconst 0, 1) := by decide +kernel
theorem dX12_passes_3 : decode cX12_passes 3 = .ok (.istore_n 3, 1) := by decide +kernel
theorem dX12_passes_4 : decode cX12_passes 4 = .ok (.iload_n 3, 1) := by decide +kernel
theorem dX12_passes_5 : decode cX12_passes 5 = .ok (.iload_n 1, 1) := by decide +kernel
theorem dX12_passes_6 : decode cX12_passes 6 = .ok (.if_icmp .ge 16, 3) := by decide +kernel
theorem dX12_passes_9 : decode cX12_passes 9 = .ok (.iload_n 2, 1) := by decide +kernel
theorem dX12_passes_10 : decode cX12_passes 10 = .ok (.aload_n 0, 1) := by decide +kernel
theorem dX12_passes_11 : decode cX12_passes 11 = .ok (.invokevirtual 174, 3) := by decide +kernel
theorem dX12_passes_14 : decode cX12_passes 14 = .ok (.iadd, 1) := by decide +kernel
theorem dX12_passes_15 : decode cX12_passes 15 = .ok (.istore_n 2, 1) := by decide +kernel
theorem dX12_passes_16 : decode cX12_passes 16 = .ok (.iinc 3 1, 3) := by decide +kernel
theorem dX12_passes_19 : decode cX12_passes 19 = .ok (.goto (-15), 3) := by decide +kernel
theorem dX12_passes_22 : decode cX12_passes 22 = .ok (.iload_n 2, 1) := by decide +kernel
theorem dX12_passes_23 : decode cX12_passes 23 = .ok (.ireturn, 1) := by decide +kernel
theorem dX12_notPass_0 : decode cX12_notPass 0 = .ok (.iload_n 0, 1) := by decide +kernel
theorem dX12_notPass_1 : decode cX12_notPass 1 = .ok (.iconst 1, 1) := by decide +kernel
theorem dX12_notPass_2 : decode cX12_notPass 2 = .ok (.bipush 60, 2) := by decide +kernel
theorem dX12_notPass_4 : decode cX12_notPass 4 = .ok (.invokestatic 76, 3) := by decide +kernel
theorem dX12_notPass_7 : decode cX12_notPass 7 = .ok (.ifCond .eq 7, 3) := by decide +kernel
theorem dX12_notPass_10 : decode cX12_notPass 10 = .ok (.iconst 0, 1) := by decide +kernel
theorem dX12_notPass_11 : decode cX12_notPass 11 = .ok (.goto 4, 3) := by decide +kernel
theorem dX12_notPass_14 : decode cX12_notPass 14 = .ok (.iconst 1, 1) := by decide +kernel
theorem dX12_notPass_15 : decode cX12_notPass 15 = .ok (.ireturn, 1) := by decide +kernel
theorem dX12_pass_0 : decode cX12_pass 0 = .ok (.iload_n 1, 1) := by decide +kernel
theorem dX12_pass_1 : decode cX12_pass 1 = .ok (.invokestatic 177, 3) := by decide +kernel
theorem dX12_pass_4 : decode cX12_pass 4 = .ok (.ifCond .eq 9, 3) := by decide +kernel
theorem dX12_pass_7 : decode cX12_pass 7 = .ok (.aload_n 0, 1) := by decide +kernel
theorem dX12_pass_8 : decode cX12_pass 8 = .ok (.iconst 1, 1) := by decide +kernel
theorem dX12_pass_9 : decode cX12_pass 9 = .ok (.invokevirtual 87, 3) := by decide +kernel
theorem dX12_pass_12 : decode cX12_pass 12 = .ok (.ireturn, 1) := by decide +kernel
theorem dX12_pass_13 : decode cX12_pass 13 = .ok (.aload_n 0, 1) := by decide +kernel
theorem dX12_pass_14 : decode cX12_pass 14 = .ok (.invokevirtual 90, 3) := by decide +kernel
theorem dX12_pass_17 : decode cX12_pass 17 = .ok (.aload_n 0, 1) := by decide +kernel
theorem dX12_pass_18 : decode cX12_pass 18 = .ok (.iload_n 1, 1) := by decide +kernel
theorem dX12_pass_19 : decode cX12_pass 19 = .ok (.invokevirtual 180, 3) := by decide +kernel
theorem dX12_pass_22 : decode cX12_pass 22 = .ok (.ireturn, 1) := by decide +kernel
theorem dX12_predictCaught_0 : decode cX12_predictCaught 0 = .ok (.aload_n 0, 1) := by decide +kernel
theorem dX12_predictCaught_1 : decode cX12_predictCaught 1 = .ok (.iconst 0, 1) := by decide +kernel
theorem dX12_predictCaught_2 : decode cX12_predictCaught 2 = .ok (.putfield 1, 3) := by decide +kernel
theorem dX12_predictCaught_5 : decode cX12_predictCaught 5 = .ok (.iload_n 1, 1) := by decide +kernel
theorem dX12_predictCaught_6 : decode cX12_predictCaught 6 = .ok (.iconst 0, 1) := by decide +kernel
theorem dX12_predictCaught_7 : decode cX12_predictCaught 7 = .ok (.bipush 60, 2) := by decide +kernel
theorem dX12_predictCaught_9 : decode cX12_predictCaught 9 = .ok (.invokestatic 76, 3) := by decide +kernel
theorem dX12_predictCaught_12 : decode cX12_predictCaught 12 = .ok (.ifCond .ne 9, 3) := by decide +kernel
theorem dX12_predictCaught_15 : decode cX12_predictCaught 15 = .ok (.aload_n 0, 1) := by decide +kernel
theorem dX12_predictCaught_16 : decode cX12_predictCaught 16 = .ok (.iconst 1, 1) := by decide +kernel
theorem dX12_predictCaught_17 : decode cX12_predictCaught 17 = .ok (.invokevirtual 22, 3) := by decide +kernel
theorem dX12_predictCaught_20 : decode cX12_predictCaught 20 = .ok (.ireturn, 1) := by decide +kernel
theorem dX12_predictCaught_21 : decode cX12_predictCaught 21 = .ok (.iconst 0, 1) := by decide +kernel
theorem dX12_predictCaught_22 : decode cX12_predictCaught 22 = .ok (.istore_n 2, 1) := by decide +kernel
theorem dX12_predictCaught_23 : decode cX12_predictCaught 23 = .ok (.iload_n 2, 1) := by decide +kernel
theorem dX12_predictCaught_24 : decode cX12_predictCaught 24 = .ok (.sipush 216, 3) := by decide +kernel
theorem dX12_predictCaught_27 : decode cX12_predictCaught 27 = .ok (.if_icmp .ge 21, 3) := by decide +kernel
theorem dX12_predictCaught_30 : decode cX12_predictCaught 30 = .ok (.aload_n 0, 1) := by decide +kernel
theorem dX12_predictCaught_31 : decode cX12_predictCaught 31 = .ok (.getfield 45, 3) := by decide +kernel
theorem dX12_predictCaught_34 : decode cX12_predictCaught 34 = .ok (.iload_n 2, 1) := by decide +kernel
theorem dX12_predictCaught_35 : decode cX12_predictCaught 35 = .ok (.aload_n 0, 1) := by decide +kernel
theorem dX12_predictCaught_36 : decode cX12_predictCaught 36 = .ok (.getfield 32, 3) := by decide +kernel
theorem dX12_predictCaught_39 : decode cX12_predictCaught 39 = .ok (.iload_n 2, 1) := by decide +kernel
theorem dX12_predictCaught_40 : decode cX12_predictCaught 40 = .ok (.iaload, 1) := by decide +kernel
theorem dX12_predictCaught_41 : decode cX12_predictCaught 41 = .ok (.iastore, 1) := by decide +kernel
theorem dX12_predictCaught_42 : decode cX12_predictCaught 42 = .ok (.iinc 2 1, 3) := by decide +kernel
theorem dX12_predictCaught_45 : decode cX12_predictCaught 45 = .ok (.goto (-22), 3) := by decide +kernel
theorem dX12_predictCaught_48 : decode cX12_predictCaught 48 = .ok (.aload_n 0, 1) := by decide +kernel
theorem dX12_predictCaught_49 : decode cX12_predictCaught 49 = .ok (.iload_n 1, 1) := by decide +kernel
theorem dX12_predictCaught_50 : decode cX12_predictCaught 50 = .ok (.invokevirtual 180, 3) := by decide +kernel
theorem dX12_predictCaught_53 : decode cX12_predictCaught 53 = .ok (.istore_n 2, 1) := by decide +kernel
theorem dX12_predictCaught_54 : decode cX12_predictCaught 54 = .ok (.iconst 0, 1) := by decide +kernel
theorem dX12_predictCaught_55 : decode cX12_predictCaught 55 = .ok (.istore_n 3, 1) := by decide +kernel
theorem dX12_predictCaught_56 : decode cX12_predictCaught 56 = .ok (.iload_n 3, 1) := by decide +kernel
theorem dX12_predictCaught_57 : decode cX12_predictCaught 57 = .ok (.sipush 216, 3) := by decide +kernel
theorem dX12_predictCaught_60 : decode cX12_predictCaught 60 = .ok (.if_icmp .ge 21, 3) := by decide +kernel
theorem dX12_predictCaught_63 : decode cX12_predictCaught 63 = .ok (.aload_n 0, 1) := by decide +kernel
theorem dX12_predictCaught_64 : decode cX12_predictCaught 64 = .ok (.getfield 32, 3) := by decide +kernel
theorem dX12_predictCaught_67 : decode cX12_predictCaught 67 = .ok (.iload_n 3, 1) := by decide +kernel
theorem dX12_predictCaught_68 : decode cX12_predictCaught 68 = .ok (.aload_n 0, 1) := by decide +kernel
theorem dX12_predictCaught_69 : decode cX12_predictCaught 69 = .ok (.getfield 45, 3) := by decide +kernel
theorem dX12_predictCaught_72 : decode cX12_predictCaught 72 = .ok (.iload_n 3, 1) := by decide +kernel
theorem dX12_predictCaught_73 : decode cX12_predictCaught 73 = .ok (.iaload, 1) := by decide +kernel
theorem dX12_predictCaught_74 : decode cX12_predictCaught 74 = .ok (.iastore, 1) := by decide +kernel
theorem dX12_predictCaught_75 : decode cX12_predictCaught 75 = .ok (.iinc 3 1, 3) := by decide +kernel
theorem dX12_predictCaught_78 : decode cX12_predictCaught 78 = .ok (.goto (-22), 3) := by decide +kernel
theorem dX12_predictCaught_81 : decode cX12_predictCaught 81 = .ok (.iload_n 2, 1) := by decide +kernel
theorem dX12_predictCaught_82 : decode cX12_predictCaught 82 = .ok (.ireturn, 1) := by decide +kernel
theorem dX12_sets_0 : decode cX12_sets 0 = .ok (.aload_n 0, 1) := by decide +kernel
theorem dX12_sets_1 : decode cX12_sets 1 = .ok (.getfield 32, 3) := by decide +kernel
theorem dX12_sets_4 : decode cX12_sets 4 = .ok (.iload_n 1, 1) := by decide +kernel
theorem dX12_sets_5 : decode cX12_sets 5 = .ok (.iaload, 1) := by decide +kernel
theorem dX12_sets_6 : decode cX12_sets 6 = .ok (.istore_n 3, 1) := by decide +kernel
theorem dX12_sets_7 : decode cX12_sets 7 = .ok (.aload_n 0, 1) := by decide +kernel
theorem dX12_sets_8 : decode cX12_sets 8 = .ok (.getfield 32, 3) := by decide +kernel
theorem dX12_sets_11 : decode cX12_sets 11 = .ok (.iload_n 1, 1) := by decide +kernel
theorem dX12_sets_12 : decode cX12_sets 12 = .ok (.iload_n 2, 1) := by decide +kernel
theorem dX12_sets_13 : decode cX12_sets 13 = .ok (.iastore, 1) := by decide +kernel
theorem dX12_sets_14 : decode cX12_sets 14 = .ok (.iload_n 3, 1) := by decide +kernel
theorem dX12_sets_15 : decode cX12_sets 15 = .ok (.ireturn, 1) := by decide +kernel
theorem dX12_notRate_0 : decode cX12_notRate 0 = .ok (.iload_n 0, 1) := by decide +kernel
theorem dX12_notRate_1 : decode cX12_notRate 1 = .ok (.iconst 0, 1) := by decide +kernel
theorem dX12_notRate_2 : decode cX12_notRate 2 = .ok (.bipush 16, 2) := by decide +kernel
theorem dX12_notRate_4 : decode cX12_notRate 4 = .ok (.invokestatic 76, 3) := by decide +kernel
theorem dX12_notRate_7 : decode cX12_notRate 7 = .ok (.ifCond .eq 7, 3) := by decide +kernel
theorem dX12_notRate_10 : decode cX12_notRate 10 = .ok (.iconst 0, 1) := by decide +kernel
theorem dX12_notRate_11 : decode cX12_notRate 11 = .ok (.goto 4, 3) := by decide +kernel
theorem dX12_notRate_14 : decode cX12_notRate 14 = .ok (.iconst 1, 1) := by decide +kernel
theorem dX12_notRate_15 : decode cX12_notRate 15 = .ok (.ireturn, 1) := by decide +kernel
theorem dX12_setRate_0 : decode cX12_setRate 0 = .ok (.iload_n 1, 1) := by decide +kernel
theorem dX12_setRate_1 : decode cX12_setRate 1 = .ok (.invokestatic 183, 3) := by decide +kernel
theorem dX12_setRate_4 : decode cX12_setRate 4 = .ok (.ifCond .eq 9, 3) := by decide +kernel
theorem dX12_setRate_7 : decode cX12_setRate 7 = .ok (.aload_n 0, 1) := by decide +kernel
theorem dX12_setRate_8 : decode cX12_setRate 8 = .ok (.iconst 1, 1) := by decide +kernel
theorem dX12_setRate_9 : decode cX12_setRate 9 = .ok (.invokevirtual 87, 3) := by decide +kernel
theorem dX12_setRate_12 : decode cX12_setRate 12 = .ok (.ireturn, 1) := by decide +kernel
theorem dX12_setRate_13 : decode cX12_setRate 13 = .ok (.aload_n 0, 1) := by decide +kernel
theorem dX12_setRate_14 : decode cX12_setRate 14 = .ok (.invokevirtual 90, 3) := by decide +kernel
theorem dX12_setRate_17 : decode cX12_setRate 17 = .ok (.aload_n 0, 1) := by decide +kernel
theorem dX12_setRate_18 : decode cX12_setRate 18 = .ok (.iconst 5, 1) := by decide +kernel
theorem dX12_setRate_19 : decode cX12_setRate 19 = .ok (.iload_n 1, 1) := by decide +kernel
theorem dX12_setRate_20 : decode cX12_setRate 20 = .ok (.invokevirtual 186, 3) := by decide +kernel
theorem dX12_setRate_23 : decode cX12_setRate 23 = .ok (.ireturn, 1) := by decide +kernel
theorem dX12_notSeed_0 : decode cX12_notSeed 0 = .ok (.iload_n 0, 1) := by decide +kernel
theorem dX12_notSeed_1 : decode cX12_notSeed 1 = .ok (.iconst 0, 1) := by decide +kernel
theorem dX12_notSeed_2 : decode cX12_notSeed 2 = .ok (.sipush 1023, 3) := by decide +kernel
theorem dX12_notSeed_5 : decode cX12_notSeed 5 = .ok (.invokestatic 76, 3) := by decide +kernel
theorem dX12_notSeed_8 : decode cX12_notSeed 8 = .ok (.ifCond .eq 7, 3) := by decide +kernel
theorem dX12_notSeed_11 : decode cX12_notSeed 11 = .ok (.iconst 0, 1) := by decide +kernel
theorem dX12_notSeed_12 : decode cX12_notSeed 12 = .ok (.goto 4, 3) := by decide +kernel
theorem dX12_notSeed_15 : decode cX12_notSeed 15 = .ok (.iconst 1, 1) := by decide +kernel
theorem dX12_notSeed_16 : decode cX12_notSeed 16 = .ok (.ireturn, 1) := by decide +kernel
theorem dX12_setSeed_0 : decode cX12_setSeed 0 = .ok (.iload_n 1, 1) := by decide +kernel
theorem dX12_setSeed_1 : decode cX12_setSeed 1 = .ok (.invokestatic 189, 3) := by decide +kernel
theorem dX12_setSeed_4 : decode cX12_setSeed 4 = .ok (.ifCond .eq 9, 3) := by decide +kernel
theorem dX12_setSeed_7 : decode cX12_setSeed 7 = .ok (.aload_n 0, 1) := by decide +kernel
theorem dX12_setSeed_8 : decode cX12_setSeed 8 = .ok (.iconst 1, 1) := by decide +kernel
theorem dX12_setSeed_9 : decode cX12_setSeed 9 = .ok (.invokevirtual 87, 3) := by decide +kernel
theorem dX12_setSeed_12 : decode cX12_setSeed 12 = .ok (.ireturn, 1) := by decide +kernel
theorem dX12_setSeed_13 : decode cX12_setSeed 13 = .ok (.aload_n 0, 1) := by decide +kernel
theorem dX12_setSeed_14 : decode cX12_setSeed 14 = .ok (.invokevirtual 90, 3) := by decide +kernel
theorem dX12_setSeed_17 : decode cX12_setSeed 17 = .ok (.aload_n 0, 1) := by decide +kernel
theorem dX12_setSeed_18 : decode cX12_setSeed 18 = .ok (.bipush 6, 2) := by decide +kernel
theorem dX12_setSeed_20 : decode cX12_setSeed 20 = .ok (.iload_n 1, 1) := by decide +kernel
theorem dX12_setSeed_21 : decode cX12_setSeed 21 = .ok (.invokevirtual 186, 3) := by decide +kernel
theorem dX12_setSeed_24 : decode cX12_setSeed 24 = .ok (.ireturn, 1) := by decide +kernel
theorem dX12_asks_0 : decode cX12_asks 0 = .ok (.aload_n 0, 1) := by decide +kernel
theorem dX12_asks_1 : decode cX12_asks 1 = .ok (.iconst 0, 1) := by decide +kernel
theorem dX12_asks_2 : decode cX12_asks 2 = .ok (.putfield 1, 3) := by decide +kernel
theorem dX12_asks_5 : decode cX12_asks 5 = .ok (.aload_n 0, 1) := by decide +kernel
theorem dX12_asks_6 : decode cX12_asks 6 = .ok (.getfield 32, 3) := by decide +kernel
theorem dX12_asks_9 : decode cX12_asks 9 = .ok (.iload_n 1, 1) := by decide +kernel
theorem dX12_asks_10 : decode cX12_asks 10 = .ok (.iaload, 1) := by decide +kernel
theorem dX12_asks_11 : decode cX12_asks 11 = .ok (.ireturn, 1) := by decide +kernel
theorem dX12_shelfCount_0 : decode cX12_shelfCount 0 = .ok (.aload_n 0, 1) := by decide +kernel
theorem dX12_shelfCount_1 : decode cX12_shelfCount 1 = .ok (.iconst 0, 1) := by decide +kernel
theorem dX12_shelfCount_2 : decode cX12_shelfCount 2 = .ok (.invokevirtual 192, 3) := by decide +kernel
theorem dX12_shelfCount_5 : decode cX12_shelfCount 5 = .ok (.ireturn, 1) := by decide +kernel
theorem dX12_passageCount_0 : decode cX12_passageCount 0 = .ok (.aload_n 0, 1) := by decide +kernel
theorem dX12_passageCount_1 : decode cX12_passageCount 1 = .ok (.iconst 1, 1) := by decide +kernel
theorem dX12_passageCount_2 : decode cX12_passageCount 2 = .ok (.invokevirtual 192, 3) := by decide +kernel
theorem dX12_passageCount_5 : decode cX12_passageCount 5 = .ok (.ireturn, 1) := by decide +kernel
theorem dX12_cheese_0 : decode cX12_cheese 0 = .ok (.aload_n 0, 1) := by decide +kernel
theorem dX12_cheese_1 : decode cX12_cheese 1 = .ok (.iconst 0, 1) := by decide +kernel
theorem dX12_cheese_2 : decode cX12_cheese 2 = .ok (.putfield 1, 3) := by decide +kernel
theorem dX12_cheese_5 : decode cX12_cheese 5 = .ok (.aload_n 0, 1) := by decide +kernel
theorem dX12_cheese_6 : decode cX12_cheese 6 = .ok (.iload_n 1, 1) := by decide +kernel
theorem dX12_cheese_7 : decode cX12_cheese 7 = .ok (.invokevirtual 96, 3) := by decide +kernel
theorem dX12_cheese_10 : decode cX12_cheese 10 = .ok (.ifCond .eq 15, 3) := by decide +kernel
theorem dX12_cheese_13 : decode cX12_cheese 13 = .ok (.aload_n 0, 1) := by decide +kernel
theorem dX12_cheese_14 : decode cX12_cheese 14 = .ok (.getfield 32, 3) := by decide +kernel
theorem dX12_cheese_17 : decode cX12_cheese 17 = .ok (.bipush 14, 2) := by decide +kernel
theorem dX12_cheese_19 : decode cX12_cheese 19 = .ok (.iload_n 1, 1) := by decide +kernel
theorem dX12_cheese_20 : decode cX12_cheese 20 = .ok (.iadd, 1) := by decide +kernel
theorem dX12_cheese_21 : decode cX12_cheese 21 = .ok (.iaload, 1) := by decide +kernel
theorem dX12_cheese_22 : decode cX12_cheese 22 = .ok (.goto 8, 3) := by decide +kernel
theorem dX12_cheese_25 : decode cX12_cheese 25 = .ok (.aload_n 0, 1) := by decide +kernel
theorem dX12_cheese_26 : decode cX12_cheese 26 = .ok (.iconst 1, 1) := by decide +kernel
theorem dX12_cheese_27 : decode cX12_cheese 27 = .ok (.invokevirtual 22, 3) := by decide +kernel
theorem dX12_cheese_30 : decode cX12_cheese 30 = .ok (.ireturn, 1) := by decide +kernel
theorem dX12_isBlind_0 : decode cX12_isBlind 0 = .ok (.aload_n 0, 1) := by decide +kernel
theorem dX12_isBlind_1 : decode cX12_isBlind 1 = .ok (.iconst 0, 1) := by decide +kernel
theorem dX12_isBlind_2 : decode cX12_isBlind 2 = .ok (.putfield 1, 3) := by decide +kernel
theorem dX12_isBlind_5 : decode cX12_isBlind 5 = .ok (.aload_n 0, 1) := by decide +kernel
theorem dX12_isBlind_6 : decode cX12_isBlind 6 = .ok (.iload_n 1, 1) := by decide +kernel
theorem dX12_isBlind_7 : decode cX12_isBlind 7 = .ok (.invokevirtual 96, 3) := by decide +kernel
theorem dX12_isBlind_10 : decode cX12_isBlind 10 = .ok (.ifCond .ne 17, 3) := by decide +kernel
theorem dX12_isBlind_13 : decode cX12_isBlind 13 = .ok (.aload_n 0, 1) := by decide +kernel
theorem dX12_isBlind_14 : decode cX12_isBlind 14 = .ok (.iconst 1, 1) := by decide +kernel
theorem dX12_isBlind_15 : decode cX12_isBlind 15 = .ok (.invokevirtual 22, 3) := by decide +kernel
theorem dX12_isBlind_18 : decode cX12_isBlind 18 = .ok (.ifCond .le 7, 3) := by decide +kernel
theorem dX12_isBlind_21 : decode cX12_isBlind 21 = .ok (.iconst 1, 1) := by decide +kernel
theorem dX12_isBlind_22 : decode cX12_isBlind 22 = .ok (.goto 4, 3) := by decide +kernel
theorem dX12_isBlind_25 : decode cX12_isBlind 25 = .ok (.iconst 0, 1) := by decide +kernel
theorem dX12_isBlind_26 : decode cX12_isBlind 26 = .ok (.ireturn, 1) := by decide +kernel
theorem dX12_isBlind_27 : decode cX12_isBlind 27 = .ok (.aload_n 0, 1) := by decide +kernel
theorem dX12_isBlind_28 : decode cX12_isBlind 28 = .ok (.getfield 32, 3) := by decide +kernel
theorem dX12_isBlind_31 : decode cX12_isBlind 31 = .ok (.bipush 26, 2) := by decide +kernel
theorem dX12_isBlind_33 : decode cX12_isBlind 33 = .ok (.iload_n 1, 1) := by decide +kernel
theorem dX12_isBlind_34 : decode cX12_isBlind 34 = .ok (.iadd, 1) := by decide +kernel
theorem dX12_isBlind_35 : decode cX12_isBlind 35 = .ok (.iaload, 1) := by decide +kernel
theorem dX12_isBlind_36 : decode cX12_isBlind 36 = .ok (.iconst 1, 1) := by decide +kernel
theorem dX12_isBlind_37 : decode cX12_isBlind 37 = .ok (.if_icmp .ne 7, 3) := by decide +kernel
theorem dX12_isBlind_40 : decode cX12_isBlind 40 = .ok (.iconst 1, 1) := by decide +kernel
