theorem dX12_readsCommand_373 : decode cX12_readsCommand 373 = .ok (.invokevirtual 235, 3) := by decide +kernel
theorem dX12_readsCommand_376 : decode cX12_readsCommand 376 = .ok (.ifCond .eq 7, 3) := by decide +kernel
theorem dX12_readsCommand_379 : decode cX12_readsCommand 379 = .ok (.iconst 1, 1) := by decide +kernel
theorem dX12_readsCommand_380 : decode cX12_readsCommand 380 = .ok (.goto 4, 3) := by decide +kernel
theorem dX12_readsCommand_383 : decode cX12_readsCommand 383 = .ok (.iconst 0, 1) := by decide +kernel
theorem dX12_readsCommand_384 : decode cX12_readsCommand 384 = .ok (.ireturn, 1) := by decide +kernel
theorem dX12_readsAll_0 : decode cX12_readsAll 0 = .ok (.aload_n 0, 1) := by decide +kernel
theorem dX12_readsAll_1 : decode cX12_readsAll 1 = .ok (.iconst 0, 1) := by decide +kernel
theorem dX12_readsAll_2 : decode cX12_readsAll 2 = .ok (.putfield 219, 3) := by decide +kernel
theorem dX12_readsAll_5 : decode cX12_readsAll 5 = .ok (.iconst 1, 1) := by decide +kernel
theorem dX12_readsAll_6 : decode cX12_readsAll 6 = .ok (.istore_n 1, 1) := by decide +kernel
theorem dX12_readsAll_7 : decode cX12_readsAll 7 = .ok (.iload_n 1, 1) := by decide +kernel
theorem dX12_readsAll_8 : decode cX12_readsAll 8 = .ok (.ifCond .eq 22, 3) := by decide +kernel
theorem dX12_readsAll_11 : decode cX12_readsAll 11 = .ok (.aload_n 0, 1) := by decide +kernel
theorem dX12_readsAll_12 : decode cX12_readsAll 12 = .ok (.invokevirtual 247, 3) := by decide +kernel
theorem dX12_readsAll_15 : decode cX12_readsAll 15 = .ok (.ifCond .ne 5, 3) := by decide +kernel
theorem dX12_readsAll_18 : decode cX12_readsAll 18 = .ok (.iconst 0, 1) := by decide +kernel
theorem dX12_readsAll_19 : decode cX12_readsAll 19 = .ok (.ireturn, 1) := by decide +kernel
theorem dX12_readsAll_20 : decode cX12_readsAll 20 = .ok (.aload_n 0, 1) := by decide +kernel
theorem dX12_readsAll_21 : decode cX12_readsAll 21 = .ok (.bipush 59, 2) := by decide +kernel
theorem dX12_readsAll_23 : decode cX12_readsAll 23 = .ok (.invokevirtual 229, 3) := by decide +kernel
theorem dX12_readsAll_26 : decode cX12_readsAll 26 = .ok (.istore_n 1, 1) := by decide +kernel
theorem dX12_readsAll_27 : decode cX12_readsAll 27 = .ok (.goto (-20), 3) := by decide +kernel
theorem dX12_readsAll_30 : decode cX12_readsAll 30 = .ok (.aload_n 0, 1) := by decide +kernel
theorem dX12_readsAll_31 : decode cX12_readsAll 31 = .ok (.getfield 219, 3) := by decide +kernel
theorem dX12_readsAll_34 : decode cX12_readsAll 34 = .ok (.aload_n 0, 1) := by decide +kernel
theorem dX12_readsAll_35 : decode cX12_readsAll 35 = .ok (.getfield 216, 3) := by decide +kernel
theorem dX12_readsAll_38 : decode cX12_readsAll 38 = .ok (.if_icmp .ne 7, 3) := by decide +kernel
theorem dX12_readsAll_41 : decode cX12_readsAll 41 = .ok (.iconst 1, 1) := by decide +kernel
theorem dX12_readsAll_42 : decode cX12_readsAll 42 = .ok (.goto 4, 3) := by decide +kernel
theorem dX12_readsAll_45 : decode cX12_readsAll 45 = .ok (.iconst 0, 1) := by decide +kernel
theorem dX12_readsAll_46 : decode cX12_readsAll 46 = .ok (.ireturn, 1) := by decide +kernel
theorem dX12_notNow_0 : decode cX12_notNow 0 = .ok (.aload_n 0, 1) := by decide +kernel
theorem dX12_notNow_1 : decode cX12_notNow 1 = .ok (.getfield 61, 3) := by decide +kernel
theorem dX12_notNow_4 : decode cX12_notNow 4 = .ok (.iconst 0, 1) := by decide +kernel
theorem dX12_notNow_5 : decode cX12_notNow 5 = .ok (.iaload, 1) := by decide +kernel
theorem dX12_notNow_6 : decode cX12_notNow 6 = .ok (.istore_n 1, 1) := by decide +kernel
theorem dX12_notNow_7 : decode cX12_notNow 7 = .ok (.aload_n 0, 1) := by decide +kernel
theorem dX12_notNow_8 : decode cX12_notNow 8 = .ok (.getfield 61, 3) := by decide +kernel
theorem dX12_notNow_11 : decode cX12_notNow 11 = .ok (.iconst 1, 1) := by decide +kernel
theorem dX12_notNow_12 : decode cX12_notNow 12 = .ok (.iaload, 1) := by decide +kernel
theorem dX12_notNow_13 : decode cX12_notNow 13 = .ok (.istore_n 2, 1) := by decide +kernel
theorem dX12_notNow_14 : decode cX12_notNow 14 = .ok (.aload_n 0, 1) := by decide +kernel
theorem dX12_notNow_15 : decode cX12_notNow 15 = .ok (.getfield 238, 3) := by decide +kernel
theorem dX12_notNow_18 : decode cX12_notNow 18 = .ok (.tableswitch 149 99 116 #[99, 133, 144, 120, 149, 106, 149, 149, 149, 92, 149, 149, 113, 149, 149, 139, 86, 127], 86) := by decide +kernel
theorem dX12_notNow_104 : decode cX12_notNow 104 = .ok (.aload_n 0, 1) := by decide +kernel
theorem dX12_notNow_105 : decode cX12_notNow 105 = .ok (.iload_n 1, 1) := by decide +kernel
theorem dX12_notNow_106 : decode cX12_notNow 106 = .ok (.invokevirtual 84, 3) := by decide +kernel
theorem dX12_notNow_109 : decode cX12_notNow 109 = .ok (.ireturn, 1) := by decide +kernel
theorem dX12_notNow_110 : decode cX12_notNow 110 = .ok (.aload_n 0, 1) := by decide +kernel
theorem dX12_notNow_111 : decode cX12_notNow 111 = .ok (.iload_n 1, 1) := by decide +kernel
theorem dX12_notNow_112 : decode cX12_notNow 112 = .ok (.iload_n 2, 1) := by decide +kernel
theorem dX12_notNow_113 : decode cX12_notNow 113 = .ok (.invokevirtual 108, 3) := by decide +kernel
theorem dX12_notNow_116 : decode cX12_notNow 116 = .ok (.ireturn, 1) := by decide +kernel
theorem dX12_notNow_117 : decode cX12_notNow 117 = .ok (.aload_n 0, 1) := by decide +kernel
theorem dX12_notNow_118 : decode cX12_notNow 118 = .ok (.iload_n 1, 1) := by decide +kernel
theorem dX12_notNow_119 : decode cX12_notNow 119 = .ok (.iload_n 2, 1) := by decide +kernel
theorem dX12_notNow_120 : decode cX12_notNow 120 = .ok (.invokevirtual 115, 3) := by decide +kernel
theorem dX12_notNow_123 : decode cX12_notNow 123 = .ok (.ireturn, 1) := by decide +kernel
theorem dX12_notNow_124 : decode cX12_notNow 124 = .ok (.aload_n 0, 1) := by decide +kernel
theorem dX12_notNow_125 : decode cX12_notNow 125 = .ok (.iload_n 1, 1) := by decide +kernel
theorem dX12_notNow_126 : decode cX12_notNow 126 = .ok (.iconst 1, 1) := by decide +kernel
theorem dX12_notNow_127 : decode cX12_notNow 127 = .ok (.invokevirtual 121, 3) := by decide +kernel
theorem dX12_notNow_130 : decode cX12_notNow 130 = .ok (.ireturn, 1) := by decide +kernel
theorem dX12_notNow_131 : decode cX12_notNow 131 = .ok (.aload_n 0, 1) := by decide +kernel
theorem dX12_notNow_132 : decode cX12_notNow 132 = .ok (.iload_n 1, 1) := by decide +kernel
theorem dX12_notNow_133 : decode cX12_notNow 133 = .ok (.iconst 0, 1) := by decide +kernel
theorem dX12_notNow_134 : decode cX12_notNow 134 = .ok (.invokevirtual 121, 3) := by decide +kernel
theorem dX12_notNow_137 : decode cX12_notNow 137 = .ok (.ireturn, 1) := by decide +kernel
theorem dX12_notNow_138 : decode cX12_notNow 138 = .ok (.aload_n 0, 1) := by decide +kernel
theorem dX12_notNow_139 : decode cX12_notNow 139 = .ok (.iload_n 1, 1) := by decide +kernel
theorem dX12_notNow_140 : decode cX12_notNow 140 = .ok (.iload_n 2, 1) := by decide +kernel
theorem dX12_notNow_141 : decode cX12_notNow 141 = .ok (.invokevirtual 127, 3) := by decide +kernel
theorem dX12_notNow_144 : decode cX12_notNow 144 = .ok (.ireturn, 1) := by decide +kernel
theorem dX12_notNow_145 : decode cX12_notNow 145 = .ok (.aload_n 0, 1) := by decide +kernel
theorem dX12_notNow_146 : decode cX12_notNow 146 = .ok (.iload_n 1, 1) := by decide +kernel
theorem dX12_notNow_147 : decode cX12_notNow 147 = .ok (.invokevirtual 133, 3) := by decide +kernel
theorem dX12_notNow_150 : decode cX12_notNow 150 = .ok (.ireturn, 1) := by decide +kernel
theorem dX12_notNow_151 : decode cX12_notNow 151 = .ok (.aload_n 0, 1) := by decide +kernel
theorem dX12_notNow_152 : decode cX12_notNow 152 = .ok (.iload_n 1, 1) := by decide +kernel
theorem dX12_notNow_153 : decode cX12_notNow 153 = .ok (.invokevirtual 139, 3) := by decide +kernel
theorem dX12_notNow_156 : decode cX12_notNow 156 = .ok (.ireturn, 1) := by decide +kernel
theorem dX12_notNow_157 : decode cX12_notNow 157 = .ok (.iload_n 1, 1) := by decide +kernel
theorem dX12_notNow_158 : decode cX12_notNow 158 = .ok (.invokestatic 183, 3) := by decide +kernel
theorem dX12_notNow_161 : decode cX12_notNow 161 = .ok (.ireturn, 1) := by decide +kernel
theorem dX12_notNow_162 : decode cX12_notNow 162 = .ok (.iload_n 1, 1) := by decide +kernel
theorem dX12_notNow_163 : decode cX12_notNow 163 = .ok (.invokestatic 189, 3) := by decide +kernel
theorem dX12_notNow_166 : decode cX12_notNow 166 = .ok (.ireturn, 1) := by decide +kernel
theorem dX12_notNow_167 : decode cX12_notNow 167 = .ok (.iload_n 1, 1) := by decide +kernel
theorem dX12_notNow_168 : decode cX12_notNow 168 = .ok (.invokestatic 177, 3) := by decide +kernel
theorem dX12_notNow_171 : decode cX12_notNow 171 = .ok (.ireturn, 1) := by decide +kernel
theorem dX12_doesNow_0 : decode cX12_doesNow 0 = .ok (.aload_n 0, 1) := by decide +kernel
theorem dX12_doesNow_1 : decode cX12_doesNow 1 = .ok (.getfield 61, 3) := by decide +kernel
theorem dX12_doesNow_4 : decode cX12_doesNow 4 = .ok (.iconst 0, 1) := by decide +kernel
theorem dX12_doesNow_5 : decode cX12_doesNow 5 = .ok (.iaload, 1) := by decide +kernel
theorem dX12_doesNow_6 : decode cX12_doesNow 6 = .ok (.istore_n 1, 1) := by decide +kernel
theorem dX12_doesNow_7 : decode cX12_doesNow 7 = .ok (.aload_n 0, 1) := by decide +kernel
theorem dX12_doesNow_8 : decode cX12_doesNow 8 = .ok (.getfield 61, 3) := by decide +kernel
theorem dX12_doesNow_11 : decode cX12_doesNow 11 = .ok (.iconst 1, 1) := by decide +kernel
theorem dX12_doesNow_12 : decode cX12_doesNow 12 = .ok (.iaload, 1) := by decide +kernel
theorem dX12_doesNow_13 : decode cX12_doesNow 13 = .ok (.istore_n 2, 1) := by decide +kernel
theorem dX12_doesNow_14 : decode cX12_doesNow 14 = .ok (.aload_n 0, 1) := by decide +kernel
theorem dX12_doesNow_15 : decode cX12_doesNow 15 = .ok (.getfield 238, 3) := by decide +kernel
theorem dX12_doesNow_18 : decode cX12_doesNow 18 = .ok (.tableswitch 154 99 116 #[99, 133, 146, 120, 154, 106, 154, 154, 154, 92, 154, 154, 113, 154, 154, 139, 86, 127], 86) := by decide +kernel
theorem dX12_doesNow_104 : decode cX12_doesNow 104 = .ok (.aload_n 0, 1) := by decide +kernel
theorem dX12_doesNow_105 : decode cX12_doesNow 105 = .ok (.iload_n 1, 1) := by decide +kernel
theorem dX12_doesNow_106 : decode cX12_doesNow 106 = .ok (.invokevirtual 93, 3) := by decide +kernel
theorem dX12_doesNow_109 : decode cX12_doesNow 109 = .ok (.ireturn, 1) := by decide +kernel
theorem dX12_doesNow_110 : decode cX12_doesNow 110 = .ok (.aload_n 0, 1) := by decide +kernel
theorem dX12_doesNow_111 : decode cX12_doesNow 111 = .ok (.iload_n 1, 1) := by decide +kernel
theorem dX12_doesNow_112 : decode cX12_doesNow 112 = .ok (.iload_n 2, 1) := by decide +kernel
theorem dX12_doesNow_113 : decode cX12_doesNow 113 = .ok (.invokevirtual 112, 3) := by decide +kernel
theorem dX12_doesNow_116 : decode cX12_doesNow 116 = .ok (.ireturn, 1) := by decide +kernel
theorem dX12_doesNow_117 : decode cX12_doesNow 117 = .ok (.aload_n 0, 1) := by decide +kernel
theorem dX12_doesNow_118 : decode cX12_doesNow 118 = .ok (.iload_n 1, 1) := by decide +kernel
theorem dX12_doesNow_119 : decode cX12_doesNow 119 = .ok (.iload_n 2, 1) := by decide +kernel
theorem dX12_doesNow_120 : decode cX12_doesNow 120 = .ok (.invokevirtual 118, 3) := by decide +kernel
theorem dX12_doesNow_123 : decode cX12_doesNow 123 = .ok (.ireturn, 1) := by decide +kernel
theorem dX12_doesNow_124 : decode cX12_doesNow 124 = .ok (.aload_n 0, 1) := by decide +kernel
theorem dX12_doesNow_125 : decode cX12_doesNow 125 = .ok (.iload_n 1, 1) := by decide +kernel
theorem dX12_doesNow_126 : decode cX12_doesNow 126 = .ok (.iconst 1, 1) := by decide +kernel
theorem dX12_doesNow_127 : decode cX12_doesNow 127 = .ok (.invokevirtual 124, 3) := by decide +kernel
theorem dX12_doesNow_130 : decode cX12_doesNow 130 = .ok (.ireturn, 1) := by decide +kernel
theorem dX12_doesNow_131 : decode cX12_doesNow 131 = .ok (.aload_n 0, 1) := by decide +kernel
theorem dX12_doesNow_132 : decode cX12_doesNow 132 = .ok (.iload_n 1, 1) := by decide +kernel
theorem dX12_doesNow_133 : decode cX12_doesNow 133 = .ok (.iconst 0, 1) := by decide +kernel
theorem dX12_doesNow_134 : decode cX12_doesNow 134 = .ok (.invokevirtual 124, 3) := by decide +kernel
theorem dX12_doesNow_137 : decode cX12_doesNow 137 = .ok (.ireturn, 1) := by decide +kernel
theorem dX12_doesNow_138 : decode cX12_doesNow 138 = .ok (.aload_n 0, 1) := by decide +kernel
theorem dX12_doesNow_139 : decode cX12_doesNow 139 = .ok (.iload_n 1, 1) := by decide +kernel
theorem dX12_doesNow_140 : decode cX12_doesNow 140 = .ok (.iload_n 2, 1) := by decide +kernel
theorem dX12_doesNow_141 : decode cX12_doesNow 141 = .ok (.invokevirtual 130, 3) := by decide +kernel
theorem dX12_doesNow_144 : decode cX12_doesNow 144 = .ok (.ireturn, 1) := by decide +kernel
theorem dX12_doesNow_145 : decode cX12_doesNow 145 = .ok (.aload_n 0, 1) := by decide +kernel
theorem dX12_doesNow_146 : decode cX12_doesNow 146 = .ok (.iload_n 1, 1) := by decide +kernel
theorem dX12_doesNow_147 : decode cX12_doesNow 147 = .ok (.invokevirtual 136, 3) := by decide +kernel
theorem dX12_doesNow_150 : decode cX12_doesNow 150 = .ok (.ireturn, 1) := by decide +kernel
theorem dX12_doesNow_151 : decode cX12_doesNow 151 = .ok (.aload_n 0, 1) := by decide +kernel
theorem dX12_doesNow_152 : decode cX12_doesNow 152 = .ok (.iload_n 1, 1) := by decide +kernel
theorem dX12_doesNow_153 : decode cX12_doesNow 153 = .ok (.invokevirtual 142, 3) := by decide +kernel
theorem dX12_doesNow_156 : decode cX12_doesNow 156 = .ok (.ireturn, 1) := by decide +kernel
theorem dX12_doesNow_157 : decode cX12_doesNow 157 = .ok (.aload_n 0, 1) := by decide +kernel
theorem dX12_doesNow_158 : decode cX12_doesNow 158 = .ok (.iconst 5, 1) := by decide +kernel
theorem dX12_doesNow_159 : decode cX12_doesNow 159 = .ok (.iload_n 1, 1) := by decide +kernel
theorem dX12_doesNow_160 : decode cX12_doesNow 160 = .ok (.invokevirtual 186, 3) := by decide +kernel
theorem dX12_doesNow_163 : decode cX12_doesNow 163 = .ok (.ireturn, 1) := by decide +kernel
theorem dX12_doesNow_164 : decode cX12_doesNow 164 = .ok (.aload_n 0, 1) := by decide +kernel
theorem dX12_doesNow_165 : decode cX12_doesNow 165 = .ok (.bipush 6, 2) := by decide +kernel
theorem dX12_doesNow_167 : decode cX12_doesNow 167 = .ok (.iload_n 1, 1) := by decide +kernel
theorem dX12_doesNow_168 : decode cX12_doesNow 168 = .ok (.invokevirtual 186, 3) := by decide +kernel
theorem dX12_doesNow_171 : decode cX12_doesNow 171 = .ok (.ireturn, 1) := by decide +kernel
theorem dX12_doesNow_172 : decode cX12_doesNow 172 = .ok (.aload_n 0, 1) := by decide +kernel
theorem dX12_doesNow_173 : decode cX12_doesNow 173 = .ok (.iload_n 1, 1) := by decide +kernel
theorem dX12_doesNow_174 : decode cX12_doesNow 174 = .ok (.invokevirtual 180, 3) := by decide +kernel
theorem dX12_doesNow_177 : decode cX12_doesNow 177 = .ok (.ireturn, 1) := by decide +kernel
theorem dX12_doesAll_0 : decode cX12_doesAll 0 = .ok (.aload_n 0, 1) := by decide +kernel
theorem dX12_doesAll_1 : decode cX12_doesAll 1 = .ok (.iconst 0, 1) := by decide +kernel
theorem dX12_doesAll_2 : decode cX12_doesAll 2 = .ok (.putfield 250, 3) := by decide +kernel
theorem dX12_doesAll_5 : decode cX12_doesAll 5 = .ok (.aload_n 0, 1) := by decide +kernel
theorem dX12_doesAll_6 : decode cX12_doesAll 6 = .ok (.iconst 0, 1) := by decide +kernel
theorem dX12_doesAll_7 : decode cX12_doesAll 7 = .ok (.putfield 219, 3) := by decide +kernel
theorem dX12_doesAll_10 : decode cX12_doesAll 10 = .ok (.iconst 1, 1) := by decide +kernel
theorem dX12_doesAll_11 : decode cX12_doesAll 11 = .ok (.istore_n 1, 1) := by decide +kernel
theorem dX12_doesAll_12 : decode cX12_doesAll 12 = .ok (.iload_n 1, 1) := by decide +kernel
theorem dX12_doesAll_13 : decode cX12_doesAll 13 = .ok (.ifCond .eq 42, 3) := by decide +kernel
theorem dX12_doesAll_16 : decode cX12_doesAll 16 = .ok (.aload_n 0, 1) := by decide +kernel
theorem dX12_doesAll_17 : decode cX12_doesAll 17 = .ok (.invokevirtual 247, 3) := by decide +kernel
theorem dX12_doesAll_20 : decode cX12_doesAll 20 = .ok (.pop, 1) := by decide +kernel
theorem dX12_doesAll_21 : decode cX12_doesAll 21 = .ok (.aload_n 0, 1) := by decide +kernel
theorem dX12_doesAll_22 : decode cX12_doesAll 22 = .ok (.invokevirtual 253, 3) := by decide +kernel
theorem dX12_doesAll_25 : decode cX12_doesAll 25 = .ok (.ifCond .eq 5, 3) := by decide +kernel
theorem dX12_doesAll_28 : decode cX12_doesAll 28 = .ok (.iconst 0, 1) := by decide +kernel
theorem dX12_doesAll_29 : decode cX12_doesAll 29 = .ok (.ireturn, 1) := by decide +kernel
theorem dX12_doesAll_30 : decode cX12_doesAll 30 = .ok (.aload_n 0, 1) := by decide +kernel
theorem dX12_doesAll_31 : decode cX12_doesAll 31 = .ok (.invokevirtual 256, 3) := by decide +kernel
theorem dX12_doesAll_34 : decode cX12_doesAll 34 = .ok (.pop, 1) := by decide +kernel
theorem dX12_doesAll_35 : decode cX12_doesAll 35 = .ok (.aload_n 0, 1) := by decide +kernel
theorem dX12_doesAll_36 : decode cX12_doesAll 36 = .ok (.dup, 1) := by decide +kernel
theorem dX12_doesAll_37 : decode cX12_doesAll 37 = .ok (.getfield 250, 3) := by decide +kernel
theorem dX12_doesAll_40 : decode cX12_doesAll 40 = .ok (.iconst 1, 1) := by decide +kernel
theorem dX12_doesAll_41 : decode cX12_doesAll 41 = .ok (.iadd, 1) := by decide +kernel
theorem dX12_doesAll_42 : decode cX12_doesAll 42 = .ok (.putfield 250, 3) := by decide +kernel
theorem dX12_doesAll_45 : decode cX12_doesAll 45 = .ok (.aload_n 0, 1) := by decide +kernel
theorem dX12_doesAll_46 : decode cX12_doesAll 46 = .ok (.bipush 59, 2) := by decide +kernel
theorem dX12_doesAll_48 : decode cX12_doesAll 48 = .ok (.invokevirtual 229, 3) := by decide +kernel
theorem dX12_doesAll_51 : decode cX12_doesAll 51 = .ok (.istore_n 1, 1) := by decide +kernel
theorem dX12_doesAll_52 : decode cX12_doesAll 52 = .ok (.goto (-40), 3) := by decide +kernel
theorem dX12_doesAll_55 : decode cX12_doesAll 55 = .ok (.iconst 1, 1) := by decide +kernel
theorem dX12_doesAll_56 : decode cX12_doesAll 56 = .ok (.ireturn, 1) := by decide +kernel
theorem dX12_execute_0 : decode cX12_execute 0 = .ok (.aload_n 0, 1) := by decide +kernel
theorem dX12_execute_1 : decode cX12_execute 1 = .ok (.iconst 0, 1) := by decide +kernel
theorem dX12_execute_2 : decode cX12_execute 2 = .ok (.putfield 1, 3) := by decide +kernel
theorem dX12_execute_5 : decode cX12_execute 5 = .ok (.aload_n 0, 1) := by decide +kernel
theorem dX12_execute_6 : decode cX12_execute 6 = .ok (.invokevirtual 259, 3) := by decide +kernel
theorem dX12_execute_9 : decode cX12_execute 9 = .ok (.ifCond .ne 22, 3) := by decide +kernel
theorem dX12_execute_12 : decode cX12_execute 12 = .ok (.aload_n 0, 1) := by decide +kernel
theorem dX12_execute_13 : decode cX12_execute 13 = .ok (.aload_n 0, 1) := by decide +kernel
theorem dX12_execute_14 : decode cX12_execute 14 = .ok (.getfield 219, 3) := by decide +kernel
theorem dX12_execute_17 : decode cX12_execute 17 = .ok (.putfield 58, 3) := by decide +kernel
theorem dX12_execute_20 : decode cX12_execute 20 = .ok (.aload_n 0, 1) := by decide +kernel
theorem dX12_execute_21 : decode cX12_execute 21 = .ok (.iconst 0, 1) := by decide +kernel
theorem dX12_execute_22 : decode cX12_execute 22 = .ok (.putfield 216, 3) := by decide +kernel
theorem dX12_execute_25 : decode cX12_execute 25 = .ok (.aload_n 0, 1) := by decide +kernel
theorem dX12_execute_26 : decode cX12_execute 26 = .ok (.iconst 1, 1) := by decide +kernel
theorem dX12_execute_27 : decode cX12_execute 27 = .ok (.invokevirtual 22, 3) := by decide +kernel
theorem dX12_execute_30 : decode cX12_execute 30 = .ok (.ireturn, 1) := by decide +kernel
theorem dX12_execute_31 : decode cX12_execute 31 = .ok (.aload_n 0, 1) := by decide +kernel
theorem dX12_execute_32 : decode cX12_execute 32 = .ok (.invokevirtual 70, 3) := by decide +kernel
theorem dX12_execute_35 : decode cX12_execute 35 = .ok (.aload_n 0, 1) := by decide +kernel
theorem dX12_execute_36 : decode cX12_execute 36 = .ok (.iconst 0, 1) := by decide +kernel
theorem dX12_execute_37 : decode cX12_execute 37 = .ok (.putfield 7, 3) := by decide +kernel
theorem dX12_execute_40 : decode cX12_execute 40 = .ok (.aload_n 0, 1) := by decide +kernel
theorem dX12_execute_41 : decode cX12_execute 41 = .ok (.invokevirtual 262, 3) := by decide +kernel
theorem dX12_execute_44 : decode cX12_execute 44 = .ok (.istore_n 1, 1) := by decide +kernel
theorem dX12_execute_45 : decode cX12_execute 45 = .ok (.aload_n 0, 1) := by decide +kernel
theorem dX12_execute_46 : decode cX12_execute 46 = .ok (.iconst 0, 1) := by decide +kernel
theorem dX12_execute_47 : decode cX12_execute 47 = .ok (.putfield 216, 3) := by decide +kernel
theorem dX12_execute_50 : decode cX12_execute 50 = .ok (.iload_n 1, 1) := by decide +kernel
theorem dX12_execute_51 : decode cX12_execute 51 = .ok (.ifCond .eq 12, 3) := by decide +kernel
theorem dX12_execute_54 : decode cX12_execute 54 = .ok (.aload_n 0, 1) := by decide +kernel
theorem dX12_execute_55 : decode cX12_execute 55 = .ok (.invokevirtual 73, 3) := by decide +kernel
theorem dX12_execute_58 : decode cX12_execute 58 = .ok (.aload_n 0, 1) := by decide +kernel
theorem dX12_execute_59 : decode cX12_execute 59 = .ok (.getfield 250, 3) := by decide +kernel
theorem dX12_execute_62 : decode cX12_execute 62 = .ok (.ireturn, 1) := by decide +kernel
theorem dX12_execute_63 : decode cX12_execute 63 = .ok (.aload_n 0, 1) := by decide +kernel
theorem dX12_execute_64 : decode cX12_execute 64 = .ok (.invokevirtual 265, 3) := by decide +kernel
theorem dX12_execute_67 : decode cX12_execute 67 = .ok (.aload_n 0, 1) := by decide +kernel
theorem dX12_execute_68 : decode cX12_execute 68 = .ok (.aload_n 0, 1) := by decide +kernel
theorem dX12_execute_69 : decode cX12_execute 69 = .ok (.getfield 7, 3) := by decide +kernel
theorem dX12_execute_72 : decode cX12_execute 72 = .ok (.ifCond .le 10, 3) := by decide +kernel
theorem dX12_execute_75 : decode cX12_execute 75 = .ok (.aload_n 0, 1) := by decide +kernel
theorem dX12_execute_76 : decode cX12_execute 76 = .ok (.getfield 7, 3) := by decide +kernel
theorem dX12_execute_79 : decode cX12_execute 79 = .ok (.goto 5, 3) := by decide +kernel
theorem dX12_execute_82 : decode cX12_execute 82 = .ok (.bipush 7, 2) := by decide +kernel
theorem dX12_execute_84 : decode cX12_execute 84 = .ok (.putfield 19, 3) := by decide +kernel
theorem dX12_execute_87 : decode cX12_execute 87 = .ok (.aload_n 0, 1) := by decide +kernel
theorem dX12_execute_88 : decode cX12_execute 88 = .ok (.iconst 0, 1) := by decide +kernel
theorem dX12_execute_89 : decode cX12_execute 89 = .ok (.putfield 7, 3) := by decide +kernel
theorem dX12_execute_92 : decode cX12_execute 92 = .ok (.aload_n 0, 1) := by decide +kernel
theorem dX12_execute_93 : decode cX12_execute 93 = .ok (.bipush 6, 2) := by decide +kernel
theorem dX12_execute_95 : decode cX12_execute 95 = .ok (.putfield 13, 3) := by decide +kernel
theorem dX12_execute_98 : decode cX12_execute 98 = .ok (.aload_n 0, 1) := by decide +kernel
theorem dX12_execute_99 : decode cX12_execute 99 = .ok (.aload_n 0, 1) := by decide +kernel
theorem dX12_execute_100 : decode cX12_execute 100 = .ok (.getfield 250, 3) := by decide +kernel
theorem dX12_execute_103 : decode cX12_execute 103 = .ok (.putfield 16, 3) := by decide +kernel
theorem dX12_execute_106 : decode cX12_execute 106 = .ok (.aload_n 0, 1) := by decide +kernel
theorem dX12_execute_107 : decode cX12_execute 107 = .ok (.iconst 2, 1) := by decide +kernel
theorem dX12_execute_108 : decode cX12_execute 108 = .ok (.invokevirtual 22, 3) := by decide +kernel
theorem dX12_execute_111 : decode cX12_execute 111 = .ok (.ireturn, 1) := by decide +kernel
theorem dX12_faultPosition_0 : decode cX12_faultPosition 0 = .ok (.aload_n 0, 1) := by decide +kernel
theorem dX12_faultPosition_1 : decode cX12_faultPosition 1 = .ok (.iconst 0, 1) := by decide +kernel
theorem dX12_faultPosition_2 : decode cX12_faultPosition 2 = .ok (.putfield 1, 3) := by decide +kernel
theorem dX12_faultPosition_5 : decode cX12_faultPosition 5 = .ok (.aload_n 0, 1) := by decide +kernel
theorem dX12_faultPosition_6 : decode cX12_faultPosition 6 = .ok (.getfield 58, 3) := by decide +kernel
theorem dX12_faultPosition_9 : decode cX12_faultPosition 9 = .ok (.ifCond .ge 11, 3) := by decide +kernel
theorem dX12_faultPosition_12 : decode cX12_faultPosition 12 = .ok (.aload_n 0, 1) := by decide +kernel
theorem dX12_faultPosition_13 : decode cX12_faultPosition 13 = .ok (.iconst 1, 1) := by decide +kernel
theorem dX12_faultPosition_14 : decode cX12_faultPosition 14 = .ok (.invokevirtual 22, 3) := by decide +kernel
theorem dX12_faultPosition_17 : decode cX12_faultPosition 17 = .ok (.goto 7, 3) := by decide +kernel
theorem dX12_faultPosition_20 : decode cX12_faultPosition 20 = .ok (.aload_n 0, 1) := by decide +kernel
theorem dX12_faultPosition_21 : decode cX12_faultPosition 21 = .ok (.getfield 58, 3) := by decide +kernel
theorem dX12_faultPosition_24 : decode cX12_faultPosition 24 = .ok (.ireturn, 1) := by decide +kernel
theorem dX12_denial_0 : decode cX12_denial 0 = .ok (.aload_n 0, 1) := by decide +kernel
theorem dX12_denial_1 : decode cX12_denial 1 = .ok (.iconst 0, 1) := by decide +kernel
theorem dX12_denial_2 : decode cX12_denial 2 = .ok (.putfield 1, 3) := by decide +kernel
theorem dX12_denial_5 : decode cX12_denial 5 = .ok (.aload_n 0, 1) := by decide +kernel
theorem dX12_denial_6 : decode cX12_denial 6 = .ok (.getfield 13, 3) := by decide +kernel
theorem dX12_denial_9 : decode cX12_denial 9 = .ok (.ifCond .ne 11, 3) := by decide +kernel
theorem dX12_denial_12 : decode cX12_denial 12 = .ok (.aload_n 0, 1) := by decide +kernel
theorem dX12_denial_13 : decode cX12_denial 13 = .ok (.iconst 1, 1) := by decide +kernel
theorem dX12_denial_14 : decode cX12_denial 14 = .ok (.invokevirtual 22, 3) := by decide +kernel
theorem dX12_denial_17 : decode cX12_denial 17 = .ok (.goto 7, 3) := by decide +kernel
theorem dX12_denial_20 : decode cX12_denial 20 = .ok (.aload_n 0, 1) := by decide +kernel
theorem dX12_denial_21 : decode cX12_denial 21 = .ok (.getfield 13, 3) := by decide +kernel
theorem dX12_denial_24 : decode cX12_denial 24 = .ok (.ireturn, 1) := by decide +kernel
theorem dX12_denialDetail_0 : decode cX12_denialDetail 0 = .ok (.aload_n 0, 1) := by decide +kernel
theorem dX12_denialDetail_1 : decode cX12_denialDetail 1 = .ok (.iconst 0, 1) := by decide +kernel
theorem dX12_denialDetail_2 : decode cX12_denialDetail 2 = .ok (.putfield 1, 3) := by decide +kernel
theorem dX12_denialDetail_5 : decode cX12_denialDetail 5 = .ok (.aload_n 0, 1) := by decide +kernel
theorem dX12_denialDetail_6 : decode cX12_denialDetail 6 = .ok (.getfield 13, 3) := by decide +kernel
theorem dX12_denialDetail_9 : decode cX12_denialDetail 9 = .ok (.ifCond .ne 11, 3) := by decide +kernel
theorem dX12_denialDetail_12 : decode cX12_denialDetail 12 = .ok (.aload_n 0, 1) := by decide +kernel
theorem dX12_denialDetail_13 : decode cX12_denialDetail 13 = .ok (.iconst 1, 1) := by decide +kernel
theorem dX12_denialDetail_14 : decode cX12_denialDetail 14 = .ok (.invokevirtual 22, 3) := by decide +kernel
theorem dX12_denialDetail_17 : decode cX12_denialDetail 17 = .ok (.goto 7, 3) := by decide +kernel
theorem dX12_denialDetail_20 : decode cX12_denialDetail 20 = .ok (.aload_n 0, 1) := by decide +kernel
theorem dX12_denialDetail_21 : decode cX12_denialDetail 21 = .ok (.getfield 16, 3) := by decide +kernel
theorem dX12_denialDetail_24 : decode cX12_denialDetail 24 = .ok (.ireturn, 1) := by decide +kernel
theorem dX12_denialCause_0 : decode cX12_denialCause 0 = .ok (.aload_n 0, 1) := by decide +kernel
theorem dX12_denialCause_1 : decode cX12_denialCause 1 = .ok (.iconst 0, 1) := by decide +kernel
theorem dX12_denialCause_2 : decode cX12_denialCause 2 = .ok (.putfield 1, 3) := by decide +kernel
theorem dX12_denialCause_5 : decode cX12_denialCause 5 = .ok (.aload_n 0, 1) := by decide +kernel
theorem dX12_denialCause_6 : decode cX12_denialCause 6 = .ok (.getfield 19, 3) := by decide +kernel
theorem dX12_denialCause_9 : decode cX12_denialCause 9 = .ok (.ifCond .ne 11, 3) := by decide +kernel
theorem dX12_denialCause_12 : decode cX12_denialCause 12 = .ok (.aload_n 0, 1) := by decide +kernel
theorem dX12_denialCause_13 : decode cX12_denialCause 13 = .ok (.iconst 1, 1) := by decide +kernel
theorem dX12_denialCause_14 : decode cX12_denialCause 14 = .ok (.invokevirtual 22, 3) := by decide +kernel
theorem dX12_denialCause_17 : decode cX12_denialCause 17 = .ok (.goto 7, 3) := by decide +kernel
theorem dX12_denialCause_20 : decode cX12_denialCause 20 = .ok (.aload_n 0, 1) := by decide +kernel
theorem dX12_denialCause_21 : decode cX12_denialCause 21 = .ok (.getfield 19, 3) := by decide +kernel
theorem dX12_denialCause_24 : decode cX12_denialCause 24 = .ok (.ireturn, 1) := by decide +kernel
theorem dX12_undo_0 : decode cX12_undo 0 = .ok (.aload_n 0, 1) := by decide +kernel
theorem dX12_undo_1 : decode cX12_undo 1 = .ok (.iconst 0, 1) := by decide +kernel
theorem dX12_undo_2 : decode cX12_undo 2 = .ok (.putfield 1, 3) := by decide +kernel
theorem dX12_undo_5 : decode cX12_undo 5 = .ok (.aload_n 0, 1) := by decide +kernel
theorem dX12_undo_6 : decode cX12_undo 6 = .ok (.getfield 64, 3) := by decide +kernel
theorem dX12_undo_9 : decode cX12_undo 9 = .ok (.ifCond .ne 9, 3) := by decide +kernel
theorem dX12_undo_12 : decode cX12_undo 12 = .ok (.aload_n 0, 1) := by decide +kernel
theorem dX12_undo_13 : decode cX12_undo 13 = .ok (.iconst 1, 1) := by decide +kernel
theorem dX12_undo_14 : decode cX12_undo 14 = .ok (.invokevirtual 22, 3) := by decide +kernel
theorem dX12_undo_17 : decode cX12_undo 17 = .ok (.ireturn, 1) := by decide +kernel
theorem dX12_undo_18 : decode cX12_undo 18 = .ok (.aload_n 0, 1) := by decide +kernel
theorem dX12_undo_19 : decode cX12_undo 19 = .ok (.dup, 1) := by decide +kernel
theorem dX12_undo_20 : decode cX12_undo 20 = .ok (.getfield 64, 3) := by decide +kernel
theorem dX12_undo_23 : decode cX12_undo 23 = .ok (.iconst 1, 1) := by decide +kernel
theorem dX12_undo_24 : decode cX12_undo 24 = .ok (.isub, 1) := by decide +kernel
theorem dX12_undo_25 : decode cX12_undo 25 = .ok (.putfield 64, 3) := by decide +kernel
theorem dX12_undo_28 : decode cX12_undo 28 = .ok (.aload_n 0, 1) := by decide +kernel
theorem dX12_undo_29 : decode cX12_undo 29 = .ok (.getfield 67, 3) := by decide +kernel
theorem dX12_undo_32 : decode cX12_undo 32 = .ok (.aload_n 0, 1) := by decide +kernel
theorem dX12_undo_33 : decode cX12_undo 33 = .ok (.getfield 64, 3) := by decide +kernel
theorem dX12_undo_36 : decode cX12_undo 36 = .ok (.iadd, 1) := by decide +kernel
theorem dX12_undo_37 : decode cX12_undo 37 = .ok (.bipush 8, 2) := by decide +kernel
theorem dX12_undo_39 : decode cX12_undo 39 = .ok (.irem, 1) := by decide +kernel
theorem dX12_undo_40 : decode cX12_undo 40 = .ok (.istore_n 1, 1) := by decide +kernel
theorem dX12_undo_41 : decode cX12_undo 41 = .ok (.iconst 0, 1) := by decide +kernel
theorem dX12_undo_42 : decode cX12_undo 42 = .ok (.istore_n 2, 1) := by decide +kernel
theorem dX12_undo_43 : decode cX12_undo 43 = .ok (.iload_n 2, 1) := by decide +kernel
theorem dX12_undo_44 : decode cX12_undo 44 = .ok (.sipush 216, 3) := by decide +kernel
theorem dX12_undo_47 : decode cX12_undo 47 = .ok (.if_icmp .ge 27, 3) := by decide +kernel
theorem dX12_undo_50 : decode cX12_undo 50 = .ok (.aload_n 0, 1) := by decide +kernel
theorem dX12_undo_51 : decode cX12_undo 51 = .ok (.getfield 32, 3) := by decide +kernel
theorem dX12_undo_54 : decode cX12_undo 54 = .ok (.iload_n 2, 1) := by decide +kernel
theorem dX12_undo_55 : decode cX12_undo 55 = .ok (.aload_n 0, 1) := by decide +kernel
theorem dX12_undo_56 : decode cX12_undo 56 = .ok (.getfield 36, 3) := by decide +kernel
theorem dX12_undo_59 : decode cX12_undo 59 = .ok (.sipush 216, 3) := by decide +kernel
theorem dX12_undo_62 : decode cX12_undo 62 = .ok (.iload_n 1, 1) := by decide +kernel
theorem dX12_undo_63 : decode cX12_undo 63 = .ok (.imul, 1) := by decide +kernel
theorem dX12_undo_64 : decode cX12_undo 64 = .ok (.iload_n 2, 1) := by decide +kernel
theorem dX12_undo_65 : decode cX12_undo 65 = .ok (.iadd, 1) := by decide +kernel
theorem dX12_undo_66 : decode cX12_undo 66 = .ok (.iaload, 1) := by decide +kernel
theorem dX12_undo_67 : decode cX12_undo 67 = .ok (.iastore, 1) := by decide +kernel
theorem dX12_undo_68 : decode cX12_undo 68 = .ok (.iinc 2 1, 3) := by decide +kernel
theorem dX12_undo_71 : decode cX12_undo 71 = .ok (.goto (-28), 3) := by decide +kernel
theorem dX12_undo_74 : decode cX12_undo 74 = .ok (.aload_n 0, 1) := by decide +kernel
theorem dX12_undo_75 : decode cX12_undo 75 = .ok (.getfield 64, 3) := by decide +kernel
theorem dX12_undo_78 : decode cX12_undo 78 = .ok (.ireturn, 1) := by decide +kernel
theorem dX12_undoCount_0 : decode cX12_undoCount 0 = .ok (.aload_n 0, 1) := by decide +kernel
theorem dX12_undoCount_1 : decode cX12_undoCount 1 = .ok (.iconst 0, 1) := by decide +kernel
theorem dX12_undoCount_2 : decode cX12_undoCount 2 = .ok (.putfield 1, 3) := by decide +kernel
theorem dX12_undoCount_5 : decode cX12_undoCount 5 = .ok (.aload_n 0, 1) := by decide +kernel
theorem dX12_undoCount_6 : decode cX12_undoCount 6 = .ok (.getfield 64, 3) := by decide +kernel
theorem dX12_undoCount_9 : decode cX12_undoCount 9 = .ok (.ireturn, 1) := by decide +kernel
theorem dX12_saveSnapshot_0 : decode cX12_saveSnapshot 0 = .ok (.aload_n 0, 1) := by decide +kernel
theorem dX12_saveSnapshot_1 : decode cX12_saveSnapshot 1 = .ok (.iconst 0, 1) := by decide +kernel
theorem dX12_saveSnapshot_2 : decode cX12_saveSnapshot 2 = .ok (.putfield 1, 3) := by decide +kernel
theorem dX12_saveSnapshot_5 : decode cX12_saveSnapshot 5 = .ok (.iconst 0, 1) := by decide +kernel
theorem dX12_saveSnapshot_6 : decode cX12_saveSnapshot 6 = .ok (.istore_n 1, 1) := by decide +kernel
theorem dX12_saveSnapshot_7 : decode cX12_saveSnapshot 7 = .ok (.iload_n 1, 1) := by decide +kernel
theorem dX12_saveSnapshot_8 : decode cX12_saveSnapshot 8 = .ok (.sipush 216, 3) := by decide +kernel
theorem dX12_saveSnapshot_11 : decode cX12_saveSnapshot 11 = .ok (.if_icmp .ge 21, 3) := by decide +kernel
theorem dX12_saveSnapshot_14 : decode cX12_saveSnapshot 14 = .ok (.aload_n 0, 1) := by decide +kernel
theorem dX12_saveSnapshot_15 : decode cX12_saveSnapshot 15 = .ok (.getfield 39, 3) := by decide +kernel
theorem dX12_saveSnapshot_18 : decode cX12_saveSnapshot 18 = .ok (.iload_n 1, 1) := by decide +kernel
theorem dX12_saveSnapshot_19 : decode cX12_saveSnapshot 19 = .ok (.aload_n 0, 1) := by decide +kernel
theorem dX12_saveSnapshot_20 : decode cX12_saveSnapshot 20 = .ok (.getfield 32, 3) := by decide +kernel
theorem dX12_saveSnapshot_23 : decode cX12_saveSnapshot 23 = .ok (.iload_n 1, 1) := by decide +kernel
theorem dX12_saveSnapshot_24 : decode cX12_saveSnapshot 24 = .ok (.iaload, 1) := by decide +kernel
theorem dX12_saveSnapshot_25 : decode cX12_saveSnapshot 25 = .ok (.iastore, 1) := by decide +kernel
theorem dX12_saveSnapshot_26 : decode cX12_saveSnapshot 26 = .ok (.iinc 1 1, 3) := by decide +kernel
theorem dX12_saveSnapshot_29 : decode cX12_saveSnapshot 29 = .ok (.goto (-22), 3) := by decide +kernel
theorem dX12_saveSnapshot_32 : decode cX12_saveSnapshot 32 = .ok (.aload_n 0, 1) := by decide +kernel
theorem dX12_saveSnapshot_33 : decode cX12_saveSnapshot 33 = .ok (.iconst 1, 1) := by decide +kernel
theorem dX12_saveSnapshot_34 : decode cX12_saveSnapshot 34 = .ok (.putfield 268, 3) := by decide +kernel
theorem dX12_saveSnapshot_37 : decode cX12_saveSnapshot 37 = .ok (.aload_n 0, 1) := by decide +kernel
theorem dX12_saveSnapshot_38 : decode cX12_saveSnapshot 38 = .ok (.getfield 32, 3) := by decide +kernel
theorem dX12_saveSnapshot_41 : decode cX12_saveSnapshot 41 = .ok (.iconst 0, 1) := by decide +kernel
theorem dX12_saveSnapshot_42 : decode cX12_saveSnapshot 42 = .ok (.iaload, 1) := by decide +kernel
theorem dX12_saveSnapshot_43 : decode cX12_saveSnapshot 43 = .ok (.ireturn, 1) := by decide +kernel
theorem dX12_restoreSnapshot_0 : decode cX12_restoreSnapshot 0 = .ok (.aload_n 0, 1) := by decide +kernel
theorem dX12_restoreSnapshot_1 : decode cX12_restoreSnapshot 1 = .ok (.iconst 0, 1) := by decide +kernel
theorem dX12_restoreSnapshot_2 : decode cX12_restoreSnapshot 2 = .ok (.putfield 1, 3) := by decide +kernel
theorem dX12_restoreSnapshot_5 : decode cX12_restoreSnapshot 5 = .ok (.aload_n 0, 1) := by decide +kernel
theorem dX12_restoreSnapshot_6 : decode cX12_restoreSnapshot 6 = .ok (.getfield 268, 3) := by decide +kernel
theorem dX12_restoreSnapshot_9 : decode cX12_restoreSnapshot 9 = .ok (.ifCond .ne 9, 3) := by decide +kernel
theorem dX12_restoreSnapshot_12 : decode cX12_restoreSnapshot 12 = .ok (.aload_n 0, 1) := by decide +kernel
theorem dX12_restoreSnapshot_13 : decode cX12_restoreSnapshot 13 = .ok (.iconst 1, 1) := by decide +kernel
theorem dX12_restoreSnapshot_14 : decode cX12_restoreSnapshot 14 = .ok (.invokevirtual 22, 3) := by decide +kernel
theorem dX12_restoreSnapshot_17 : decode cX12_restoreSnapshot 17 = .ok (.ireturn, 1) := by decide +kernel
theorem dX12_restoreSnapshot_18 : decode cX12_restoreSnapshot 18 = .ok (.iconst 0, 1) := by decide +kernel
theorem dX12_restoreSnapshot_19 : decode cX12_restoreSnapshot 19 = .ok (.istore_n 1, 1) := by decide +kernel
theorem dX12_restoreSnapshot_20 : decode cX12_restoreSnapshot 20 = .ok (.iload_n 1, 1) := by decide +kernel
theorem dX12_restoreSnapshot_21 : decode cX12_restoreSnapshot 21 = .ok (.sipush 216, 3) := by decide +kernel
theorem dX12_restoreSnapshot_24 : decode cX12_restoreSnapshot 24 = .ok (.if_icmp .ge 21, 3) := by decide +kernel
theorem dX12_restoreSnapshot_27 : decode cX12_restoreSnapshot 27 = .ok (.aload_n 0, 1) := by decide +kernel
theorem dX12_restoreSnapshot_28 : decode cX12_restoreSnapshot 28 = .ok (.getfield 32, 3) := by decide +kernel
theorem dX12_restoreSnapshot_31 : decode cX12_restoreSnapshot 31 = .ok (.iload_n 1, 1) := by decide +kernel
theorem dX12_restoreSnapshot_32 : decode cX12_restoreSnapshot 32 = .ok (.aload_n 0, 1) := by decide +kernel
theorem dX12_restoreSnapshot_33 : decode cX12_restoreSnapshot 33 = .ok (.getfield 39, 3) := by decide +kernel
theorem dX12_restoreSnapshot_36 : decode cX12_restoreSnapshot 36 = .ok (.iload_n 1, 1) := by decide +kernel
theorem dX12_restoreSnapshot_37 : decode cX12_restoreSnapshot 37 = .ok (.iaload, 1) := by decide +kernel
theorem dX12_restoreSnapshot_38 : decode cX12_restoreSnapshot 38 = .ok (.iastore, 1) := by decide +kernel
theorem dX12_restoreSnapshot_39 : decode cX12_restoreSnapshot 39 = .ok (.iinc 1 1, 3) := by decide +kernel
theorem dX12_restoreSnapshot_42 : decode cX12_restoreSnapshot 42 = .ok (.goto (-22), 3) := by decide +kernel
theorem dX12_restoreSnapshot_45 : decode cX12_restoreSnapshot 45 = .ok (.aload_n 0, 1) := by decide +kernel
theorem dX12_restoreSnapshot_46 : decode cX12_restoreSnapshot 46 = .ok (.iconst 0, 1) := by decide +kernel
theorem dX12_restoreSnapshot_47 : decode cX12_restoreSnapshot 47 = .ok (.putfield 64, 3) := by decide +kernel
theorem dX12_restoreSnapshot_50 : decode cX12_restoreSnapshot 50 = .ok (.aload_n 0, 1) := by decide +kernel
theorem dX12_restoreSnapshot_51 : decode cX12_restoreSnapshot 51 = .ok (.iconst 0, 1) := by decide +kernel
theorem dX12_restoreSnapshot_52 : decode cX12_restoreSnapshot 52 = .ok (.putfield 67, 3) := by decide +kernel
theorem dX12_restoreSnapshot_55 : decode cX12_restoreSnapshot 55 = .ok (.aload_n 0, 1) := by decide +kernel
theorem dX12_restoreSnapshot_56 : decode cX12_restoreSnapshot 56 = .ok (.getfield 32, 3) := by decide +kernel
theorem dX12_restoreSnapshot_59 : decode cX12_restoreSnapshot 59 = .ok (.iconst 0, 1) := by decide +kernel
theorem dX12_restoreSnapshot_60 : decode cX12_restoreSnapshot 60 = .ok (.iaload, 1) := by decide +kernel
theorem dX12_restoreSnapshot_61 : decode cX12_restoreSnapshot 61 = .ok (.ireturn, 1) := by decide +kernel
theorem dJx00060_init_a7421_0 : decode cJx00060_init_a7421 0 = .ok (.aload_n 0, 1) := by decide +kernel
theorem dJx00060_init_a7421_1 : decode cJx00060_init_a7421 1 = .ok (.aload_n 1, 1) := by decide +kernel
theorem dJx00060_init_a7421_2 : decode cJx00060_init_a7421 2 = .ok (.invokespecial 7, 3) := by decide +kernel
theorem dJx00060_init_a7421_5 : decode cJx00060_init_a7421 5 = .ok (.return_, 1) := by decide +kernel
theorem dJx29ce0_ordinal_8abf5_0 : decode cJx29ce0_ordinal_8abf5 0 = .ok (.aload_n 0, 1) := by decide +kernel
theorem dJx29ce0_ordinal_8abf5_1 : decode cJx29ce0_ordinal_8abf5 1 = .ok (.getfield 7, 3) := by decide +kernel
theorem dJx29ce0_ordinal_8abf5_4 : decode cJx29ce0_ordinal_8abf5 4 = .ok (.ireturn, 1) := by decide +kernel
theorem dJ6_bitCount_0f7a4_0 : decode cJ6_bitCount_0f7a4 0 = .ok (.iload_n 0, 1) := by decide +kernel
theorem dJ6_bitCount_0f7a4_1 : decode cJ6_bitCount_0f7a4 1 = .ok (.iload_n 0, 1) := by decide +kernel
theorem dJ6_bitCount_0f7a4_2 : decode cJ6_bitCount_0f7a4 2 = .ok (.iconst 1, 1) := by decide +kernel
theorem dJ6_bitCount_0f7a4_3 : decode cJ6_bitCount_0f7a4 3 = .ok (.iushr, 1) := by decide +kernel
theorem dJ6_bitCount_0f7a4_4 : decode cJ6_bitCount_0f7a4 4 = .ok (.ldc_w 265, 3) := by decide +kernel
theorem dJ6_bitCount_0f7a4_7 : decode cJ6_bitCount_0f7a4 7 = .ok (.iand, 1) := by decide +kernel
theorem dJ6_bitCount_0f7a4_8 : decode cJ6_bitCount_0f7a4 8 = .ok (.isub, 1) := by decide +kernel
theorem dJ6_bitCount_0f7a4_9 : decode cJ6_bitCount_0f7a4 9 = .ok (.istore_n 0, 1) := by decide +kernel
theorem dJ6_bitCount_0f7a4_10 : decode cJ6_bitCount_0f7a4 10 = .ok (.iload_n 0, 1) := by decide +kernel
theorem dJ6_bitCount_0f7a4_11 : decode cJ6_bitCount_0f7a4 11 = .ok (.ldc_w 266, 3) := by decide +kernel
theorem dJ6_bitCount_0f7a4_14 : decode cJ6_bitCount_0f7a4 14 = .ok (.iand, 1) := by decide +kernel
theorem dJ6_bitCount_0f7a4_15 : decode cJ6_bitCount_0f7a4 15 = .ok (.iload_n 0, 1) := by decide +kernel
theorem dJ6_bitCount_0f7a4_16 : decode cJ6_bitCount_0f7a4 16 = .ok (.iconst 2, 1) := by decide +kernel
theorem dJ6_bitCount_0f7a4_17 : decode cJ6_bitCount_0f7a4 17 = .ok (.iushr, 1) := by decide +kernel
theorem dJ6_bitCount_0f7a4_18 : decode cJ6_bitCount_0f7a4 18 = .ok (.ldc_w 266, 3) := by decide +kernel
theorem dJ6_bitCount_0f7a4_21 : decode cJ6_bitCount_0f7a4 21 = .ok (.iand, 1) := by decide +kernel
theorem dJ6_bitCount_0f7a4_22 : decode cJ6_bitCount_0f7a4 22 = .ok (.iadd, 1) := by decide +kernel
theorem dJ6_bitCount_0f7a4_23 : decode cJ6_bitCount_0f7a4 23 = .ok (.istore_n 0, 1) := by decide +kernel
theorem dJ6_bitCount_0f7a4_24 : decode cJ6_bitCount_0f7a4 24 = .ok (.iload_n 0, 1) := by decide +kernel
theorem dJ6_bitCount_0f7a4_25 : decode cJ6_bitCount_0f7a4 25 = .ok (.iload_n 0, 1) := by decide +kernel
theorem dJ6_bitCount_0f7a4_26 : decode cJ6_bitCount_0f7a4 26 = .ok (.iconst 4, 1) := by decide +kernel
theorem dJ6_bitCount_0f7a4_27 : decode cJ6_bitCount_0f7a4 27 = .ok (.iushr, 1) := by decide +kernel
theorem dJ6_bitCount_0f7a4_28 : decode cJ6_bitCount_0f7a4 28 = .ok (.iadd, 1) := by decide +kernel
theorem dJ6_bitCount_0f7a4_29 : decode cJ6_bitCount_0f7a4 29 = .ok (.ldc_w 267, 3) := by decide +kernel
theorem dJ6_bitCount_0f7a4_32 : decode cJ6_bitCount_0f7a4 32 = .ok (.iand, 1) := by decide +kernel
theorem dJ6_bitCount_0f7a4_33 : decode cJ6_bitCount_0f7a4 33 = .ok (.istore_n 0, 1) := by decide +kernel
theorem dJ6_bitCount_0f7a4_34 : decode cJ6_bitCount_0f7a4 34 = .ok (.iload_n 0, 1) := by decide +kernel
theorem dJ6_bitCount_0f7a4_35 : decode cJ6_bitCount_0f7a4 35 = .ok (.iload_n 0, 1) := by decide +kernel
theorem dJ6_bitCount_0f7a4_36 : decode cJ6_bitCount_0f7a4 36 = .ok (.bipush 8, 2) := by decide +kernel
theorem dJ6_bitCount_0f7a4_38 : decode cJ6_bitCount_0f7a4 38 = .ok (.iushr, 1) := by decide +kernel
theorem dJ6_bitCount_0f7a4_39 : decode cJ6_bitCount_0f7a4 39 = .ok (.iadd, 1) := by decide +kernel
theorem dJ6_bitCount_0f7a4_40 : decode cJ6_bitCount_0f7a4 40 = .ok (.istore_n 0, 1) := by decide +kernel
theorem dJ6_bitCount_0f7a4_41 : decode cJ6_bitCount_0f7a4 41 = .ok (.iload_n 0, 1) := by decide +kernel
theorem dJ6_bitCount_0f7a4_42 : decode cJ6_bitCount_0f7a4 42 = .ok (.iload_n 0, 1) := by decide +kernel
theorem dJ6_bitCount_0f7a4_43 : decode cJ6_bitCount_0f7a4 43 = .ok (.bipush 16, 2) := by decide +kernel
theorem dJ6_bitCount_0f7a4_45 : decode cJ6_bitCount_0f7a4 45 = .ok (.iushr, 1) := by decide +kernel
theorem dJ6_bitCount_0f7a4_46 : decode cJ6_bitCount_0f7a4 46 = .ok (.iadd, 1) := by decide +kernel
theorem dJ6_bitCount_0f7a4_47 : decode cJ6_bitCount_0f7a4 47 = .ok (.istore_n 0, 1) := by decide +kernel
theorem dJ6_bitCount_0f7a4_48 : decode cJ6_bitCount_0f7a4 48 = .ok (.iload_n 0, 1) := by decide +kernel
theorem dJ6_bitCount_0f7a4_49 : decode cJ6_bitCount_0f7a4 49 = .ok (.bipush 63, 2) := by decide +kernel
theorem dJ6_bitCount_0f7a4_51 : decode cJ6_bitCount_0f7a4 51 = .ok (.iand, 1) := by decide +kernel
theorem dJ6_bitCount_0f7a4_52 : decode cJ6_bitCount_0f7a4 52 = .ok (.ireturn, 1) := by decide +kernel
theorem dJ9_max_7cf53_0 : decode cJ9_max_7cf53 0 = .ok (.iload_n 0, 1) := by decide +kernel
theorem dJ9_max_7cf53_1 : decode cJ9_max_7cf53 1 = .ok (.iload_n 1, 1) := by decide +kernel
theorem dJ9_max_7cf53_2 : decode cJ9_max_7cf53 2 = .ok (.if_icmp .lt 7, 3) := by decide +kernel
theorem dJ9_max_7cf53_5 : decode cJ9_max_7cf53 5 = .ok (.iload_n 0, 1) := by decide +kernel
theorem dJ9_max_7cf53_6 : decode cJ9_max_7cf53 6 = .ok (.goto 4, 3) := by decide +kernel
theorem dJ9_max_7cf53_9 : decode cJ9_max_7cf53 9 = .ok (.iload_n 1, 1) := by decide +kernel
theorem dJ9_max_7cf53_10 : decode cJ9_max_7cf53 10 = .ok (.ireturn, 1) := by decide +kernel
theorem dJ9_min_7cf53_0 : decode cJ9_min_7cf53 0 = .ok (.iload_n 0, 1) := by decide +kernel
theorem dJ9_min_7cf53_1 : decode cJ9_min_7cf53 1 = .ok (.iload_n 1, 1) := by decide +kernel
theorem dJ9_min_7cf53_2 : decode cJ9_min_7cf53 2 = .ok (.if_icmp .gt 7, 3) := by decide +kernel
theorem dJ9_min_7cf53_5 : decode cJ9_min_7cf53 5 = .ok (.iload_n 0, 1) := by decide +kernel
theorem dJ9_min_7cf53_6 : decode cJ9_min_7cf53 6 = .ok (.goto 4, 3) := by decide +kernel
theorem dJ9_min_7cf53_9 : decode cJ9_min_7cf53 9 = .ok (.iload_n 1, 1) := by decide +kernel
theorem dJ9_min_7cf53_10 : decode cJ9_min_7cf53 10 = .ok (.ireturn, 1) := by decide +kernel
theorem dJ0_length_8abf5_0 : decode cJ0_length_8abf5 0 = .ok (.aload_n 0, 1) := by decide +kernel
theorem dJ0_length_8abf5_1 : decode cJ0_length_8abf5 1 = .ok (.getfield 9, 3) := by decide +kernel
theorem dJ0_length_8abf5_4 : decode cJ0_length_8abf5 4 = .ok (.arraylength, 1) := by decide +kernel
theorem dJ0_length_8abf5_5 : decode cJ0_length_8abf5 5 = .ok (.aload_n 0, 1) := by decide +kernel
theorem dJ0_length_8abf5_6 : decode cJ0_length_8abf5 6 = .ok (.invokevirtual 335, 3) := by decide +kernel
theorem dJ0_length_8abf5_9 : decode cJ0_length_8abf5 9 = .ok (.ishr, 1) := by decide +kernel
theorem dJ0_length_8abf5_10 : decode cJ0_length_8abf5 10 = .ok (.ireturn, 1) := by decide +kernel
theorem dJ0_charAt_5068e_0 : decode cJ0_charAt_5068e 0 = .ok (.aload_n 0, 1) := by decide +kernel
theorem dJ0_charAt_5068e_1 : decode cJ0_charAt_5068e 1 = .ok (.invokevirtual 492, 3) := by decide +kernel
theorem dJ0_charAt_5068e_4 : decode cJ0_charAt_5068e 4 = .ok (.ifCond .eq 12, 3) := by decide +kernel
theorem dJ0_charAt_5068e_7 : decode cJ0_charAt_5068e 7 = .ok (.aload_n 0, 1) := by decide +kernel
theorem dJ0_charAt_5068e_8 : decode cJ0_charAt_5068e 8 = .ok (.getfield 9, 3) := by decide +kernel
theorem dJ0_charAt_5068e_11 : decode cJ0_charAt_5068e 11 = .ok (.iload_n 1, 1) := by decide +kernel
theorem dJ0_charAt_5068e_12 : decode cJ0_charAt_5068e 12 = .ok (.invokestatic 495, 3) := by decide +kernel
theorem dJ0_charAt_5068e_15 : decode cJ0_charAt_5068e 15 = .ok (.ireturn, 1) := by decide +kernel
theorem dJ0_charAt_5068e_16 : decode cJ0_charAt_5068e 16 = .ok (.aload_n 0, 1) := by decide +kernel
theorem dJ0_charAt_5068e_17 : decode cJ0_charAt_5068e 17 = .ok (.getfield 9, 3) := by decide +kernel
theorem dJ0_charAt_5068e_20 : decode cJ0_charAt_5068e 20 = .ok (.iload_n 1, 1) := by decide +kernel
theorem dJ0_charAt_5068e_21 : decode cJ0_charAt_5068e 21 = .ok (.invokestatic 498, 3) := by decide +kernel
theorem dJ0_charAt_5068e_24 : decode cJ0_charAt_5068e 24 = .ok (.ireturn, 1) := by decide +kernel
theorem dJ0_coder_7d493_0 : decode cJ0_coder_7d493 0 = .ok (.getstatic 38, 3) := by decide +kernel
theorem dJ0_coder_7d493_3 : decode cJ0_coder_7d493 3 = .ok (.ifCond .eq 10, 3) := by decide +kernel
theorem dJ0_coder_7d493_6 : decode cJ0_coder_7d493 6 = .ok (.aload_n 0, 1) := by decide +kernel
theorem dJ0_coder_7d493_7 : decode cJ0_coder_7d493 7 = .ok (.getfield 15, 3) := by decide +kernel
theorem dJ0_coder_7d493_10 : decode cJ0_coder_7d493 10 = .ok (.goto 4, 3) := by decide +kernel
theorem dJ0_coder_7d493_13 : decode cJ0_coder_7d493 13 = .ok (.iconst 1, 1) := by decide +kernel
theorem dJ0_coder_7d493_14 : decode cJ0_coder_7d493 14 = .ok (.ireturn, 1) := by decide +kernel
theorem dJ0_isLatin1_aae02_0 : decode cJ0_isLatin1_aae02 0 = .ok (.getstatic 38, 3) := by decide +kernel
theorem dJ0_isLatin1_aae02_3 : decode cJ0_isLatin1_aae02 3 = .ok (.ifCond .eq 14, 3) := by decide +kernel
theorem dJ0_isLatin1_aae02_6 : decode cJ0_isLatin1_aae02 6 = .ok (.aload_n 0, 1) := by decide +kernel
theorem dJ0_isLatin1_aae02_7 : decode cJ0_isLatin1_aae02 7 = .ok (.getfield 15, 3) := by decide +kernel
theorem dJ0_isLatin1_aae02_10 : decode cJ0_isLatin1_aae02 10 = .ok (.ifCond .ne 7, 3) := by decide +kernel
theorem dJ0_isLatin1_aae02_13 : decode cJ0_isLatin1_aae02 13 = .ok (.iconst 1, 1) := by decide +kernel
theorem dJ0_isLatin1_aae02_14 : decode cJ0_isLatin1_aae02 14 = .ok (.goto 4, 3) := by decide +kernel
theorem dJ0_isLatin1_aae02_17 : decode cJ0_isLatin1_aae02 17 = .ok (.iconst 0, 1) := by decide +kernel
theorem dJ0_isLatin1_aae02_18 : decode cJ0_isLatin1_aae02 18 = .ok (.ireturn, 1) := by decide +kernel
theorem dJ0_checkIndex_df160_0 : decode cJ0_checkIndex_df160 0 = .ok (.iload_n 0, 1) := by decide +kernel
theorem dJ0_checkIndex_df160_1 : decode cJ0_checkIndex_df160 1 = .ok (.iload_n 1, 1) := by decide +kernel
theorem dJ0_checkIndex_df160_2 : decode cJ0_checkIndex_df160 2 = .ok (.getstatic 1053, 3) := by decide +kernel
theorem dJ0_checkIndex_df160_5 : decode cJ0_checkIndex_df160 5 = .ok (.invokestatic 1059, 3) := by decide +kernel
theorem dJ0_checkIndex_df160_8 : decode cJ0_checkIndex_df160 8 = .ok (.pop, 1) := by decide +kernel
theorem dJ0_checkIndex_df160_9 : decode cJ0_checkIndex_df160 9 = .ok (.return_, 1) := by decide +kernel
theorem dJ1_charAt_3b067_0 : decode cJ1_charAt_3b067 0 = .ok (.iload_n 1, 1) := by decide +kernel
theorem dJ1_charAt_3b067_1 : decode cJ1_charAt_3b067 1 = .ok (.aload_n 0, 1) := by decide +kernel
theorem dJ1_charAt_3b067_2 : decode cJ1_charAt_3b067 2 = .ok (.arraylength, 1) := by decide +kernel
theorem dJ1_charAt_3b067_3 : decode cJ1_charAt_3b067 3 = .ok (.invokestatic 9, 3) := by decide +kernel
theorem dJ1_charAt_3b067_6 : decode cJ1_charAt_3b067 6 = .ok (.aload_n 0, 1) := by decide +kernel
theorem dJ1_charAt_3b067_7 : decode cJ1_charAt_3b067 7 = .ok (.iload_n 1, 1) := by decide +kernel
theorem dJ1_charAt_3b067_8 : decode cJ1_charAt_3b067 8 = .ok (.baload, 1) := by decide +kernel
theorem dJ1_charAt_3b067_9 : decode cJ1_charAt_3b067 9 = .ok (.sipush 255, 3) := by decide +kernel
theorem dJ1_charAt_3b067_12 : decode cJ1_charAt_3b067 12 = .ok (.iand, 1) := by decide +kernel
theorem dJ1_charAt_3b067_13 : decode cJ1_charAt_3b067 13 = .ok (.i2c, 1) := by decide +kernel
theorem dJ1_charAt_3b067_14 : decode cJ1_charAt_3b067 14 = .ok (.ireturn, 1) := by decide +kernel
theorem dJ2_getChar_3b067_0 : decode cJ2_getChar_3b067 0 = .ok (.getstatic 44, 3) := by decide +kernel
theorem dJ2_getChar_3b067_3 : decode cJ2_getChar_3b067 3 = .ok (.ifCond .ne 25, 3) := by decide +kernel
theorem dJ2_getChar_3b067_6 : decode cJ2_getChar_3b067 6 = .ok (.iload_n 1, 1) := by decide +kernel
theorem dJ2_getChar_3b067_7 : decode cJ2_getChar_3b067 7 = .ok (.ifCond .lt 11, 3) := by decide +kernel
theorem dJ2_getChar_3b067_10 : decode cJ2_getChar_3b067 10 = .ok (.iload_n 1, 1) := by decide +kernel
theorem dJ2_getChar_3b067_11 : decode cJ2_getChar_3b067 11 = .ok (.aload_n 0, 1) := by decide +kernel
theorem dJ2_getChar_3b067_12 : decode cJ2_getChar_3b067 12 = .ok (.invokestatic 48, 3) := by decide +kernel
theorem dJ2_getChar_3b067_15 : decode cJ2_getChar_3b067 15 = .ok (.if_icmp .lt 13, 3) := by decide +kernel
theorem dJ2_getChar_3b067_18 : decode cJ2_getChar_3b067 18 = .ok (.new 52, 3) := by decide +kernel
theorem dJ2_getChar_3b067_21 : decode cJ2_getChar_3b067 21 = .ok (.dup, 1) := by decide +kernel
theorem dJ2_getChar_3b067_22 : decode cJ2_getChar_3b067 22 = .ok (.ldc 54, 2) := by decide +kernel
theorem dJ2_getChar_3b067_24 : decode cJ2_getChar_3b067 24 = .ok (.invokespecial 56, 3) := by decide +kernel
theorem dJ2_getChar_3b067_27 : decode cJ2_getChar_3b067 27 = .ok (.athrow, 1) := by decide +kernel
theorem dJ2_getChar_3b067_28 : decode cJ2_getChar_3b067 28 = .ok (.iload_n 1, 1) := by decide +kernel
theorem dJ2_getChar_3b067_29 : decode cJ2_getChar_3b067 29 = .ok (.iconst 1, 1) := by decide +kernel
theorem dJ2_getChar_3b067_30 : decode cJ2_getChar_3b067 30 = .ok (.ishl, 1) := by decide +kernel
theorem dJ2_getChar_3b067_31 : decode cJ2_getChar_3b067 31 = .ok (.istore_n 1, 1) := by decide +kernel
theorem dJ2_getChar_3b067_32 : decode cJ2_getChar_3b067 32 = .ok (.aload_n 0, 1) := by decide +kernel
theorem dJ2_getChar_3b067_33 : decode cJ2_getChar_3b067 33 = .ok (.iload_n 1, 1) := by decide +kernel
theorem dJ2_getChar_3b067_34 : decode cJ2_getChar_3b067 34 = .ok (.iinc 1 1, 3) := by decide +kernel
theorem dJ2_getChar_3b067_37 : decode cJ2_getChar_3b067 37 = .ok (.baload, 1) := by decide +kernel
theorem dJ2_getChar_3b067_38 : decode cJ2_getChar_3b067 38 = .ok (.sipush 255, 3) := by decide +kernel
theorem dJ2_getChar_3b067_41 : decode cJ2_getChar_3b067 41 = .ok (.iand, 1) := by decide +kernel
theorem dJ2_getChar_3b067_42 : decode cJ2_getChar_3b067 42 = .ok (.getstatic 59, 3) := by decide +kernel
theorem dJ2_getChar_3b067_45 : decode cJ2_getChar_3b067 45 = .ok (.ishl, 1) := by decide +kernel
theorem dJ2_getChar_3b067_46 : decode cJ2_getChar_3b067 46 = .ok (.aload_n 0, 1) := by decide +kernel
theorem dJ2_getChar_3b067_47 : decode cJ2_getChar_3b067 47 = .ok (.iload_n 1, 1) := by decide +kernel
theorem dJ2_getChar_3b067_48 : decode cJ2_getChar_3b067 48 = .ok (.baload, 1) := by decide +kernel
theorem dJ2_getChar_3b067_49 : decode cJ2_getChar_3b067 49 = .ok (.sipush 255, 3) := by decide +kernel
theorem dJ2_getChar_3b067_52 : decode cJ2_getChar_3b067 52 = .ok (.iand, 1) := by decide +kernel
theorem dJ2_getChar_3b067_53 : decode cJ2_getChar_3b067 53 = .ok (.getstatic 63, 3) := by decide +kernel
theorem dJ2_getChar_3b067_56 : decode cJ2_getChar_3b067 56 = .ok (.ishl, 1) := by decide +kernel
theorem dJ2_getChar_3b067_57 : decode cJ2_getChar_3b067 57 = .ok (.ior, 1) := by decide +kernel
theorem dJ2_getChar_3b067_58 : decode cJ2_getChar_3b067 58 = .ok (.i2c, 1) := by decide +kernel
theorem dJ2_getChar_3b067_59 : decode cJ2_getChar_3b067 59 = .ok (.ireturn, 1) := by decide +kernel
theorem dJ2_length_9d52b_0 : decode cJ2_length_9d52b 0 = .ok (.aload_n 0, 1) := by decide +kernel
theorem dJ2_length_9d52b_1 : decode cJ2_length_9d52b 1 = .ok (.arraylength, 1) := by decide +kernel
theorem dJ2_length_9d52b_2 : decode cJ2_length_9d52b 2 = .ok (.iconst 1, 1) := by decide +kernel
theorem dJ2_length_9d52b_3 : decode cJ2_length_9d52b 3 = .ok (.ishr, 1) := by decide +kernel
theorem dJ2_length_9d52b_4 : decode cJ2_length_9d52b 4 = .ok (.ireturn, 1) := by decide +kernel
theorem dJ2_charAt_3b067_0 : decode cJ2_charAt_3b067 0 = .ok (.iload_n 1, 1) := by decide +kernel
theorem dJ2_charAt_3b067_1 : decode cJ2_charAt_3b067 1 = .ok (.aload_n 0, 1) := by decide +kernel
theorem dJ2_charAt_3b067_2 : decode cJ2_charAt_3b067 2 = .ok (.invokestatic 67, 3) := by decide +kernel
theorem dJ2_charAt_3b067_5 : decode cJ2_charAt_3b067 5 = .ok (.aload_n 0, 1) := by decide +kernel
theorem dJ2_charAt_3b067_6 : decode cJ2_charAt_3b067 6 = .ok (.iload_n 1, 1) := by decide +kernel
theorem dJ2_charAt_3b067_7 : decode cJ2_charAt_3b067 7 = .ok (.invokestatic 71, 3) := by decide +kernel
theorem dJ2_charAt_3b067_10 : decode cJ2_charAt_3b067 10 = .ok (.ireturn, 1) := by decide +kernel
theorem dJ2_checkIndex_2214a_0 : decode cJ2_checkIndex_2214a 0 = .ok (.iload_n 0, 1) := by decide +kernel
theorem dJ2_checkIndex_2214a_1 : decode cJ2_checkIndex_2214a 1 = .ok (.aload_n 1, 1) := by decide +kernel
theorem dJ2_checkIndex_2214a_2 : decode cJ2_checkIndex_2214a 2 = .ok (.invokestatic 48, 3) := by decide +kernel
theorem dJ2_checkIndex_2214a_5 : decode cJ2_checkIndex_2214a 5 = .ok (.invokestatic 414, 3) := by decide +kernel
theorem dJ2_checkIndex_2214a_8 : decode cJ2_checkIndex_2214a 8 = .ok (.return_, 1) := by decide +kernel
theorem dJ3_checkIndex_8e157_0 : decode cJ3_checkIndex_8e157 0 = .ok (.iload_n 0, 1) := by decide +kernel
theorem dJ3_checkIndex_8e157_1 : decode cJ3_checkIndex_8e157 1 = .ok (.ifCond .lt 8, 3) := by decide +kernel
theorem dJ3_checkIndex_8e157_4 : decode cJ3_checkIndex_8e157 4 = .ok (.iload_n 0, 1) := by decide +kernel
theorem dJ3_checkIndex_8e157_5 : decode cJ3_checkIndex_8e157 5 = .ok (.iload_n 1, 1) := by decide +kernel
theorem dJ3_checkIndex_8e157_6 : decode cJ3_checkIndex_8e157 6 = .ok (.if_icmp .lt 10, 3) := by decide +kernel
theorem dJ3_checkIndex_8e157_9 : decode cJ3_checkIndex_8e157 9 = .ok (.aload_n 2, 1) := by decide +kernel
theorem dJ3_checkIndex_8e157_10 : decode cJ3_checkIndex_8e157 10 = .ok (.iload_n 0, 1) := by decide +kernel
theorem dJ3_checkIndex_8e157_11 : decode cJ3_checkIndex_8e157 11 = .ok (.iload_n 1, 1) := by decide +kernel
theorem dJ3_checkIndex_8e157_12 : decode cJ3_checkIndex_8e157 12 = .ok (.invokestatic 95, 3) := by decide +kernel
theorem dJ3_checkIndex_8e157_15 : decode cJ3_checkIndex_8e157 15 = .ok (.athrow, 1) := by decide +kernel
theorem dJ3_checkIndex_8e157_16 : decode cJ3_checkIndex_8e157 16 = .ok (.iload_n 0, 1) := by decide +kernel
theorem dJ3_checkIndex_8e157_17 : decode cJ3_checkIndex_8e157 17 = .ok (.ireturn, 1) := by decide +kernel
theorem dL_addShelf_0 : decode cL_addShelf 0 = .ok (.aload_n 2, 1) := by decide +kernel
theorem dL_addShelf_1 : decode cL_addShelf 1 = .ok (.iconst 0, 1) := by decide +kernel
theorem dL_addShelf_2 : decode cL_addShelf 2 = .ok (.aload_n 0, 1) := by decide +kernel
theorem dL_addShelf_3 : decode cL_addShelf 3 = .ok (.iload_n 1, 1) := by decide +kernel
theorem dL_addShelf_4 : decode cL_addShelf 4 = .ok (.invokevirtual 7, 3) := by decide +kernel
theorem dL_addShelf_7 : decode cL_addShelf 7 = .ok (.i2l, 1) := by decide +kernel
theorem dL_addShelf_8 : decode cL_addShelf 8 = .ok (.lastore, 1) := by decide +kernel
theorem dL_addShelf_9 : decode cL_addShelf 9 = .ok (.goto 9, 3) := by decide +kernel
theorem dL_addShelf_12 : decode cL_addShelf 12 = .ok (.astore_n 3, 1) := by decide +kernel
theorem dL_addShelf_13 : decode cL_addShelf 13 = .ok (.iconst 1, 1) := by decide +kernel
theorem dL_addShelf_14 : decode cL_addShelf 14 = .ok (.ireturn, 1) := by decide +kernel
theorem dL_addShelf_15 : decode cL_addShelf 15 = .ok (.astore_n 3, 1) := by decide +kernel
theorem dL_addShelf_16 : decode cL_addShelf 16 = .ok (.iconst 2, 1) := by decide +kernel
theorem dL_addShelf_17 : decode cL_addShelf 17 = .ok (.ireturn, 1) := by decide +kernel
theorem dL_addShelf_18 : decode cL_addShelf 18 = .ok (.iconst 0, 1) := by decide +kernel
theorem dL_addShelf_19 : decode cL_addShelf 19 = .ok (.ireturn, 1) := by decide +kernel
theorem dL_link_0 : decode cL_link 0 = .ok (.aload_n 3, 1) := by decide +kernel
theorem dL_link_1 : decode cL_link 1 = .ok (.iconst 0, 1) := by decide +kernel
theorem dL_link_2 : decode cL_link 2 = .ok (.aload_n 0, 1) := by decide +kernel
theorem dL_link_3 : decode cL_link 3 = .ok (.iload_n 1, 1) := by decide +kernel
theorem dL_link_4 : decode cL_link 4 = .ok (.iload_n 2, 1) := by decide +kernel
theorem dL_link_5 : decode cL_link 5 = .ok (.invokevirtual 17, 3) := by decide +kernel
theorem dL_link_8 : decode cL_link 8 = .ok (.i2l, 1) := by decide +kernel
theorem dL_link_9 : decode cL_link 9 = .ok (.lastore, 1) := by decide +kernel
theorem dL_link_10 : decode cL_link 10 = .ok (.goto 11, 3) := by decide +kernel
theorem dL_link_13 : decode cL_link 13 = .ok (.astore 4, 2) := by decide +kernel
theorem dL_link_15 : decode cL_link 15 = .ok (.iconst 1, 1) := by decide +kernel
theorem dL_link_16 : decode cL_link 16 = .ok (.ireturn, 1) := by decide +kernel
theorem dL_link_17 : decode cL_link 17 = .ok (.astore 4, 2) := by decide +kernel
theorem dL_link_19 : decode cL_link 19 = .ok (.iconst 2, 1) := by decide +kernel
theorem dL_link_20 : decode cL_link 20 = .ok (.ireturn, 1) := by decide +kernel
theorem dL_link_21 : decode cL_link 21 = .ok (.iconst 0, 1) := by decide +kernel
theorem dL_link_22 : decode cL_link 22 = .ok (.ireturn, 1) := by decide +kernel
theorem dL_unlink_0 : decode cL_unlink 0 = .ok (.aload_n 3, 1) := by decide +kernel
theorem dL_unlink_1 : decode cL_unlink 1 = .ok (.iconst 0, 1) := by decide +kernel
theorem dL_unlink_2 : decode cL_unlink 2 = .ok (.aload_n 0, 1) := by decide +kernel
theorem dL_unlink_3 : decode cL_unlink 3 = .ok (.iload_n 1, 1) := by decide +kernel
theorem dL_unlink_4 : decode cL_unlink 4 = .ok (.iload_n 2, 1) := by decide +kernel
theorem dL_unlink_5 : decode cL_unlink 5 = .ok (.invokevirtual 23, 3) := by decide +kernel
theorem dL_unlink_8 : decode cL_unlink 8 = .ok (.i2l, 1) := by decide +kernel
theorem dL_unlink_9 : decode cL_unlink 9 = .ok (.lastore, 1) := by decide +kernel
theorem dL_unlink_10 : decode cL_unlink 10 = .ok (.goto 11, 3) := by decide +kernel
theorem dL_unlink_13 : decode cL_unlink 13 = .ok (.astore 4, 2) := by decide +kernel
theorem dL_unlink_15 : decode cL_unlink 15 = .ok (.iconst 1, 1) := by decide +kernel
theorem dL_unlink_16 : decode cL_unlink 16 = .ok (.ireturn, 1) := by decide +kernel
theorem dL_unlink_17 : decode cL_unlink 17 = .ok (.astore 4, 2) := by decide +kernel
theorem dL_unlink_19 : decode cL_unlink 19 = .ok (.iconst 2, 1) := by decide +kernel
theorem dL_unlink_20 : decode cL_unlink 20 = .ok (.ireturn, 1) := by decide +kernel
theorem dL_unlink_21 : decode cL_unlink 21 = .ok (.iconst 0, 1) := by decide +kernel
theorem dL_unlink_22 : decode cL_unlink 22 = .ok (.ireturn, 1) := by decide +kernel
theorem dL_setBlind_0 : decode cL_setBlind 0 = .ok (.aload_n 3, 1) := by decide +kernel
theorem dL_setBlind_1 : decode cL_setBlind 1 = .ok (.iconst 0, 1) := by decide +kernel
theorem dL_setBlind_2 : decode cL_setBlind 2 = .ok (.aload_n 0, 1) := by decide +kernel
theorem dL_setBlind_3 : decode cL_setBlind 3 = .ok (.iload_n 1, 1) := by decide +kernel
theorem dL_setBlind_4 : decode cL_setBlind 4 = .ok (.iload_n 2, 1) := by decide +kernel
theorem dL_setBlind_5 : decode cL_setBlind 5 = .ok (.invokevirtual 26, 3) := by decide +kernel
theorem dL_setBlind_8 : decode cL_setBlind 8 = .ok (.i2l, 1) := by decide +kernel
theorem dL_setBlind_9 : decode cL_setBlind 9 = .ok (.lastore, 1) := by decide +kernel
theorem dL_setBlind_10 : decode cL_setBlind 10 = .ok (.goto 11, 3) := by decide +kernel
theorem dL_setBlind_13 : decode cL_setBlind 13 = .ok (.astore 4, 2) := by decide +kernel
theorem dL_setBlind_15 : decode cL_setBlind 15 = .ok (.iconst 1, 1) := by decide +kernel
theorem dL_setBlind_16 : decode cL_setBlind 16 = .ok (.ireturn, 1) := by decide +kernel
theorem dL_setBlind_17 : decode cL_setBlind 17 = .ok (.astore 4, 2) := by decide +kernel
theorem dL_setBlind_19 : decode cL_setBlind 19 = .ok (.iconst 2, 1) := by decide +kernel
theorem dL_setBlind_20 : decode cL_setBlind 20 = .ok (.ireturn, 1) := by decide +kernel
theorem dL_setBlind_21 : decode cL_setBlind 21 = .ok (.iconst 0, 1) := by decide +kernel
theorem dL_setBlind_22 : decode cL_setBlind 22 = .ok (.ireturn, 1) := by decide +kernel
theorem dL_fill_0 : decode cL_fill 0 = .ok (.aload_n 3, 1) := by decide +kernel
theorem dL_fill_1 : decode cL_fill 1 = .ok (.iconst 0, 1) := by decide +kernel
theorem dL_fill_2 : decode cL_fill 2 = .ok (.aload_n 0, 1) := by decide +kernel
theorem dL_fill_3 : decode cL_fill 3 = .ok (.iload_n 1, 1) := by decide +kernel
theorem dL_fill_4 : decode cL_fill 4 = .ok (.iload_n 2, 1) := by decide +kernel
theorem dL_fill_5 : decode cL_fill 5 = .ok (.invokevirtual 30, 3) := by decide +kernel
theorem dL_fill_8 : decode cL_fill 8 = .ok (.i2l, 1) := by decide +kernel
theorem dL_fill_9 : decode cL_fill 9 = .ok (.lastore, 1) := by decide +kernel
theorem dL_fill_10 : decode cL_fill 10 = .ok (.goto 15, 3) := by decide +kernel
theorem dL_fill_13 : decode cL_fill 13 = .ok (.astore 4, 2) := by decide +kernel
theorem dL_fill_15 : decode cL_fill 15 = .ok (.iconst 1, 1) := by decide +kernel
theorem dL_fill_16 : decode cL_fill 16 = .ok (.ireturn, 1) := by decide +kernel
theorem dL_fill_17 : decode cL_fill 17 = .ok (.astore 4, 2) := by decide +kernel
theorem dL_fill_19 : decode cL_fill 19 = .ok (.iconst 2, 1) := by decide +kernel
theorem dL_fill_20 : decode cL_fill 20 = .ok (.ireturn, 1) := by decide +kernel
theorem dL_fill_21 : decode cL_fill 21 = .ok (.astore 4, 2) := by decide +kernel
theorem dL_fill_23 : decode cL_fill 23 = .ok (.iconst 3, 1) := by decide +kernel
theorem dL_fill_24 : decode cL_fill 24 = .ok (.ireturn, 1) := by decide +kernel
theorem dL_fill_25 : decode cL_fill 25 = .ok (.iconst 0, 1) := by decide +kernel
theorem dL_fill_26 : decode cL_fill 26 = .ok (.ireturn, 1) := by decide +kernel
theorem dL_cheese_0 : decode cL_cheese 0 = .ok (.aload_n 2, 1) := by decide +kernel
theorem dL_cheese_1 : decode cL_cheese 1 = .ok (.iconst 0, 1) := by decide +kernel
theorem dL_cheese_2 : decode cL_cheese 2 = .ok (.aload_n 0, 1) := by decide +kernel
theorem dL_cheese_3 : decode cL_cheese 3 = .ok (.iload_n 1, 1) := by decide +kernel
theorem dL_cheese_4 : decode cL_cheese 4 = .ok (.invokevirtual 33, 3) := by decide +kernel
theorem dL_cheese_7 : decode cL_cheese 7 = .ok (.i2l, 1) := by decide +kernel
theorem dL_cheese_8 : decode cL_cheese 8 = .ok (.lastore, 1) := by decide +kernel
theorem dL_cheese_9 : decode cL_cheese 9 = .ok (.goto 6, 3) := by decide +kernel
theorem dL_cheese_12 : decode cL_cheese 12 = .ok (.astore_n 3, 1) := by decide +kernel
theorem dL_cheese_13 : decode cL_cheese 13 = .ok (.iconst 1, 1) := by decide +kernel
theorem dL_cheese_14 : decode cL_cheese 14 = .ok (.ireturn, 1) := by decide +kernel
theorem dL_cheese_15 : decode cL_cheese 15 = .ok (.iconst 0, 1) := by decide +kernel
theorem dL_cheese_16 : decode cL_cheese 16 = .ok (.ireturn, 1) := by decide +kernel
theorem dL_isBlind_0 : decode cL_isBlind 0 = .ok (.aload_n 2, 1) := by decide +kernel
theorem dL_isBlind_1 : decode cL_isBlind 1 = .ok (.iconst 0, 1) := by decide +kernel
theorem dL_isBlind_2 : decode cL_isBlind 2 = .ok (.aload_n 0, 1) := by decide +kernel
theorem dL_isBlind_3 : decode cL_isBlind 3 = .ok (.iload_n 1, 1) := by decide +kernel
theorem dL_isBlind_4 : decode cL_isBlind 4 = .ok (.invokevirtual 36, 3) := by decide +kernel
theorem dL_isBlind_7 : decode cL_isBlind 7 = .ok (.ifCond .eq 7, 3) := by decide +kernel
theorem dL_isBlind_10 : decode cL_isBlind 10 = .ok (.lconst 1, 1) := by decide +kernel
theorem dL_isBlind_11 : decode cL_isBlind 11 = .ok (.goto 4, 3) := by decide +kernel
theorem dL_isBlind_14 : decode cL_isBlind 14 = .ok (.lconst 0, 1) := by decide +kernel
theorem dL_isBlind_15 : decode cL_isBlind 15 = .ok (.lastore, 1) := by decide +kernel
theorem dL_isBlind_16 : decode cL_isBlind 16 = .ok (.goto 6, 3) := by decide +kernel
theorem dL_isBlind_19 : decode cL_isBlind 19 = .ok (.astore_n 3, 1) := by decide +kernel
theorem dL_isBlind_20 : decode cL_isBlind 20 = .ok (.iconst 1, 1) := by decide +kernel
theorem dL_isBlind_21 : decode cL_isBlind 21 = .ok (.ireturn, 1) := by decide +kernel
theorem dL_isBlind_22 : decode cL_isBlind 22 = .ok (.iconst 0, 1) := by decide +kernel
theorem dL_isBlind_23 : decode cL_isBlind 23 = .ok (.ireturn, 1) := by decide +kernel
theorem dL_neighbourCount_0 : decode cL_neighbourCount 0 = .ok (.aload_n 2, 1) := by decide +kernel
theorem dL_neighbourCount_1 : decode cL_neighbourCount 1 = .ok (.iconst 0, 1) := by decide +kernel
theorem dL_neighbourCount_2 : decode cL_neighbourCount 2 = .ok (.aload_n 0, 1) := by decide +kernel
theorem dL_neighbourCount_3 : decode cL_neighbourCount 3 = .ok (.iload_n 1, 1) := by decide +kernel
theorem dL_neighbourCount_4 : decode cL_neighbourCount 4 = .ok (.invokevirtual 40, 3) := by decide +kernel
theorem dL_neighbourCount_7 : decode cL_neighbourCount 7 = .ok (.i2l, 1) := by decide +kernel
theorem dL_neighbourCount_8 : decode cL_neighbourCount 8 = .ok (.lastore, 1) := by decide +kernel
theorem dL_neighbourCount_9 : decode cL_neighbourCount 9 = .ok (.goto 6, 3) := by decide +kernel
theorem dL_neighbourCount_12 : decode cL_neighbourCount 12 = .ok (.astore_n 3, 1) := by decide +kernel
theorem dL_neighbourCount_13 : decode cL_neighbourCount 13 = .ok (.iconst 1, 1) := by decide +kernel
theorem dL_neighbourCount_14 : decode cL_neighbourCount 14 = .ok (.ireturn, 1) := by decide +kernel
theorem dL_neighbourCount_15 : decode cL_neighbourCount 15 = .ok (.iconst 0, 1) := by decide +kernel
theorem dL_neighbourCount_16 : decode cL_neighbourCount 16 = .ok (.ireturn, 1) := by decide +kernel
theorem dL_distance_0 : decode cL_distance 0 = .ok (.aload_n 3, 1) := by decide +kernel
theorem dL_distance_1 : decode cL_distance 1 = .ok (.iconst 0, 1) := by decide +kernel
theorem dL_distance_2 : decode cL_distance 2 = .ok (.aload_n 0, 1) := by decide +kernel
theorem dL_distance_3 : decode cL_distance 3 = .ok (.iload_n 1, 1) := by decide +kernel
theorem dL_distance_4 : decode cL_distance 4 = .ok (.iload_n 2, 1) := by decide +kernel
theorem dL_distance_5 : decode cL_distance 5 = .ok (.invokevirtual 43, 3) := by decide +kernel
theorem dL_distance_8 : decode cL_distance 8 = .ok (.i2l, 1) := by decide +kernel
theorem dL_distance_9 : decode cL_distance 9 = .ok (.lastore, 1) := by decide +kernel
theorem dL_distance_10 : decode cL_distance 10 = .ok (.goto 11, 3) := by decide +kernel
theorem dL_distance_13 : decode cL_distance 13 = .ok (.astore 4, 2) := by decide +kernel
theorem dL_distance_15 : decode cL_distance 15 = .ok (.iconst 1, 1) := by decide +kernel
theorem dL_distance_16 : decode cL_distance 16 = .ok (.ireturn, 1) := by decide +kernel
theorem dL_distance_17 : decode cL_distance 17 = .ok (.astore 4, 2) := by decide +kernel
theorem dL_distance_19 : decode cL_distance 19 = .ok (.iconst 2, 1) := by decide +kernel
theorem dL_distance_20 : decode cL_distance 20 = .ok (.ireturn, 1) := by decide +kernel
theorem dL_distance_21 : decode cL_distance 21 = .ok (.iconst 0, 1) := by decide +kernel
theorem dL_distance_22 : decode cL_distance 22 = .ok (.ireturn, 1) := by decide +kernel
theorem dL_distanceByTable_0 : decode cL_distanceByTable 0 = .ok (.aload_n 3, 1) := by decide +kernel
theorem dL_distanceByTable_1 : decode cL_distanceByTable 1 = .ok (.iconst 0, 1) := by decide +kernel
theorem dL_distanceByTable_2 : decode cL_distanceByTable 2 = .ok (.aload_n 0, 1) := by decide +kernel
theorem dL_distanceByTable_3 : decode cL_distanceByTable 3 = .ok (.iload_n 1, 1) := by decide +kernel
theorem dL_distanceByTable_4 : decode cL_distanceByTable 4 = .ok (.iload_n 2, 1) := by decide +kernel
theorem dL_distanceByTable_5 : decode cL_distanceByTable 5 = .ok (.invokevirtual 48, 3) := by decide +kernel
theorem dL_distanceByTable_8 : decode cL_distanceByTable 8 = .ok (.i2l, 1) := by decide +kernel
theorem dL_distanceByTable_9 : decode cL_distanceByTable 9 = .ok (.lastore, 1) := by decide +kernel
theorem dL_distanceByTable_10 : decode cL_distanceByTable 10 = .ok (.goto 11, 3) := by decide +kernel
theorem dL_distanceByTable_13 : decode cL_distanceByTable 13 = .ok (.astore 4, 2) := by decide +kernel
theorem dL_distanceByTable_15 : decode cL_distanceByTable 15 = .ok (.iconst 1, 1) := by decide +kernel
theorem dL_distanceByTable_16 : decode cL_distanceByTable 16 = .ok (.ireturn, 1) := by decide +kernel
theorem dL_distanceByTable_17 : decode cL_distanceByTable 17 = .ok (.astore 4, 2) := by decide +kernel
theorem dL_distanceByTable_19 : decode cL_distanceByTable 19 = .ok (.iconst 2, 1) := by decide +kernel
theorem dL_distanceByTable_20 : decode cL_distanceByTable 20 = .ok (.ireturn, 1) := by decide +kernel
theorem dL_distanceByTable_21 : decode cL_distanceByTable 21 = .ok (.iconst 0, 1) := by decide +kernel
theorem dL_distanceByTable_22 : decode cL_distanceByTable 22 = .ok (.ireturn, 1) := by decide +kernel
theorem dL_shelfByCheese_0 : decode cL_shelfByCheese 0 = .ok (.aload_n 2, 1) := by decide +kernel
theorem dL_shelfByCheese_1 : decode cL_shelfByCheese 1 = .ok (.iconst 0, 1) := by decide +kernel
theorem dL_shelfByCheese_2 : decode cL_shelfByCheese 2 = .ok (.aload_n 0, 1) := by decide +kernel
theorem dL_shelfByCheese_3 : decode cL_shelfByCheese 3 = .ok (.iload_n 1, 1) := by decide +kernel
theorem dL_shelfByCheese_4 : decode cL_shelfByCheese 4 = .ok (.invokevirtual 51, 3) := by decide +kernel
theorem dL_shelfByCheese_7 : decode cL_shelfByCheese 7 = .ok (.i2l, 1) := by decide +kernel
theorem dL_shelfByCheese_8 : decode cL_shelfByCheese 8 = .ok (.lastore, 1) := by decide +kernel
theorem dL_shelfByCheese_9 : decode cL_shelfByCheese 9 = .ok (.goto 6, 3) := by decide +kernel
theorem dL_shelfByCheese_12 : decode cL_shelfByCheese 12 = .ok (.astore_n 3, 1) := by decide +kernel
theorem dL_shelfByCheese_13 : decode cL_shelfByCheese 13 = .ok (.iconst 1, 1) := by decide +kernel
theorem dL_shelfByCheese_14 : decode cL_shelfByCheese 14 = .ok (.ireturn, 1) := by decide +kernel
theorem dL_shelfByCheese_15 : decode cL_shelfByCheese 15 = .ok (.iconst 0, 1) := by decide +kernel
theorem dL_shelfByCheese_16 : decode cL_shelfByCheese 16 = .ok (.ireturn, 1) := by decide +kernel
theorem dL_addStop_0 : decode cL_addStop 0 = .ok (.aload_n 2, 1) := by decide +kernel
theorem dL_addStop_1 : decode cL_addStop 1 = .ok (.iconst 0, 1) := by decide +kernel
theorem dL_addStop_2 : decode cL_addStop 2 = .ok (.aload_n 0, 1) := by decide +kernel
theorem dL_addStop_3 : decode cL_addStop 3 = .ok (.iload_n 1, 1) := by decide +kernel
theorem dL_addStop_4 : decode cL_addStop 4 = .ok (.invokevirtual 54, 3) := by decide +kernel
theorem dL_addStop_7 : decode cL_addStop 7 = .ok (.i2l, 1) := by decide +kernel
theorem dL_addStop_8 : decode cL_addStop 8 = .ok (.lastore, 1) := by decide +kernel
theorem dL_addStop_9 : decode cL_addStop 9 = .ok (.goto 9, 3) := by decide +kernel
theorem dL_addStop_12 : decode cL_addStop 12 = .ok (.astore_n 3, 1) := by decide +kernel
theorem dL_addStop_13 : decode cL_addStop 13 = .ok (.iconst 1, 1) := by decide +kernel
theorem dL_addStop_14 : decode cL_addStop 14 = .ok (.ireturn, 1) := by decide +kernel
theorem dL_addStop_15 : decode cL_addStop 15 = .ok (.astore_n 3, 1) := by decide +kernel
theorem dL_addStop_16 : decode cL_addStop 16 = .ok (.iconst 2, 1) := by decide +kernel
theorem dL_addStop_17 : decode cL_addStop 17 = .ok (.ireturn, 1) := by decide +kernel
theorem dL_addStop_18 : decode cL_addStop 18 = .ok (.iconst 0, 1) := by decide +kernel
theorem dL_addStop_19 : decode cL_addStop 19 = .ok (.ireturn, 1) := by decide +kernel
theorem dL_removeStop_0 : decode cL_removeStop 0 = .ok (.aload_n 2, 1) := by decide +kernel
theorem dL_removeStop_1 : decode cL_removeStop 1 = .ok (.iconst 0, 1) := by decide +kernel
theorem dL_removeStop_2 : decode cL_removeStop 2 = .ok (.aload_n 0, 1) := by decide +kernel
theorem dL_removeStop_3 : decode cL_removeStop 3 = .ok (.iload_n 1, 1) := by decide +kernel
theorem dL_removeStop_4 : decode cL_removeStop 4 = .ok (.invokevirtual 57, 3) := by decide +kernel
theorem dL_removeStop_7 : decode cL_removeStop 7 = .ok (.i2l, 1) := by decide +kernel
theorem dL_removeStop_8 : decode cL_removeStop 8 = .ok (.lastore, 1) := by decide +kernel
theorem dL_removeStop_9 : decode cL_removeStop 9 = .ok (.goto 6, 3) := by decide +kernel
theorem dL_removeStop_12 : decode cL_removeStop 12 = .ok (.astore_n 3, 1) := by decide +kernel
theorem dL_removeStop_13 : decode cL_removeStop 13 = .ok (.iconst 1, 1) := by decide +kernel
theorem dL_removeStop_14 : decode cL_removeStop 14 = .ok (.ireturn, 1) := by decide +kernel
theorem dL_removeStop_15 : decode cL_removeStop 15 = .ok (.iconst 0, 1) := by decide +kernel
theorem dL_removeStop_16 : decode cL_removeStop 16 = .ok (.ireturn, 1) := by decide +kernel
theorem dL_shelfOfStop_0 : decode cL_shelfOfStop 0 = .ok (.aload_n 2, 1) := by decide +kernel
theorem dL_shelfOfStop_1 : decode cL_shelfOfStop 1 = .ok (.iconst 0, 1) := by decide +kernel
theorem dL_shelfOfStop_2 : decode cL_shelfOfStop 2 = .ok (.aload_n 0, 1) := by decide +kernel
theorem dL_shelfOfStop_3 : decode cL_shelfOfStop 3 = .ok (.iload_n 1, 1) := by decide +kernel
theorem dL_shelfOfStop_4 : decode cL_shelfOfStop 4 = .ok (.invokevirtual 60, 3) := by decide +kernel
theorem dL_shelfOfStop_7 : decode cL_shelfOfStop 7 = .ok (.i2l, 1) := by decide +kernel
theorem dL_shelfOfStop_8 : decode cL_shelfOfStop 8 = .ok (.lastore, 1) := by decide +kernel
theorem dL_shelfOfStop_9 : decode cL_shelfOfStop 9 = .ok (.goto 6, 3) := by decide +kernel
theorem dL_shelfOfStop_12 : decode cL_shelfOfStop 12 = .ok (.astore_n 3, 1) := by decide +kernel
theorem dL_shelfOfStop_13 : decode cL_shelfOfStop 13 = .ok (.iconst 1, 1) := by decide +kernel
theorem dL_shelfOfStop_14 : decode cL_shelfOfStop 14 = .ok (.ireturn, 1) := by decide +kernel
theorem dL_shelfOfStop_15 : decode cL_shelfOfStop 15 = .ok (.iconst 0, 1) := by decide +kernel
theorem dL_shelfOfStop_16 : decode cL_shelfOfStop 16 = .ok (.ireturn, 1) := by decide +kernel
theorem dL_catShelf_0 : decode cL_catShelf 0 = .ok (.aload_n 1, 1) := by decide +kernel
theorem dL_catShelf_1 : decode cL_catShelf 1 = .ok (.iconst 0, 1) := by decide +kernel
theorem dL_catShelf_2 : decode cL_catShelf 2 = .ok (.aload_n 0, 1) := by decide +kernel
theorem dL_catShelf_3 : decode cL_catShelf 3 = .ok (.invokevirtual 63, 3) := by decide +kernel
theorem dL_catShelf_6 : decode cL_catShelf 6 = .ok (.i2l, 1) := by decide +kernel
theorem dL_catShelf_7 : decode cL_catShelf 7 = .ok (.lastore, 1) := by decide +kernel
theorem dL_catShelf_8 : decode cL_catShelf 8 = .ok (.goto 6, 3) := by decide +kernel
theorem dL_catShelf_11 : decode cL_catShelf 11 = .ok (.astore_n 2, 1) := by decide +kernel
theorem dL_catShelf_12 : decode cL_catShelf 12 = .ok (.iconst 1, 1) := by decide +kernel
theorem dL_catShelf_13 : decode cL_catShelf 13 = .ok (.ireturn, 1) := by decide +kernel
theorem dL_catShelf_14 : decode cL_catShelf 14 = .ok (.iconst 0, 1) := by decide +kernel
theorem dL_catShelf_15 : decode cL_catShelf 15 = .ok (.ireturn, 1) := by decide +kernel
theorem dL_goal_0 : decode cL_goal 0 = .ok (.aload_n 1, 1) := by decide +kernel
theorem dL_goal_1 : decode cL_goal 1 = .ok (.iconst 0, 1) := by decide +kernel
theorem dL_goal_2 : decode cL_goal 2 = .ok (.aload_n 0, 1) := by decide +kernel
theorem dL_goal_3 : decode cL_goal 3 = .ok (.invokevirtual 67, 3) := by decide +kernel
theorem dL_goal_6 : decode cL_goal 6 = .ok (.i2l, 1) := by decide +kernel
theorem dL_goal_7 : decode cL_goal 7 = .ok (.lastore, 1) := by decide +kernel
theorem dL_goal_8 : decode cL_goal 8 = .ok (.goto 6, 3) := by decide +kernel
theorem dL_goal_11 : decode cL_goal 11 = .ok (.astore_n 2, 1) := by decide +kernel
theorem dL_goal_12 : decode cL_goal 12 = .ok (.iconst 1, 1) := by decide +kernel
theorem dL_goal_13 : decode cL_goal 13 = .ok (.ireturn, 1) := by decide +kernel
theorem dL_goal_14 : decode cL_goal 14 = .ok (.iconst 0, 1) := by decide +kernel
theorem dL_goal_15 : decode cL_goal 15 = .ok (.ireturn, 1) := by decide +kernel
theorem dL_nextShelf_0 : decode cL_nextShelf 0 = .ok (.aload_n 1, 1) := by decide +kernel
theorem dL_nextShelf_1 : decode cL_nextShelf 1 = .ok (.iconst 0, 1) := by decide +kernel
theorem dL_nextShelf_2 : decode cL_nextShelf 2 = .ok (.aload_n 0, 1) := by decide +kernel
theorem dL_nextShelf_3 : decode cL_nextShelf 3 = .ok (.invokevirtual 70, 3) := by decide +kernel
theorem dL_nextShelf_6 : decode cL_nextShelf 6 = .ok (.i2l, 1) := by decide +kernel
theorem dL_nextShelf_7 : decode cL_nextShelf 7 = .ok (.lastore, 1) := by decide +kernel
theorem dL_nextShelf_8 : decode cL_nextShelf 8 = .ok (.goto 6, 3) := by decide +kernel
theorem dL_nextShelf_11 : decode cL_nextShelf 11 = .ok (.astore_n 2, 1) := by decide +kernel
theorem dL_nextShelf_12 : decode cL_nextShelf 12 = .ok (.iconst 1, 1) := by decide +kernel
theorem dL_nextShelf_13 : decode cL_nextShelf 13 = .ok (.ireturn, 1) := by decide +kernel
theorem dL_nextShelf_14 : decode cL_nextShelf 14 = .ok (.iconst 0, 1) := by decide +kernel
theorem dL_nextShelf_15 : decode cL_nextShelf 15 = .ok (.ireturn, 1) := by decide +kernel
theorem dL_lapLength_0 : decode cL_lapLength 0 = .ok (.aload_n 1, 1) := by decide +kernel
theorem dL_lapLength_1 : decode cL_lapLength 1 = .ok (.iconst 0, 1) := by decide +kernel
theorem dL_lapLength_2 : decode cL_lapLength 2 = .ok (.aload_n 0, 1) := by decide +kernel
theorem dL_lapLength_3 : decode cL_lapLength 3 = .ok (.invokevirtual 73, 3) := by decide +kernel
theorem dL_lapLength_6 : decode cL_lapLength 6 = .ok (.i2l, 1) := by decide +kernel
theorem dL_lapLength_7 : decode cL_lapLength 7 = .ok (.lastore, 1) := by decide +kernel
theorem dL_lapLength_8 : decode cL_lapLength 8 = .ok (.goto 6, 3) := by decide +kernel
theorem dL_lapLength_11 : decode cL_lapLength 11 = .ok (.astore_n 2, 1) := by decide +kernel
theorem dL_lapLength_12 : decode cL_lapLength 12 = .ok (.iconst 1, 1) := by decide +kernel
theorem dL_lapLength_13 : decode cL_lapLength 13 = .ok (.ireturn, 1) := by decide +kernel
theorem dL_lapLength_14 : decode cL_lapLength 14 = .ok (.iconst 0, 1) := by decide +kernel
theorem dL_lapLength_15 : decode cL_lapLength 15 = .ok (.ireturn, 1) := by decide +kernel
theorem dL_pass_0 : decode cL_pass 0 = .ok (.aload_n 2, 1) := by decide +kernel
theorem dL_pass_1 : decode cL_pass 1 = .ok (.iconst 0, 1) := by decide +kernel
theorem dL_pass_2 : decode cL_pass 2 = .ok (.aload_n 0, 1) := by decide +kernel
theorem dL_pass_3 : decode cL_pass 3 = .ok (.iload_n 1, 1) := by decide +kernel
theorem dL_pass_4 : decode cL_pass 4 = .ok (.invokevirtual 76, 3) := by decide +kernel
theorem dL_pass_7 : decode cL_pass 7 = .ok (.i2l, 1) := by decide +kernel
theorem dL_pass_8 : decode cL_pass 8 = .ok (.lastore, 1) := by decide +kernel
theorem dL_pass_9 : decode cL_pass 9 = .ok (.goto 6, 3) := by decide +kernel
theorem dL_pass_12 : decode cL_pass 12 = .ok (.astore_n 3, 1) := by decide +kernel
theorem dL_pass_13 : decode cL_pass 13 = .ok (.iconst 1, 1) := by decide +kernel
theorem dL_pass_14 : decode cL_pass 14 = .ok (.ireturn, 1) := by decide +kernel
theorem dL_pass_15 : decode cL_pass 15 = .ok (.iconst 0, 1) := by decide +kernel
theorem dL_pass_16 : decode cL_pass 16 = .ok (.ireturn, 1) := by decide +kernel
theorem dL_predictCaught_0 : decode cL_predictCaught 0 = .ok (.aload_n 2, 1) := by decide +kernel
theorem dL_predictCaught_1 : decode cL_predictCaught 1 = .ok (.iconst 0, 1) := by decide +kernel
theorem dL_predictCaught_2 : decode cL_predictCaught 2 = .ok (.aload_n 0, 1) := by decide +kernel
theorem dL_predictCaught_3 : decode cL_predictCaught 3 = .ok (.iload_n 1, 1) := by decide +kernel
theorem dL_predictCaught_4 : decode cL_predictCaught 4 = .ok (.invokevirtual 79, 3) := by decide +kernel
theorem dL_predictCaught_7 : decode cL_predictCaught 7 = .ok (.i2l, 1) := by decide +kernel
theorem dL_predictCaught_8 : decode cL_predictCaught 8 = .ok (.lastore, 1) := by decide +kernel
theorem dL_predictCaught_9 : decode cL_predictCaught 9 = .ok (.goto 6, 3) := by decide +kernel
theorem dL_predictCaught_12 : decode cL_predictCaught 12 = .ok (.astore_n 3, 1) := by decide +kernel
theorem dL_predictCaught_13 : decode cL_predictCaught 13 = .ok (.iconst 1, 1) := by decide +kernel
theorem dL_predictCaught_14 : decode cL_predictCaught 14 = .ok (.ireturn, 1) := by decide +kernel
theorem dL_predictCaught_15 : decode cL_predictCaught 15 = .ok (.iconst 0, 1) := by decide +kernel
theorem dL_predictCaught_16 : decode cL_predictCaught 16 = .ok (.ireturn, 1) := by decide +kernel
theorem dL_setRate_0 : decode cL_setRate 0 = .ok (.aload_n 2, 1) := by decide +kernel
theorem dL_setRate_1 : decode cL_setRate 1 = .ok (.iconst 0, 1) := by decide +kernel
theorem dL_setRate_2 : decode cL_setRate 2 = .ok (.aload_n 0, 1) := by decide +kernel
theorem dL_setRate_3 : decode cL_setRate 3 = .ok (.iload_n 1, 1) := by decide +kernel
theorem dL_setRate_4 : decode cL_setRate 4 = .ok (.invokevirtual 82, 3) := by decide +kernel
theorem dL_setRate_7 : decode cL_setRate 7 = .ok (.i2l, 1) := by decide +kernel
theorem dL_setRate_8 : decode cL_setRate 8 = .ok (.lastore, 1) := by decide +kernel
theorem dL_setRate_9 : decode cL_setRate 9 = .ok (.goto 6, 3) := by decide +kernel
theorem dL_setRate_12 : decode cL_setRate 12 = .ok (.astore_n 3, 1) := by decide +kernel
theorem dL_setRate_13 : decode cL_setRate 13 = .ok (.iconst 1, 1) := by decide +kernel
theorem dL_setRate_14 : decode cL_setRate 14 = .ok (.ireturn, 1) := by decide +kernel
theorem dL_setRate_15 : decode cL_setRate 15 = .ok (.iconst 0, 1) := by decide +kernel
theorem dL_setRate_16 : decode cL_setRate 16 = .ok (.ireturn, 1) := by decide +kernel
theorem dL_setSeed_0 : decode cL_setSeed 0 = .ok (.aload_n 2, 1) := by decide +kernel
theorem dL_setSeed_1 : decode cL_setSeed 1 = .ok (.iconst 0, 1) := by decide +kernel
theorem dL_setSeed_2 : decode cL_setSeed 2 = .ok (.aload_n 0, 1) := by decide +kernel
theorem dL_setSeed_3 : decode cL_setSeed 3 = .ok (.iload_n 1, 1) := by decide +kernel
theorem dL_setSeed_4 : decode cL_setSeed 4 = .ok (.invokevirtual 85, 3) := by decide +kernel
theorem dL_setSeed_7 : decode cL_setSeed 7 = .ok (.i2l, 1) := by decide +kernel
theorem dL_setSeed_8 : decode cL_setSeed 8 = .ok (.lastore, 1) := by decide +kernel
theorem dL_setSeed_9 : decode cL_setSeed 9 = .ok (.goto 6, 3) := by decide +kernel
theorem dL_setSeed_12 : decode cL_setSeed 12 = .ok (.astore_n 3, 1) := by decide +kernel
theorem dL_setSeed_13 : decode cL_setSeed 13 = .ok (.iconst 1, 1) := by decide +kernel
theorem dL_setSeed_14 : decode cL_setSeed 14 = .ok (.ireturn, 1) := by decide +kernel
theorem dL_setSeed_15 : decode cL_setSeed 15 = .ok (.iconst 0, 1) := by decide +kernel
theorem dL_setSeed_16 : decode cL_setSeed 16 = .ok (.ireturn, 1) := by decide +kernel
theorem dL_mouseShelf_0 : decode cL_mouseShelf 0 = .ok (.aload_n 2, 1) := by decide +kernel
theorem dL_mouseShelf_1 : decode cL_mouseShelf 1 = .ok (.iconst 0, 1) := by decide +kernel
theorem dL_mouseShelf_2 : decode cL_mouseShelf 2 = .ok (.aload_n 0, 1) := by decide +kernel
theorem dL_mouseShelf_3 : decode cL_mouseShelf 3 = .ok (.iload_n 1, 1) := by decide +kernel
theorem dL_mouseShelf_4 : decode cL_mouseShelf 4 = .ok (.invokevirtual 88, 3) := by decide +kernel
theorem dL_mouseShelf_7 : decode cL_mouseShelf 7 = .ok (.i2l, 1) := by decide +kernel
theorem dL_mouseShelf_8 : decode cL_mouseShelf 8 = .ok (.lastore, 1) := by decide +kernel
theorem dL_mouseShelf_9 : decode cL_mouseShelf 9 = .ok (.goto 6, 3) := by decide +kernel
theorem dL_mouseShelf_12 : decode cL_mouseShelf 12 = .ok (.astore_n 3, 1) := by decide +kernel
theorem dL_mouseShelf_13 : decode cL_mouseShelf 13 = .ok (.iconst 1, 1) := by decide +kernel
theorem dL_mouseShelf_14 : decode cL_mouseShelf 14 = .ok (.ireturn, 1) := by decide +kernel
theorem dL_mouseShelf_15 : decode cL_mouseShelf 15 = .ok (.iconst 0, 1) := by decide +kernel
theorem dL_mouseShelf_16 : decode cL_mouseShelf 16 = .ok (.ireturn, 1) := by decide +kernel
theorem dL_mouseEaten_0 : decode cL_mouseEaten 0 = .ok (.aload_n 2, 1) := by decide +kernel
theorem dL_mouseEaten_1 : decode cL_mouseEaten 1 = .ok (.iconst 0, 1) := by decide +kernel
theorem dL_mouseEaten_2 : decode cL_mouseEaten 2 = .ok (.aload_n 0, 1) := by decide +kernel
theorem dL_mouseEaten_3 : decode cL_mouseEaten 3 = .ok (.iload_n 1, 1) := by decide +kernel
theorem dL_mouseEaten_4 : decode cL_mouseEaten 4 = .ok (.invokevirtual 91, 3) := by decide +kernel
theorem dL_mouseEaten_7 : decode cL_mouseEaten 7 = .ok (.i2l, 1) := by decide +kernel
theorem dL_mouseEaten_8 : decode cL_mouseEaten 8 = .ok (.lastore, 1) := by decide +kernel
theorem dL_mouseEaten_9 : decode cL_mouseEaten 9 = .ok (.goto 6, 3) := by decide +kernel
theorem dL_mouseEaten_12 : decode cL_mouseEaten 12 = .ok (.astore_n 3, 1) := by decide +kernel
theorem dL_mouseEaten_13 : decode cL_mouseEaten 13 = .ok (.iconst 1, 1) := by decide +kernel
theorem dL_mouseEaten_14 : decode cL_mouseEaten 14 = .ok (.ireturn, 1) := by decide +kernel
theorem dL_mouseEaten_15 : decode cL_mouseEaten 15 = .ok (.iconst 0, 1) := by decide +kernel
theorem dL_mouseEaten_16 : decode cL_mouseEaten 16 = .ok (.ireturn, 1) := by decide +kernel
theorem dL_mouseHunger_0 : decode cL_mouseHunger 0 = .ok (.aload_n 2, 1) := by decide +kernel
theorem dL_mouseHunger_1 : decode cL_mouseHunger 1 = .ok (.iconst 0, 1) := by decide +kernel
theorem dL_mouseHunger_2 : decode cL_mouseHunger 2 = .ok (.aload_n 0, 1) := by decide +kernel
theorem dL_mouseHunger_3 : decode cL_mouseHunger 3 = .ok (.iload_n 1, 1) := by decide +kernel
theorem dL_mouseHunger_4 : decode cL_mouseHunger 4 = .ok (.invokevirtual 94, 3) := by decide +kernel
theorem dL_mouseHunger_7 : decode cL_mouseHunger 7 = .ok (.i2l, 1) := by decide +kernel
theorem dL_mouseHunger_8 : decode cL_mouseHunger 8 = .ok (.lastore, 1) := by decide +kernel
theorem dL_mouseHunger_9 : decode cL_mouseHunger 9 = .ok (.goto 6, 3) := by decide +kernel
theorem dL_mouseHunger_12 : decode cL_mouseHunger 12 = .ok (.astore_n 3, 1) := by decide +kernel
theorem dL_mouseHunger_13 : decode cL_mouseHunger 13 = .ok (.iconst 1, 1) := by decide +kernel
theorem dL_mouseHunger_14 : decode cL_mouseHunger 14 = .ok (.ireturn, 1) := by decide +kernel
theorem dL_mouseHunger_15 : decode cL_mouseHunger 15 = .ok (.iconst 0, 1) := by decide +kernel
theorem dL_mouseHunger_16 : decode cL_mouseHunger 16 = .ok (.ireturn, 1) := by decide +kernel
theorem dL_miceOn_0 : decode cL_miceOn 0 = .ok (.aload_n 2, 1) := by decide +kernel
theorem dL_miceOn_1 : decode cL_miceOn 1 = .ok (.iconst 0, 1) := by decide +kernel
theorem dL_miceOn_2 : decode cL_miceOn 2 = .ok (.aload_n 0, 1) := by decide +kernel
theorem dL_miceOn_3 : decode cL_miceOn 3 = .ok (.iload_n 1, 1) := by decide +kernel
theorem dL_miceOn_4 : decode cL_miceOn 4 = .ok (.invokevirtual 97, 3) := by decide +kernel
theorem dL_miceOn_7 : decode cL_miceOn 7 = .ok (.i2l, 1) := by decide +kernel
theorem dL_miceOn_8 : decode cL_miceOn 8 = .ok (.lastore, 1) := by decide +kernel
theorem dL_miceOn_9 : decode cL_miceOn 9 = .ok (.goto 6, 3) := by decide +kernel
theorem dL_miceOn_12 : decode cL_miceOn 12 = .ok (.astore_n 3, 1) := by decide +kernel
theorem dL_miceOn_13 : decode cL_miceOn 13 = .ok (.iconst 1, 1) := by decide +kernel
theorem dL_miceOn_14 : decode cL_miceOn 14 = .ok (.ireturn, 1) := by decide +kernel
theorem dL_miceOn_15 : decode cL_miceOn 15 = .ok (.iconst 0, 1) := by decide +kernel
theorem dL_miceOn_16 : decode cL_miceOn 16 = .ok (.ireturn, 1) := by decide +kernel
theorem dL_meanCheese_0 : decode cL_meanCheese 0 = .ok (.aload_n 1, 1) := by decide +kernel
theorem dL_meanCheese_1 : decode cL_meanCheese 1 = .ok (.iconst 0, 1) := by decide +kernel
theorem dL_meanCheese_2 : decode cL_meanCheese 2 = .ok (.aload_n 0, 1) := by decide +kernel
theorem dL_meanCheese_3 : decode cL_meanCheese 3 = .ok (.invokevirtual 100, 3) := by decide +kernel
theorem dL_meanCheese_6 : decode cL_meanCheese 6 = .ok (.dastore, 1) := by decide +kernel
theorem dL_meanCheese_7 : decode cL_meanCheese 7 = .ok (.goto 6, 3) := by decide +kernel
theorem dL_meanCheese_10 : decode cL_meanCheese 10 = .ok (.astore_n 2, 1) := by decide +kernel
theorem dL_meanCheese_11 : decode cL_meanCheese 11 = .ok (.iconst 1, 1) := by decide +kernel
theorem dL_meanCheese_12 : decode cL_meanCheese 12 = .ok (.ireturn, 1) := by decide +kernel
theorem dL_meanCheese_13 : decode cL_meanCheese 13 = .ok (.iconst 0, 1) := by decide +kernel
theorem dL_meanCheese_14 : decode cL_meanCheese 14 = .ok (.ireturn, 1) := by decide +kernel
theorem dL_caughtShare_0 : decode cL_caughtShare 0 = .ok (.aload_n 1, 1) := by decide +kernel
theorem dL_caughtShare_1 : decode cL_caughtShare 1 = .ok (.iconst 0, 1) := by decide +kernel
theorem dL_caughtShare_2 : decode cL_caughtShare 2 = .ok (.aload_n 0, 1) := by decide +kernel
theorem dL_caughtShare_3 : decode cL_caughtShare 3 = .ok (.invokevirtual 106, 3) := by decide +kernel
theorem dL_caughtShare_6 : decode cL_caughtShare 6 = .ok (.f2d, 1) := by decide +kernel
theorem dL_caughtShare_7 : decode cL_caughtShare 7 = .ok (.dastore, 1) := by decide +kernel
theorem dL_caughtShare_8 : decode cL_caughtShare 8 = .ok (.goto 6, 3) := by decide +kernel
theorem dL_caughtShare_11 : decode cL_caughtShare 11 = .ok (.astore_n 2, 1) := by decide +kernel
theorem dL_caughtShare_12 : decode cL_caughtShare 12 = .ok (.iconst 1, 1) := by decide +kernel
theorem dL_caughtShare_13 : decode cL_caughtShare 13 = .ok (.ireturn, 1) := by decide +kernel
theorem dL_caughtShare_14 : decode cL_caughtShare 14 = .ok (.iconst 0, 1) := by decide +kernel
theorem dL_caughtShare_15 : decode cL_caughtShare 15 = .ok (.ireturn, 1) := by decide +kernel
theorem dL_feed_0 : decode cL_feed 0 = .ok (.aload_n 2, 1) := by decide +kernel
theorem dL_feed_1 : decode cL_feed 1 = .ok (.iconst 0, 1) := by decide +kernel
theorem dL_feed_2 : decode cL_feed 2 = .ok (.aload_n 0, 1) := by decide +kernel
theorem dL_feed_3 : decode cL_feed 3 = .ok (.iload_n 1, 1) := by decide +kernel
theorem dL_feed_4 : decode cL_feed 4 = .ok (.invokevirtual 110, 3) := by decide +kernel
theorem dL_feed_7 : decode cL_feed 7 = .ok (.i2l, 1) := by decide +kernel
theorem dL_feed_8 : decode cL_feed 8 = .ok (.lastore, 1) := by decide +kernel
theorem dL_feed_9 : decode cL_feed 9 = .ok (.goto 6, 3) := by decide +kernel
theorem dL_feed_12 : decode cL_feed 12 = .ok (.astore_n 3, 1) := by decide +kernel
theorem dL_feed_13 : decode cL_feed 13 = .ok (.iconst 1, 1) := by decide +kernel
theorem dL_feed_14 : decode cL_feed 14 = .ok (.ireturn, 1) := by decide +kernel
theorem dL_feed_15 : decode cL_feed 15 = .ok (.iconst 0, 1) := by decide +kernel
theorem dL_feed_16 : decode cL_feed 16 = .ok (.ireturn, 1) := by decide +kernel
theorem dL_execute_0 : decode cL_execute 0 = .ok (.aload_n 1, 1) := by decide +kernel
theorem dL_execute_1 : decode cL_execute 1 = .ok (.iconst 0, 1) := by decide +kernel
theorem dL_execute_2 : decode cL_execute 2 = .ok (.aload_n 0, 1) := by decide +kernel
theorem dL_execute_3 : decode cL_execute 3 = .ok (.invokevirtual 116, 3) := by decide +kernel
theorem dL_execute_6 : decode cL_execute 6 = .ok (.i2l, 1) := by decide +kernel
theorem dL_execute_7 : decode cL_execute 7 = .ok (.lastore, 1) := by decide +kernel
theorem dL_execute_8 : decode cL_execute 8 = .ok (.goto 9, 3) := by decide +kernel
theorem dL_execute_11 : decode cL_execute 11 = .ok (.astore_n 2, 1) := by decide +kernel
theorem dL_execute_12 : decode cL_execute 12 = .ok (.iconst 1, 1) := by decide +kernel
theorem dL_execute_13 : decode cL_execute 13 = .ok (.ireturn, 1) := by decide +kernel
theorem dL_execute_14 : decode cL_execute 14 = .ok (.astore_n 2, 1) := by decide +kernel
theorem dL_execute_15 : decode cL_execute 15 = .ok (.iconst 2, 1) := by decide +kernel
theorem dL_execute_16 : decode cL_execute 16 = .ok (.ireturn, 1) := by decide +kernel
theorem dL_execute_17 : decode cL_execute 17 = .ok (.iconst 0, 1) := by decide +kernel
theorem dL_execute_18 : decode cL_execute 18 = .ok (.ireturn, 1) := by decide +kernel
theorem dL_faultPosition_0 : decode cL_faultPosition 0 = .ok (.aload_n 1, 1) := by decide +kernel
theorem dL_faultPosition_1 : decode cL_faultPosition 1 = .ok (.iconst 0, 1) := by decide +kernel
theorem dL_faultPosition_2 : decode cL_faultPosition 2 = .ok (.aload_n 0, 1) := by decide +kernel
theorem dL_faultPosition_3 : decode cL_faultPosition 3 = .ok (.invokevirtual 119, 3) := by decide +kernel
theorem dL_faultPosition_6 : decode cL_faultPosition 6 = .ok (.i2l, 1) := by decide +kernel
theorem dL_faultPosition_7 : decode cL_faultPosition 7 = .ok (.lastore, 1) := by decide +kernel
theorem dL_faultPosition_8 : decode cL_faultPosition 8 = .ok (.goto 6, 3) := by decide +kernel
theorem dL_faultPosition_11 : decode cL_faultPosition 11 = .ok (.astore_n 2, 1) := by decide +kernel
theorem dL_faultPosition_12 : decode cL_faultPosition 12 = .ok (.iconst 1, 1) := by decide +kernel
theorem dL_faultPosition_13 : decode cL_faultPosition 13 = .ok (.ireturn, 1) := by decide +kernel
theorem dL_faultPosition_14 : decode cL_faultPosition 14 = .ok (.iconst 0, 1) := by decide +kernel
theorem dL_faultPosition_15 : decode cL_faultPosition 15 = .ok (.ireturn, 1) := by decide +kernel
theorem dL_writeShelf_0 : decode cL_writeShelf 0 = .ok (.aload_n 2, 1) := by decide +kernel
theorem dL_writeShelf_1 : decode cL_writeShelf 1 = .ok (.iconst 0, 1) := by decide +kernel
theorem dL_writeShelf_2 : decode cL_writeShelf 2 = .ok (.aload_n 0, 1) := by decide +kernel
theorem dL_writeShelf_3 : decode cL_writeShelf 3 = .ok (.iload_n 1, 1) := by decide +kernel
theorem dL_writeShelf_4 : decode cL_writeShelf 4 = .ok (.invokevirtual 122, 3) := by decide +kernel
theorem dL_writeShelf_7 : decode cL_writeShelf 7 = .ok (.i2l, 1) := by decide +kernel
theorem dL_writeShelf_8 : decode cL_writeShelf 8 = .ok (.lastore, 1) := by decide +kernel
theorem dL_writeShelf_9 : decode cL_writeShelf 9 = .ok (.goto 6, 3) := by decide +kernel
theorem dL_writeShelf_12 : decode cL_writeShelf 12 = .ok (.astore_n 3, 1) := by decide +kernel
theorem dL_writeShelf_13 : decode cL_writeShelf 13 = .ok (.iconst 1, 1) := by decide +kernel
theorem dL_writeShelf_14 : decode cL_writeShelf 14 = .ok (.ireturn, 1) := by decide +kernel
theorem dL_writeShelf_15 : decode cL_writeShelf 15 = .ok (.iconst 0, 1) := by decide +kernel
theorem dL_writeShelf_16 : decode cL_writeShelf 16 = .ok (.ireturn, 1) := by decide +kernel
theorem dL_lineCharacter_0 : decode cL_lineCharacter 0 = .ok (.aload_n 2, 1) := by decide +kernel
theorem dL_lineCharacter_1 : decode cL_lineCharacter 1 = .ok (.iconst 0, 1) := by decide +kernel
theorem dL_lineCharacter_2 : decode cL_lineCharacter 2 = .ok (.aload_n 0, 1) := by decide +kernel
theorem dL_lineCharacter_3 : decode cL_lineCharacter 3 = .ok (.iload_n 1, 1) := by decide +kernel
theorem dL_lineCharacter_4 : decode cL_lineCharacter 4 = .ok (.invokevirtual 125, 3) := by decide +kernel
theorem dL_lineCharacter_7 : decode cL_lineCharacter 7 = .ok (.i2l, 1) := by decide +kernel
theorem dL_lineCharacter_8 : decode cL_lineCharacter 8 = .ok (.lastore, 1) := by decide +kernel
theorem dL_lineCharacter_9 : decode cL_lineCharacter 9 = .ok (.goto 6, 3) := by decide +kernel
theorem dL_lineCharacter_12 : decode cL_lineCharacter 12 = .ok (.astore_n 3, 1) := by decide +kernel
theorem dL_lineCharacter_13 : decode cL_lineCharacter 13 = .ok (.iconst 1, 1) := by decide +kernel
theorem dL_lineCharacter_14 : decode cL_lineCharacter 14 = .ok (.ireturn, 1) := by decide +kernel
theorem dL_lineCharacter_15 : decode cL_lineCharacter 15 = .ok (.iconst 0, 1) := by decide +kernel
theorem dL_lineCharacter_16 : decode cL_lineCharacter 16 = .ok (.ireturn, 1) := by decide +kernel
theorem dL_denial_0 : decode cL_denial 0 = .ok (.aload_n 1, 1) := by decide +kernel
theorem dL_denial_1 : decode cL_denial 1 = .ok (.iconst 0, 1) := by decide +kernel
theorem dL_denial_2 : decode cL_denial 2 = .ok (.aload_n 0, 1) := by decide +kernel
theorem dL_denial_3 : decode cL_denial 3 = .ok (.invokevirtual 129, 3) := by decide +kernel
theorem dL_denial_6 : decode cL_denial 6 = .ok (.i2l, 1) := by decide +kernel
theorem dL_denial_7 : decode cL_denial 7 = .ok (.lastore, 1) := by decide +kernel
theorem dL_denial_8 : decode cL_denial 8 = .ok (.goto 6, 3) := by decide +kernel
theorem dL_denial_11 : decode cL_denial 11 = .ok (.astore_n 2, 1) := by decide +kernel
theorem dL_denial_12 : decode cL_denial 12 = .ok (.iconst 1, 1) := by decide +kernel
theorem dL_denial_13 : decode cL_denial 13 = .ok (.ireturn, 1) := by decide +kernel
theorem dL_denial_14 : decode cL_denial 14 = .ok (.iconst 0, 1) := by decide +kernel
theorem dL_denial_15 : decode cL_denial 15 = .ok (.ireturn, 1) := by decide +kernel
theorem dL_denialDetail_0 : decode cL_denialDetail 0 = .ok (.aload_n 1, 1) := by decide +kernel
theorem dL_denialDetail_1 : decode cL_denialDetail 1 = .ok (.iconst 0, 1) := by decide +kernel
theorem dL_denialDetail_2 : decode cL_denialDetail 2 = .ok (.aload_n 0, 1) := by decide +kernel
theorem dL_denialDetail_3 : decode cL_denialDetail 3 = .ok (.invokevirtual 132, 3) := by decide +kernel
theorem dL_denialDetail_6 : decode cL_denialDetail 6 = .ok (.i2l, 1) := by decide +kernel
theorem dL_denialDetail_7 : decode cL_denialDetail 7 = .ok (.lastore, 1) := by decide +kernel
theorem dL_denialDetail_8 : decode cL_denialDetail 8 = .ok (.goto 6, 3) := by decide +kernel
theorem dL_denialDetail_11 : decode cL_denialDetail 11 = .ok (.astore_n 2, 1) := by decide +kernel
theorem dL_denialDetail_12 : decode cL_denialDetail 12 = .ok (.iconst 1, 1) := by decide +kernel
theorem dL_denialDetail_13 : decode cL_denialDetail 13 = .ok (.ireturn, 1) := by decide +kernel
theorem dL_denialDetail_14 : decode cL_denialDetail 14 = .ok (.iconst 0, 1) := by decide +kernel
theorem dL_denialDetail_15 : decode cL_denialDetail 15 = .ok (.ireturn, 1) := by decide +kernel
theorem dL_denialCause_0 : decode cL_denialCause 0 = .ok (.aload_n 1, 1) := by decide +kernel
theorem dL_denialCause_1 : decode cL_denialCause 1 = .ok (.iconst 0, 1) := by decide +kernel
theorem dL_denialCause_2 : decode cL_denialCause 2 = .ok (.aload_n 0, 1) := by decide +kernel
theorem dL_denialCause_3 : decode cL_denialCause 3 = .ok (.invokevirtual 135, 3) := by decide +kernel
theorem dL_denialCause_6 : decode cL_denialCause 6 = .ok (.i2l, 1) := by decide +kernel
theorem dL_denialCause_7 : decode cL_denialCause 7 = .ok (.lastore, 1) := by decide +kernel
theorem dL_denialCause_8 : decode cL_denialCause 8 = .ok (.goto 6, 3) := by decide +kernel
theorem dL_denialCause_11 : decode cL_denialCause 11 = .ok (.astore_n 2, 1) := by decide +kernel
theorem dL_denialCause_12 : decode cL_denialCause 12 = .ok (.iconst 1, 1) := by decide +kernel
theorem dL_denialCause_13 : decode cL_denialCause 13 = .ok (.ireturn, 1) := by decide +kernel
theorem dL_denialCause_14 : decode cL_denialCause 14 = .ok (.iconst 0, 1) := by decide +kernel
theorem dL_denialCause_15 : decode cL_denialCause 15 = .ok (.ireturn, 1) := by decide +kernel
theorem dL_undo_0 : decode cL_undo 0 = .ok (.aload_n 1, 1) := by decide +kernel
theorem dL_undo_1 : decode cL_undo 1 = .ok (.iconst 0, 1) := by decide +kernel
theorem dL_undo_2 : decode cL_undo 2 = .ok (.aload_n 0, 1) := by decide +kernel
theorem dL_undo_3 : decode cL_undo 3 = .ok (.invokevirtual 138, 3) := by decide +kernel
theorem dL_undo_6 : decode cL_undo 6 = .ok (.i2l, 1) := by decide +kernel
theorem dL_undo_7 : decode cL_undo 7 = .ok (.lastore, 1) := by decide +kernel
theorem dL_undo_8 : decode cL_undo 8 = .ok (.goto 6, 3) := by decide +kernel
theorem dL_undo_11 : decode cL_undo 11 = .ok (.astore_n 2, 1) := by decide +kernel
theorem dL_undo_12 : decode cL_undo 12 = .ok (.iconst 1, 1) := by decide +kernel
theorem dL_undo_13 : decode cL_undo 13 = .ok (.ireturn, 1) := by decide +kernel
