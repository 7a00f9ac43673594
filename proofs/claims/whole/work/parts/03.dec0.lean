theorem dX0_init_0 : decode cX0_init 0 = .ok (.aload_n 0, 1) := by decide +kernel
theorem dX0_init_1 : decode cX0_init 1 = .ok (.invokespecial 1, 3) := by decide +kernel
theorem dX0_init_4 : decode cX0_init 4 = .ok (.aload_n 0, 1) := by decide +kernel
theorem dX0_init_5 : decode cX0_init 5 = .ok (.sipush 272, 3) := by decide +kernel
theorem dX0_init_8 : decode cX0_init 8 = .ok (.newarray .int, 2) := by decide +kernel
theorem dX0_init_10 : decode cX0_init 10 = .ok (.putfield 9, 3) := by decide +kernel
theorem dX0_init_13 : decode cX0_init 13 = .ok (.aload_n 0, 1) := by decide +kernel
theorem dX0_init_14 : decode cX0_init 14 = .ok (.bipush 32, 2) := by decide +kernel
theorem dX0_init_16 : decode cX0_init 16 = .ok (.newarray .int, 2) := by decide +kernel
theorem dX0_init_18 : decode cX0_init 18 = .ok (.putfield 13, 3) := by decide +kernel
theorem dX0_init_21 : decode cX0_init 21 = .ok (.aload_n 0, 1) := by decide +kernel
theorem dX0_init_22 : decode cX0_init 22 = .ok (.iconst 0, 1) := by decide +kernel
theorem dX0_init_23 : decode cX0_init 23 = .ok (.putfield 16, 3) := by decide +kernel
theorem dX0_init_26 : decode cX0_init 26 = .ok (.aload_n 0, 1) := by decide +kernel
theorem dX0_init_27 : decode cX0_init 27 = .ok (.iconst 0, 1) := by decide +kernel
theorem dX0_init_28 : decode cX0_init 28 = .ok (.putfield 20, 3) := by decide +kernel
theorem dX0_init_31 : decode cX0_init 31 = .ok (.aload_n 0, 1) := by decide +kernel
theorem dX0_init_32 : decode cX0_init 32 = .ok (.iconst 0, 1) := by decide +kernel
theorem dX0_init_33 : decode cX0_init 33 = .ok (.putfield 23, 3) := by decide +kernel
theorem dX0_init_36 : decode cX0_init 36 = .ok (.return_, 1) := by decide +kernel
theorem dX0_clear_0 : decode cX0_clear 0 = .ok (.aload_n 0, 1) := by decide +kernel
theorem dX0_clear_1 : decode cX0_clear 1 = .ok (.iconst 0, 1) := by decide +kernel
theorem dX0_clear_2 : decode cX0_clear 2 = .ok (.putfield 16, 3) := by decide +kernel
theorem dX0_clear_5 : decode cX0_clear 5 = .ok (.aload_n 0, 1) := by decide +kernel
theorem dX0_clear_6 : decode cX0_clear 6 = .ok (.iconst 0, 1) := by decide +kernel
theorem dX0_clear_7 : decode cX0_clear 7 = .ok (.putfield 20, 3) := by decide +kernel
theorem dX0_clear_10 : decode cX0_clear 10 = .ok (.return_, 1) := by decide +kernel
theorem dX0_isTold_0 : decode cX0_isTold 0 = .ok (.aload_n 0, 1) := by decide +kernel
theorem dX0_isTold_1 : decode cX0_isTold 1 = .ok (.getfield 20, 3) := by decide +kernel
theorem dX0_isTold_4 : decode cX0_isTold 4 = .ok (.ifCond .le 7, 3) := by decide +kernel
theorem dX0_isTold_7 : decode cX0_isTold 7 = .ok (.iconst 1, 1) := by decide +kernel
theorem dX0_isTold_8 : decode cX0_isTold 8 = .ok (.goto 4, 3) := by decide +kernel
theorem dX0_isTold_11 : decode cX0_isTold 11 = .ok (.iconst 0, 1) := by decide +kernel
theorem dX0_isTold_12 : decode cX0_isTold 12 = .ok (.ireturn, 1) := by decide +kernel
theorem dX0_addNumber_0 : decode cX0_addNumber 0 = .ok (.aload_n 0, 1) := by decide +kernel
theorem dX0_addNumber_1 : decode cX0_addNumber 1 = .ok (.dup, 1) := by decide +kernel
theorem dX0_addNumber_2 : decode cX0_addNumber 2 = .ok (.getfield 20, 3) := by decide +kernel
theorem dX0_addNumber_5 : decode cX0_addNumber 5 = .ok (.iconst 1, 1) := by decide +kernel
theorem dX0_addNumber_6 : decode cX0_addNumber 6 = .ok (.iadd, 1) := by decide +kernel
theorem dX0_addNumber_7 : decode cX0_addNumber 7 = .ok (.putfield 20, 3) := by decide +kernel
theorem dX0_addNumber_10 : decode cX0_addNumber 10 = .ok (.aload_n 0, 1) := by decide +kernel
theorem dX0_addNumber_11 : decode cX0_addNumber 11 = .ok (.iload_n 1, 1) := by decide +kernel
theorem dX0_addNumber_12 : decode cX0_addNumber 12 = .ok (.invokevirtual 26, 3) := by decide +kernel
theorem dX0_addNumber_15 : decode cX0_addNumber 15 = .ok (.return_, 1) := by decide +kernel
theorem dX0_addWord_0 : decode cX0_addWord 0 = .ok (.aload_n 0, 1) := by decide +kernel
theorem dX0_addWord_1 : decode cX0_addWord 1 = .ok (.dup, 1) := by decide +kernel
theorem dX0_addWord_2 : decode cX0_addWord 2 = .ok (.getfield 20, 3) := by decide +kernel
theorem dX0_addWord_5 : decode cX0_addWord 5 = .ok (.iconst 1, 1) := by decide +kernel
theorem dX0_addWord_6 : decode cX0_addWord 6 = .ok (.iadd, 1) := by decide +kernel
theorem dX0_addWord_7 : decode cX0_addWord 7 = .ok (.putfield 20, 3) := by decide +kernel
theorem dX0_addWord_10 : decode cX0_addWord 10 = .ok (.aload_n 0, 1) := by decide +kernel
theorem dX0_addWord_11 : decode cX0_addWord 11 = .ok (.iload_n 1, 1) := by decide +kernel
theorem dX0_addWord_12 : decode cX0_addWord 12 = .ok (.iconst (-1), 1) := by decide +kernel
theorem dX0_addWord_13 : decode cX0_addWord 13 = .ok (.ixor, 1) := by decide +kernel
theorem dX0_addWord_14 : decode cX0_addWord 14 = .ok (.invokevirtual 26, 3) := by decide +kernel
theorem dX0_addWord_17 : decode cX0_addWord 17 = .ok (.return_, 1) := by decide +kernel
theorem dX0_addStep_0 : decode cX0_addStep 0 = .ok (.aload_n 0, 1) := by decide +kernel
theorem dX0_addStep_1 : decode cX0_addStep 1 = .ok (.iload_n 1, 1) := by decide +kernel
theorem dX0_addStep_2 : decode cX0_addStep 2 = .ok (.iconst (-1), 1) := by decide +kernel
theorem dX0_addStep_3 : decode cX0_addStep 3 = .ok (.ixor, 1) := by decide +kernel
theorem dX0_addStep_4 : decode cX0_addStep 4 = .ok (.invokevirtual 26, 3) := by decide +kernel
theorem dX0_addStep_7 : decode cX0_addStep 7 = .ok (.return_, 1) := by decide +kernel
theorem dX0_add_0 : decode cX0_add 0 = .ok (.aload_n 0, 1) := by decide +kernel
theorem dX0_add_1 : decode cX0_add 1 = .ok (.getfield 16, 3) := by decide +kernel
theorem dX0_add_4 : decode cX0_add 4 = .ok (.sipush 272, 3) := by decide +kernel
theorem dX0_add_7 : decode cX0_add 7 = .ok (.if_icmp .ge 23, 3) := by decide +kernel
theorem dX0_add_10 : decode cX0_add 10 = .ok (.aload_n 0, 1) := by decide +kernel
theorem dX0_add_11 : decode cX0_add 11 = .ok (.getfield 9, 3) := by decide +kernel
theorem dX0_add_14 : decode cX0_add 14 = .ok (.aload_n 0, 1) := by decide +kernel
theorem dX0_add_15 : decode cX0_add 15 = .ok (.getfield 16, 3) := by decide +kernel
theorem dX0_add_18 : decode cX0_add 18 = .ok (.iload_n 1, 1) := by decide +kernel
theorem dX0_add_19 : decode cX0_add 19 = .ok (.iastore, 1) := by decide +kernel
theorem dX0_add_20 : decode cX0_add 20 = .ok (.aload_n 0, 1) := by decide +kernel
theorem dX0_add_21 : decode cX0_add 21 = .ok (.dup, 1) := by decide +kernel
theorem dX0_add_22 : decode cX0_add 22 = .ok (.getfield 16, 3) := by decide +kernel
theorem dX0_add_25 : decode cX0_add 25 = .ok (.iconst 1, 1) := by decide +kernel
theorem dX0_add_26 : decode cX0_add 26 = .ok (.iadd, 1) := by decide +kernel
theorem dX0_add_27 : decode cX0_add 27 = .ok (.putfield 16, 3) := by decide +kernel
theorem dX0_add_30 : decode cX0_add 30 = .ok (.return_, 1) := by decide +kernel
theorem dX0_value_0 : decode cX0_value 0 = .ok (.aload_n 0, 1) := by decide +kernel
theorem dX0_value_1 : decode cX0_value 1 = .ok (.iconst 0, 1) := by decide +kernel
theorem dX0_value_2 : decode cX0_value 2 = .ok (.putfield 23, 3) := by decide +kernel
theorem dX0_value_5 : decode cX0_value 5 = .ok (.iconst 0, 1) := by decide +kernel
theorem dX0_value_6 : decode cX0_value 6 = .ok (.istore 4, 2) := by decide +kernel
theorem dX0_value_8 : decode cX0_value 8 = .ok (.iload 4, 2) := by decide +kernel
theorem dX0_value_10 : decode cX0_value 10 = .ok (.aload_n 0, 1) := by decide +kernel
theorem dX0_value_11 : decode cX0_value 11 = .ok (.getfield 16, 3) := by decide +kernel
theorem dX0_value_14 : decode cX0_value 14 = .ok (.if_icmp .ge 207, 3) := by decide +kernel
theorem dX0_value_17 : decode cX0_value 17 = .ok (.iload 4, 2) := by decide +kernel
theorem dX0_value_19 : decode cX0_value 19 = .ok (.sipush 272, 3) := by decide +kernel
theorem dX0_value_22 : decode cX0_value 22 = .ok (.if_icmp .ge 199, 3) := by decide +kernel
theorem dX0_value_25 : decode cX0_value 25 = .ok (.aload_n 0, 1) := by decide +kernel
theorem dX0_value_26 : decode cX0_value 26 = .ok (.getfield 9, 3) := by decide +kernel
theorem dX0_value_29 : decode cX0_value 29 = .ok (.iload 4, 2) := by decide +kernel
theorem dX0_value_31 : decode cX0_value 31 = .ok (.iaload, 1) := by decide +kernel
theorem dX0_value_32 : decode cX0_value 32 = .ok (.istore 5, 2) := by decide +kernel
theorem dX0_value_34 : decode cX0_value 34 = .ok (.iload 5, 2) := by decide +kernel
theorem dX0_value_36 : decode cX0_value 36 = .ok (.ifCond .lt 12, 3) := by decide +kernel
theorem dX0_value_39 : decode cX0_value 39 = .ok (.aload_n 0, 1) := by decide +kernel
theorem dX0_value_40 : decode cX0_value 40 = .ok (.iload 5, 2) := by decide +kernel
theorem dX0_value_42 : decode cX0_value 42 = .ok (.invokevirtual 30, 3) := by decide +kernel
theorem dX0_value_45 : decode cX0_value 45 = .ok (.goto 170, 3) := by decide +kernel
theorem dX0_value_48 : decode cX0_value 48 = .ok (.iload 5, 2) := by decide +kernel
theorem dX0_value_50 : decode cX0_value 50 = .ok (.iconst (-1), 1) := by decide +kernel
theorem dX0_value_51 : decode cX0_value 51 = .ok (.ixor, 1) := by decide +kernel
theorem dX0_value_52 : decode cX0_value 52 = .ok (.tableswitch 155 2 18 #[92, 155, 155, 155, 155, 84, 155, 155, 155, 155, 155, 155, 155, 133, 100, 111, 122], 84) := by decide +kernel
theorem dX0_value_136 : decode cX0_value 136 = .ok (.aload_n 0, 1) := by decide +kernel
theorem dX0_value_137 : decode cX0_value 137 = .ok (.iload_n 1, 1) := by decide +kernel
theorem dX0_value_138 : decode cX0_value 138 = .ok (.invokevirtual 30, 3) := by decide +kernel
theorem dX0_value_141 : decode cX0_value 141 = .ok (.goto 74, 3) := by decide +kernel
theorem dX0_value_144 : decode cX0_value 144 = .ok (.aload_n 0, 1) := by decide +kernel
theorem dX0_value_145 : decode cX0_value 145 = .ok (.iload_n 2, 1) := by decide +kernel
theorem dX0_value_146 : decode cX0_value 146 = .ok (.invokevirtual 30, 3) := by decide +kernel
theorem dX0_value_149 : decode cX0_value 149 = .ok (.goto 66, 3) := by decide +kernel
theorem dX0_value_152 : decode cX0_value 152 = .ok (.aload_n 0, 1) := by decide +kernel
theorem dX0_value_153 : decode cX0_value 153 = .ok (.aload_n 3, 1) := by decide +kernel
theorem dX0_value_154 : decode cX0_value 154 = .ok (.getfield 33, 3) := by decide +kernel
theorem dX0_value_157 : decode cX0_value 157 = .ok (.invokevirtual 30, 3) := by decide +kernel
theorem dX0_value_160 : decode cX0_value 160 = .ok (.goto 55, 3) := by decide +kernel
theorem dX0_value_163 : decode cX0_value 163 = .ok (.aload_n 0, 1) := by decide +kernel
theorem dX0_value_164 : decode cX0_value 164 = .ok (.aload_n 3, 1) := by decide +kernel
theorem dX0_value_165 : decode cX0_value 165 = .ok (.getfield 38, 3) := by decide +kernel
theorem dX0_value_168 : decode cX0_value 168 = .ok (.invokevirtual 30, 3) := by decide +kernel
theorem dX0_value_171 : decode cX0_value 171 = .ok (.goto 44, 3) := by decide +kernel
theorem dX0_value_174 : decode cX0_value 174 = .ok (.aload_n 0, 1) := by decide +kernel
theorem dX0_value_175 : decode cX0_value 175 = .ok (.aload_n 3, 1) := by decide +kernel
theorem dX0_value_176 : decode cX0_value 176 = .ok (.getfield 41, 3) := by decide +kernel
theorem dX0_value_179 : decode cX0_value 179 = .ok (.invokevirtual 30, 3) := by decide +kernel
theorem dX0_value_182 : decode cX0_value 182 = .ok (.goto 33, 3) := by decide +kernel
theorem dX0_value_185 : decode cX0_value 185 = .ok (.aload_n 0, 1) := by decide +kernel
theorem dX0_value_186 : decode cX0_value 186 = .ok (.aload_n 0, 1) := by decide +kernel
theorem dX0_value_187 : decode cX0_value 187 = .ok (.invokevirtual 44, 3) := by decide +kernel
theorem dX0_value_190 : decode cX0_value 190 = .ok (.ifCond .ne 7, 3) := by decide +kernel
theorem dX0_value_193 : decode cX0_value 193 = .ok (.iconst 1, 1) := by decide +kernel
theorem dX0_value_194 : decode cX0_value 194 = .ok (.goto 4, 3) := by decide +kernel
theorem dX0_value_197 : decode cX0_value 197 = .ok (.iconst 0, 1) := by decide +kernel
theorem dX0_value_198 : decode cX0_value 198 = .ok (.invokestatic 48, 3) := by decide +kernel
theorem dX0_value_201 : decode cX0_value 201 = .ok (.invokevirtual 30, 3) := by decide +kernel
theorem dX0_value_204 : decode cX0_value 204 = .ok (.goto 11, 3) := by decide +kernel
theorem dX0_value_207 : decode cX0_value 207 = .ok (.aload_n 0, 1) := by decide +kernel
theorem dX0_value_208 : decode cX0_value 208 = .ok (.iload 5, 2) := by decide +kernel
theorem dX0_value_210 : decode cX0_value 210 = .ok (.iconst (-1), 1) := by decide +kernel
theorem dX0_value_211 : decode cX0_value 211 = .ok (.ixor, 1) := by decide +kernel
theorem dX0_value_212 : decode cX0_value 212 = .ok (.invokevirtual 52, 3) := by decide +kernel
theorem dX0_value_215 : decode cX0_value 215 = .ok (.iinc 4 1, 3) := by decide +kernel
theorem dX0_value_218 : decode cX0_value 218 = .ok (.goto (-210), 3) := by decide +kernel
theorem dX0_value_221 : decode cX0_value 221 = .ok (.aload_n 0, 1) := by decide +kernel
theorem dX0_value_222 : decode cX0_value 222 = .ok (.invokevirtual 44, 3) := by decide +kernel
theorem dX0_value_225 : decode cX0_value 225 = .ok (.ireturn, 1) := by decide +kernel
theorem dX0_pushJoined_0 : decode cX0_pushJoined 0 = .ok (.aload_n 0, 1) := by decide +kernel
theorem dX0_pushJoined_1 : decode cX0_pushJoined 1 = .ok (.invokevirtual 44, 3) := by decide +kernel
theorem dX0_pushJoined_4 : decode cX0_pushJoined 4 = .ok (.istore_n 2, 1) := by decide +kernel
theorem dX0_pushJoined_5 : decode cX0_pushJoined 5 = .ok (.aload_n 0, 1) := by decide +kernel
theorem dX0_pushJoined_6 : decode cX0_pushJoined 6 = .ok (.invokevirtual 44, 3) := by decide +kernel
theorem dX0_pushJoined_9 : decode cX0_pushJoined 9 = .ok (.istore_n 3, 1) := by decide +kernel
theorem dX0_pushJoined_10 : decode cX0_pushJoined 10 = .ok (.aload_n 0, 1) := by decide +kernel
theorem dX0_pushJoined_11 : decode cX0_pushJoined 11 = .ok (.iload_n 1, 1) := by decide +kernel
theorem dX0_pushJoined_12 : decode cX0_pushJoined 12 = .ok (.iload_n 3, 1) := by decide +kernel
theorem dX0_pushJoined_13 : decode cX0_pushJoined 13 = .ok (.iload_n 2, 1) := by decide +kernel
theorem dX0_pushJoined_14 : decode cX0_pushJoined 14 = .ok (.invokestatic 55, 3) := by decide +kernel
theorem dX0_pushJoined_17 : decode cX0_pushJoined 17 = .ok (.invokevirtual 30, 3) := by decide +kernel
theorem dX0_pushJoined_20 : decode cX0_pushJoined 20 = .ok (.return_, 1) := by decide +kernel
theorem dX0_join_0 : decode cX0_join 0 = .ok (.iload_n 0, 1) := by decide +kernel
theorem dX0_join_1 : decode cX0_join 1 = .ok (.lookupswitch 203 #[(13, 91), (14, 108), (37, 191), (42, 175), (43, 167), (45, 171), (47, 179), (60, 125), (61, 153), (62, 139)], 91) := by decide +kernel
theorem dX0_join_92 : decode cX0_join 92 = .ok (.iload_n 1, 1) := by decide +kernel
theorem dX0_join_93 : decode cX0_join 93 = .ok (.ifCond .ne 7, 3) := by decide +kernel
theorem dX0_join_96 : decode cX0_join 96 = .ok (.iload_n 2, 1) := by decide +kernel
theorem dX0_join_97 : decode cX0_join 97 = .ok (.ifCond .eq 7, 3) := by decide +kernel
theorem dX0_join_100 : decode cX0_join 100 = .ok (.iconst 1, 1) := by decide +kernel
theorem dX0_join_101 : decode cX0_join 101 = .ok (.goto 4, 3) := by decide +kernel
theorem dX0_join_104 : decode cX0_join 104 = .ok (.iconst 0, 1) := by decide +kernel
theorem dX0_join_105 : decode cX0_join 105 = .ok (.invokestatic 48, 3) := by decide +kernel
theorem dX0_join_108 : decode cX0_join 108 = .ok (.ireturn, 1) := by decide +kernel
theorem dX0_join_109 : decode cX0_join 109 = .ok (.iload_n 1, 1) := by decide +kernel
theorem dX0_join_110 : decode cX0_join 110 = .ok (.ifCond .eq 11, 3) := by decide +kernel
theorem dX0_join_113 : decode cX0_join 113 = .ok (.iload_n 2, 1) := by decide +kernel
theorem dX0_join_114 : decode cX0_join 114 = .ok (.ifCond .eq 7, 3) := by decide +kernel
theorem dX0_join_117 : decode cX0_join 117 = .ok (.iconst 1, 1) := by decide +kernel
theorem dX0_join_118 : decode cX0_join 118 = .ok (.goto 4, 3) := by decide +kernel
theorem dX0_join_121 : decode cX0_join 121 = .ok (.iconst 0, 1) := by decide +kernel
theorem dX0_join_122 : decode cX0_join 122 = .ok (.invokestatic 48, 3) := by decide +kernel
theorem dX0_join_125 : decode cX0_join 125 = .ok (.ireturn, 1) := by decide +kernel
theorem dX0_join_126 : decode cX0_join 126 = .ok (.iload_n 1, 1) := by decide +kernel
theorem dX0_join_127 : decode cX0_join 127 = .ok (.iload_n 2, 1) := by decide +kernel
theorem dX0_join_128 : decode cX0_join 128 = .ok (.if_icmp .ge 7, 3) := by decide +kernel
theorem dX0_join_131 : decode cX0_join 131 = .ok (.iconst 1, 1) := by decide +kernel
theorem dX0_join_132 : decode cX0_join 132 = .ok (.goto 4, 3) := by decide +kernel
theorem dX0_join_135 : decode cX0_join 135 = .ok (.iconst 0, 1) := by decide +kernel
theorem dX0_join_136 : decode cX0_join 136 = .ok (.invokestatic 48, 3) := by decide +kernel
theorem dX0_join_139 : decode cX0_join 139 = .ok (.ireturn, 1) := by decide +kernel
theorem dX0_join_140 : decode cX0_join 140 = .ok (.iload_n 1, 1) := by decide +kernel
theorem dX0_join_141 : decode cX0_join 141 = .ok (.iload_n 2, 1) := by decide +kernel
theorem dX0_join_142 : decode cX0_join 142 = .ok (.if_icmp .le 7, 3) := by decide +kernel
theorem dX0_join_145 : decode cX0_join 145 = .ok (.iconst 1, 1) := by decide +kernel
theorem dX0_join_146 : decode cX0_join 146 = .ok (.goto 4, 3) := by decide +kernel
theorem dX0_join_149 : decode cX0_join 149 = .ok (.iconst 0, 1) := by decide +kernel
theorem dX0_join_150 : decode cX0_join 150 = .ok (.invokestatic 48, 3) := by decide +kernel
theorem dX0_join_153 : decode cX0_join 153 = .ok (.ireturn, 1) := by decide +kernel
theorem dX0_join_154 : decode cX0_join 154 = .ok (.iload_n 1, 1) := by decide +kernel
theorem dX0_join_155 : decode cX0_join 155 = .ok (.iload_n 2, 1) := by decide +kernel
theorem dX0_join_156 : decode cX0_join 156 = .ok (.if_icmp .ne 7, 3) := by decide +kernel
theorem dX0_join_159 : decode cX0_join 159 = .ok (.iconst 1, 1) := by decide +kernel
theorem dX0_join_160 : decode cX0_join 160 = .ok (.goto 4, 3) := by decide +kernel
theorem dX0_join_163 : decode cX0_join 163 = .ok (.iconst 0, 1) := by decide +kernel
theorem dX0_join_164 : decode cX0_join 164 = .ok (.invokestatic 48, 3) := by decide +kernel
theorem dX0_join_167 : decode cX0_join 167 = .ok (.ireturn, 1) := by decide +kernel
theorem dX0_join_168 : decode cX0_join 168 = .ok (.iload_n 1, 1) := by decide +kernel
theorem dX0_join_169 : decode cX0_join 169 = .ok (.iload_n 2, 1) := by decide +kernel
theorem dX0_join_170 : decode cX0_join 170 = .ok (.iadd, 1) := by decide +kernel
theorem dX0_join_171 : decode cX0_join 171 = .ok (.ireturn, 1) := by decide +kernel
theorem dX0_join_172 : decode cX0_join 172 = .ok (.iload_n 1, 1) := by decide +kernel
theorem dX0_join_173 : decode cX0_join 173 = .ok (.iload_n 2, 1) := by decide +kernel
theorem dX0_join_174 : decode cX0_join 174 = .ok (.isub, 1) := by decide +kernel
theorem dX0_join_175 : decode cX0_join 175 = .ok (.ireturn, 1) := by decide +kernel
theorem dX0_join_176 : decode cX0_join 176 = .ok (.iload_n 1, 1) := by decide +kernel
theorem dX0_join_177 : decode cX0_join 177 = .ok (.iload_n 2, 1) := by decide +kernel
theorem dX0_join_178 : decode cX0_join 178 = .ok (.imul, 1) := by decide +kernel
theorem dX0_join_179 : decode cX0_join 179 = .ok (.ireturn, 1) := by decide +kernel
theorem dX0_join_180 : decode cX0_join 180 = .ok (.iload_n 2, 1) := by decide +kernel
theorem dX0_join_181 : decode cX0_join 181 = .ok (.ifCond .ne 7, 3) := by decide +kernel
theorem dX0_join_184 : decode cX0_join 184 = .ok (.iconst 0, 1) := by decide +kernel
theorem dX0_join_185 : decode cX0_join 185 = .ok (.goto 6, 3) := by decide +kernel
theorem dX0_join_188 : decode cX0_join 188 = .ok (.iload_n 1, 1) := by decide +kernel
theorem dX0_join_189 : decode cX0_join 189 = .ok (.iload_n 2, 1) := by decide +kernel
theorem dX0_join_190 : decode cX0_join 190 = .ok (.idiv, 1) := by decide +kernel
theorem dX0_join_191 : decode cX0_join 191 = .ok (.ireturn, 1) := by decide +kernel
theorem dX0_join_192 : decode cX0_join 192 = .ok (.iload_n 2, 1) := by decide +kernel
theorem dX0_join_193 : decode cX0_join 193 = .ok (.ifCond .ne 7, 3) := by decide +kernel
theorem dX0_join_196 : decode cX0_join 196 = .ok (.iconst 0, 1) := by decide +kernel
theorem dX0_join_197 : decode cX0_join 197 = .ok (.goto 6, 3) := by decide +kernel
theorem dX0_join_200 : decode cX0_join 200 = .ok (.iload_n 1, 1) := by decide +kernel
theorem dX0_join_201 : decode cX0_join 201 = .ok (.iload_n 2, 1) := by decide +kernel
theorem dX0_join_202 : decode cX0_join 202 = .ok (.irem, 1) := by decide +kernel
theorem dX0_join_203 : decode cX0_join 203 = .ok (.ireturn, 1) := by decide +kernel
theorem dX0_join_204 : decode cX0_join 204 = .ok (.iconst 0, 1) := by decide +kernel
theorem dX0_join_205 : decode cX0_join 205 = .ok (.ireturn, 1) := by decide +kernel
theorem dX0_bit_0 : decode cX0_bit 0 = .ok (.iload_n 0, 1) := by decide +kernel
theorem dX0_bit_1 : decode cX0_bit 1 = .ok (.ifCond .eq 7, 3) := by decide +kernel
theorem dX0_bit_4 : decode cX0_bit 4 = .ok (.iconst 1, 1) := by decide +kernel
theorem dX0_bit_5 : decode cX0_bit 5 = .ok (.goto 4, 3) := by decide +kernel
theorem dX0_bit_8 : decode cX0_bit 8 = .ok (.iconst 0, 1) := by decide +kernel
theorem dX0_bit_9 : decode cX0_bit 9 = .ok (.ireturn, 1) := by decide +kernel
theorem dX0_push_0 : decode cX0_push 0 = .ok (.aload_n 0, 1) := by decide +kernel
theorem dX0_push_1 : decode cX0_push 1 = .ok (.getfield 23, 3) := by decide +kernel
theorem dX0_push_4 : decode cX0_push 4 = .ok (.bipush 32, 2) := by decide +kernel
theorem dX0_push_6 : decode cX0_push 6 = .ok (.if_icmp .ge 23, 3) := by decide +kernel
theorem dX0_push_9 : decode cX0_push 9 = .ok (.aload_n 0, 1) := by decide +kernel
theorem dX0_push_10 : decode cX0_push 10 = .ok (.getfield 13, 3) := by decide +kernel
theorem dX0_push_13 : decode cX0_push 13 = .ok (.aload_n 0, 1) := by decide +kernel
theorem dX0_push_14 : decode cX0_push 14 = .ok (.getfield 23, 3) := by decide +kernel
theorem dX0_push_17 : decode cX0_push 17 = .ok (.iload_n 1, 1) := by decide +kernel
theorem dX0_push_18 : decode cX0_push 18 = .ok (.iastore, 1) := by decide +kernel
theorem dX0_push_19 : decode cX0_push 19 = .ok (.aload_n 0, 1) := by decide +kernel
theorem dX0_push_20 : decode cX0_push 20 = .ok (.dup, 1) := by decide +kernel
theorem dX0_push_21 : decode cX0_push 21 = .ok (.getfield 23, 3) := by decide +kernel
theorem dX0_push_24 : decode cX0_push 24 = .ok (.iconst 1, 1) := by decide +kernel
theorem dX0_push_25 : decode cX0_push 25 = .ok (.iadd, 1) := by decide +kernel
theorem dX0_push_26 : decode cX0_push 26 = .ok (.putfield 23, 3) := by decide +kernel
theorem dX0_push_29 : decode cX0_push 29 = .ok (.return_, 1) := by decide +kernel
theorem dX0_pop_0 : decode cX0_pop 0 = .ok (.aload_n 0, 1) := by decide +kernel
theorem dX0_pop_1 : decode cX0_pop 1 = .ok (.getfield 23, 3) := by decide +kernel
theorem dX0_pop_4 : decode cX0_pop 4 = .ok (.ifCond .gt 5, 3) := by decide +kernel
theorem dX0_pop_7 : decode cX0_pop 7 = .ok (.iconst 0, 1) := by decide +kernel
theorem dX0_pop_8 : decode cX0_pop 8 = .ok (.ireturn, 1) := by decide +kernel
theorem dX0_pop_9 : decode cX0_pop 9 = .ok (.aload_n 0, 1) := by decide +kernel
theorem dX0_pop_10 : decode cX0_pop 10 = .ok (.dup, 1) := by decide +kernel
theorem dX0_pop_11 : decode cX0_pop 11 = .ok (.getfield 23, 3) := by decide +kernel
theorem dX0_pop_14 : decode cX0_pop 14 = .ok (.iconst 1, 1) := by decide +kernel
theorem dX0_pop_15 : decode cX0_pop 15 = .ok (.isub, 1) := by decide +kernel
theorem dX0_pop_16 : decode cX0_pop 16 = .ok (.putfield 23, 3) := by decide +kernel
theorem dX0_pop_19 : decode cX0_pop 19 = .ok (.aload_n 0, 1) := by decide +kernel
theorem dX0_pop_20 : decode cX0_pop 20 = .ok (.getfield 13, 3) := by decide +kernel
theorem dX0_pop_23 : decode cX0_pop 23 = .ok (.aload_n 0, 1) := by decide +kernel
theorem dX0_pop_24 : decode cX0_pop 24 = .ok (.getfield 23, 3) := by decide +kernel
theorem dX0_pop_27 : decode cX0_pop 27 = .ok (.iaload, 1) := by decide +kernel
theorem dX0_pop_28 : decode cX0_pop 28 = .ok (.ireturn, 1) := by decide +kernel
theorem dX1_init_0 : decode cX1_init 0 = .ok (.aload_n 0, 1) := by decide +kernel
theorem dX1_init_1 : decode cX1_init 1 = .ok (.invokespecial 1, 3) := by decide +kernel
theorem dX1_init_4 : decode cX1_init 4 = .ok (.aload_n 0, 1) := by decide +kernel
theorem dX1_init_5 : decode cX1_init 5 = .ok (.bipush 41, 2) := by decide +kernel
theorem dX1_init_7 : decode cX1_init 7 = .ok (.anewarray 9, 3) := by decide +kernel
theorem dX1_init_10 : decode cX1_init 10 = .ok (.putfield 11, 3) := by decide +kernel
theorem dX1_init_13 : decode cX1_init 13 = .ok (.aload_n 0, 1) := by decide +kernel
theorem dX1_init_14 : decode cX1_init 14 = .ok (.iconst 0, 1) := by decide +kernel
theorem dX1_init_15 : decode cX1_init 15 = .ok (.putfield 15, 3) := by decide +kernel
theorem dX1_init_18 : decode cX1_init 18 = .ok (.aload_n 0, 1) := by decide +kernel
theorem dX1_init_19 : decode cX1_init 19 = .ok (.iconst 0, 1) := by decide +kernel
theorem dX1_init_20 : decode cX1_init 20 = .ok (.putfield 19, 3) := by decide +kernel
theorem dX1_init_23 : decode cX1_init 23 = .ok (.iconst 0, 1) := by decide +kernel
theorem dX1_init_24 : decode cX1_init 24 = .ok (.istore_n 1, 1) := by decide +kernel
theorem dX1_init_25 : decode cX1_init 25 = .ok (.iload_n 1, 1) := by decide +kernel
theorem dX1_init_26 : decode cX1_init 26 = .ok (.bipush 40, 2) := by decide +kernel
theorem dX1_init_28 : decode cX1_init 28 = .ok (.if_icmp .gt 22, 3) := by decide +kernel
theorem dX1_init_31 : decode cX1_init 31 = .ok (.aload_n 0, 1) := by decide +kernel
theorem dX1_init_32 : decode cX1_init 32 = .ok (.getfield 11, 3) := by decide +kernel
theorem dX1_init_35 : decode cX1_init 35 = .ok (.iload_n 1, 1) := by decide +kernel
theorem dX1_init_36 : decode cX1_init 36 = .ok (.new 9, 3) := by decide +kernel
theorem dX1_init_39 : decode cX1_init 39 = .ok (.dup, 1) := by decide +kernel
theorem dX1_init_40 : decode cX1_init 40 = .ok (.invokespecial 22, 3) := by decide +kernel
theorem dX1_init_43 : decode cX1_init 43 = .ok (.aastore, 1) := by decide +kernel
theorem dX1_init_44 : decode cX1_init 44 = .ok (.iinc 1 1, 3) := by decide +kernel
theorem dX1_init_47 : decode cX1_init 47 = .ok (.goto (-22), 3) := by decide +kernel
theorem dX1_init_50 : decode cX1_init 50 = .ok (.return_, 1) := by decide +kernel
theorem dX1_forget_0 : decode cX1_forget 0 = .ok (.aload_n 0, 1) := by decide +kernel
theorem dX1_forget_1 : decode cX1_forget 1 = .ok (.iconst 0, 1) := by decide +kernel
theorem dX1_forget_2 : decode cX1_forget 2 = .ok (.putfield 15, 3) := by decide +kernel
theorem dX1_forget_5 : decode cX1_forget 5 = .ok (.aload_n 0, 1) := by decide +kernel
theorem dX1_forget_6 : decode cX1_forget 6 = .ok (.iconst 0, 1) := by decide +kernel
theorem dX1_forget_7 : decode cX1_forget 7 = .ok (.putfield 19, 3) := by decide +kernel
theorem dX1_forget_10 : decode cX1_forget 10 = .ok (.aload_n 0, 1) := by decide +kernel
theorem dX1_forget_11 : decode cX1_forget 11 = .ok (.getfield 11, 3) := by decide +kernel
theorem dX1_forget_14 : decode cX1_forget 14 = .ok (.iconst 0, 1) := by decide +kernel
theorem dX1_forget_15 : decode cX1_forget 15 = .ok (.aaload, 1) := by decide +kernel
theorem dX1_forget_16 : decode cX1_forget 16 = .ok (.aload_n 1, 1) := by decide +kernel
theorem dX1_forget_17 : decode cX1_forget 17 = .ok (.invokevirtual 23, 3) := by decide +kernel
theorem dX1_forget_20 : decode cX1_forget 20 = .ok (.return_, 1) := by decide +kernel
theorem dX1_keep_0 : decode cX1_keep 0 = .ok (.aload_n 0, 1) := by decide +kernel
theorem dX1_keep_1 : decode cX1_keep 1 = .ok (.getfield 15, 3) := by decide +kernel
theorem dX1_keep_4 : decode cX1_keep 4 = .ok (.bipush 40, 2) := by decide +kernel
theorem dX1_keep_6 : decode cX1_keep 6 = .ok (.if_icmp .ge 16, 3) := by decide +kernel
theorem dX1_keep_9 : decode cX1_keep 9 = .ok (.aload_n 0, 1) := by decide +kernel
theorem dX1_keep_10 : decode cX1_keep 10 = .ok (.dup, 1) := by decide +kernel
theorem dX1_keep_11 : decode cX1_keep 11 = .ok (.getfield 15, 3) := by decide +kernel
theorem dX1_keep_14 : decode cX1_keep 14 = .ok (.iconst 1, 1) := by decide +kernel
theorem dX1_keep_15 : decode cX1_keep 15 = .ok (.iadd, 1) := by decide +kernel
theorem dX1_keep_16 : decode cX1_keep 16 = .ok (.putfield 15, 3) := by decide +kernel
theorem dX1_keep_19 : decode cX1_keep 19 = .ok (.goto 7, 3) := by decide +kernel
theorem dX1_keep_22 : decode cX1_keep 22 = .ok (.aload_n 0, 1) := by decide +kernel
theorem dX1_keep_23 : decode cX1_keep 23 = .ok (.invokevirtual 27, 3) := by decide +kernel
theorem dX1_keep_26 : decode cX1_keep 26 = .ok (.aload_n 0, 1) := by decide +kernel
theorem dX1_keep_27 : decode cX1_keep 27 = .ok (.aload_n 0, 1) := by decide +kernel
theorem dX1_keep_28 : decode cX1_keep 28 = .ok (.getfield 15, 3) := by decide +kernel
theorem dX1_keep_31 : decode cX1_keep 31 = .ok (.putfield 19, 3) := by decide +kernel
theorem dX1_keep_34 : decode cX1_keep 34 = .ok (.aload_n 0, 1) := by decide +kernel
theorem dX1_keep_35 : decode cX1_keep 35 = .ok (.getfield 11, 3) := by decide +kernel
theorem dX1_keep_38 : decode cX1_keep 38 = .ok (.aload_n 0, 1) := by decide +kernel
theorem dX1_keep_39 : decode cX1_keep 39 = .ok (.getfield 15, 3) := by decide +kernel
theorem dX1_keep_42 : decode cX1_keep 42 = .ok (.aaload, 1) := by decide +kernel
theorem dX1_keep_43 : decode cX1_keep 43 = .ok (.aload_n 1, 1) := by decide +kernel
theorem dX1_keep_44 : decode cX1_keep 44 = .ok (.invokevirtual 23, 3) := by decide +kernel
theorem dX1_keep_47 : decode cX1_keep 47 = .ok (.return_, 1) := by decide +kernel
theorem dX1_dropOldest_0 : decode cX1_dropOldest 0 = .ok (.aload_n 0, 1) := by decide +kernel
theorem dX1_dropOldest_1 : decode cX1_dropOldest 1 = .ok (.getfield 11, 3) := by decide +kernel
theorem dX1_dropOldest_4 : decode cX1_dropOldest 4 = .ok (.iconst 0, 1) := by decide +kernel
theorem dX1_dropOldest_5 : decode cX1_dropOldest 5 = .ok (.aaload, 1) := by decide +kernel
theorem dX1_dropOldest_6 : decode cX1_dropOldest 6 = .ok (.astore_n 1, 1) := by decide +kernel
theorem dX1_dropOldest_7 : decode cX1_dropOldest 7 = .ok (.iconst 0, 1) := by decide +kernel
theorem dX1_dropOldest_8 : decode cX1_dropOldest 8 = .ok (.istore_n 2, 1) := by decide +kernel
theorem dX1_dropOldest_9 : decode cX1_dropOldest 9 = .ok (.iload_n 2, 1) := by decide +kernel
theorem dX1_dropOldest_10 : decode cX1_dropOldest 10 = .ok (.bipush 40, 2) := by decide +kernel
theorem dX1_dropOldest_12 : decode cX1_dropOldest 12 = .ok (.if_icmp .ge 23, 3) := by decide +kernel
theorem dX1_dropOldest_15 : decode cX1_dropOldest 15 = .ok (.aload_n 0, 1) := by decide +kernel
theorem dX1_dropOldest_16 : decode cX1_dropOldest 16 = .ok (.getfield 11, 3) := by decide +kernel
theorem dX1_dropOldest_19 : decode cX1_dropOldest 19 = .ok (.iload_n 2, 1) := by decide +kernel
theorem dX1_dropOldest_20 : decode cX1_dropOldest 20 = .ok (.aload_n 0, 1) := by decide +kernel
theorem dX1_dropOldest_21 : decode cX1_dropOldest 21 = .ok (.getfield 11, 3) := by decide +kernel
theorem dX1_dropOldest_24 : decode cX1_dropOldest 24 = .ok (.iload_n 2, 1) := by decide +kernel
theorem dX1_dropOldest_25 : decode cX1_dropOldest 25 = .ok (.iconst 1, 1) := by decide +kernel
theorem dX1_dropOldest_26 : decode cX1_dropOldest 26 = .ok (.iadd, 1) := by decide +kernel
theorem dX1_dropOldest_27 : decode cX1_dropOldest 27 = .ok (.aaload, 1) := by decide +kernel
theorem dX1_dropOldest_28 : decode cX1_dropOldest 28 = .ok (.aastore, 1) := by decide +kernel
theorem dX1_dropOldest_29 : decode cX1_dropOldest 29 = .ok (.iinc 2 1, 3) := by decide +kernel
theorem dX1_dropOldest_32 : decode cX1_dropOldest 32 = .ok (.goto (-23), 3) := by decide +kernel
theorem dX1_dropOldest_35 : decode cX1_dropOldest 35 = .ok (.aload_n 0, 1) := by decide +kernel
theorem dX1_dropOldest_36 : decode cX1_dropOldest 36 = .ok (.getfield 11, 3) := by decide +kernel
theorem dX1_dropOldest_39 : decode cX1_dropOldest 39 = .ok (.bipush 40, 2) := by decide +kernel
theorem dX1_dropOldest_41 : decode cX1_dropOldest 41 = .ok (.aload_n 1, 1) := by decide +kernel
theorem dX1_dropOldest_42 : decode cX1_dropOldest 42 = .ok (.aastore, 1) := by decide +kernel
theorem dX1_dropOldest_43 : decode cX1_dropOldest 43 = .ok (.return_, 1) := by decide +kernel
theorem dX1_stepBack_0 : decode cX1_stepBack 0 = .ok (.aload_n 0, 1) := by decide +kernel
theorem dX1_stepBack_1 : decode cX1_stepBack 1 = .ok (.getfield 15, 3) := by decide +kernel
theorem dX1_stepBack_4 : decode cX1_stepBack 4 = .ok (.ifCond .gt 5, 3) := by decide +kernel
theorem dX1_stepBack_7 : decode cX1_stepBack 7 = .ok (.iconst 0, 1) := by decide +kernel
theorem dX1_stepBack_8 : decode cX1_stepBack 8 = .ok (.ireturn, 1) := by decide +kernel
theorem dX1_stepBack_9 : decode cX1_stepBack 9 = .ok (.aload_n 0, 1) := by decide +kernel
theorem dX1_stepBack_10 : decode cX1_stepBack 10 = .ok (.dup, 1) := by decide +kernel
theorem dX1_stepBack_11 : decode cX1_stepBack 11 = .ok (.getfield 15, 3) := by decide +kernel
theorem dX1_stepBack_14 : decode cX1_stepBack 14 = .ok (.iconst 1, 1) := by decide +kernel
theorem dX1_stepBack_15 : decode cX1_stepBack 15 = .ok (.isub, 1) := by decide +kernel
theorem dX1_stepBack_16 : decode cX1_stepBack 16 = .ok (.putfield 15, 3) := by decide +kernel
theorem dX1_stepBack_19 : decode cX1_stepBack 19 = .ok (.aload_n 1, 1) := by decide +kernel
theorem dX1_stepBack_20 : decode cX1_stepBack 20 = .ok (.aload_n 0, 1) := by decide +kernel
theorem dX1_stepBack_21 : decode cX1_stepBack 21 = .ok (.getfield 11, 3) := by decide +kernel
theorem dX1_stepBack_24 : decode cX1_stepBack 24 = .ok (.aload_n 0, 1) := by decide +kernel
theorem dX1_stepBack_25 : decode cX1_stepBack 25 = .ok (.getfield 15, 3) := by decide +kernel
theorem dX1_stepBack_28 : decode cX1_stepBack 28 = .ok (.aaload, 1) := by decide +kernel
theorem dX1_stepBack_29 : decode cX1_stepBack 29 = .ok (.invokevirtual 23, 3) := by decide +kernel
theorem dX1_stepBack_32 : decode cX1_stepBack 32 = .ok (.iconst 1, 1) := by decide +kernel
theorem dX1_stepBack_33 : decode cX1_stepBack 33 = .ok (.ireturn, 1) := by decide +kernel
theorem dX1_stepOn_0 : decode cX1_stepOn 0 = .ok (.aload_n 0, 1) := by decide +kernel
theorem dX1_stepOn_1 : decode cX1_stepOn 1 = .ok (.getfield 15, 3) := by decide +kernel
theorem dX1_stepOn_4 : decode cX1_stepOn 4 = .ok (.aload_n 0, 1) := by decide +kernel
theorem dX1_stepOn_5 : decode cX1_stepOn 5 = .ok (.getfield 19, 3) := by decide +kernel
theorem dX1_stepOn_8 : decode cX1_stepOn 8 = .ok (.if_icmp .ge 12, 3) := by decide +kernel
theorem dX1_stepOn_11 : decode cX1_stepOn 11 = .ok (.aload_n 0, 1) := by decide +kernel
theorem dX1_stepOn_12 : decode cX1_stepOn 12 = .ok (.getfield 15, 3) := by decide +kernel
theorem dX1_stepOn_15 : decode cX1_stepOn 15 = .ok (.bipush 40, 2) := by decide +kernel
theorem dX1_stepOn_17 : decode cX1_stepOn 17 = .ok (.if_icmp .lt 5, 3) := by decide +kernel
theorem dX1_stepOn_20 : decode cX1_stepOn 20 = .ok (.iconst 0, 1) := by decide +kernel
theorem dX1_stepOn_21 : decode cX1_stepOn 21 = .ok (.ireturn, 1) := by decide +kernel
theorem dX1_stepOn_22 : decode cX1_stepOn 22 = .ok (.aload_n 0, 1) := by decide +kernel
theorem dX1_stepOn_23 : decode cX1_stepOn 23 = .ok (.dup, 1) := by decide +kernel
theorem dX1_stepOn_24 : decode cX1_stepOn 24 = .ok (.getfield 15, 3) := by decide +kernel
theorem dX1_stepOn_27 : decode cX1_stepOn 27 = .ok (.iconst 1, 1) := by decide +kernel
theorem dX1_stepOn_28 : decode cX1_stepOn 28 = .ok (.iadd, 1) := by decide +kernel
theorem dX1_stepOn_29 : decode cX1_stepOn 29 = .ok (.putfield 15, 3) := by decide +kernel
theorem dX1_stepOn_32 : decode cX1_stepOn 32 = .ok (.aload_n 1, 1) := by decide +kernel
theorem dX1_stepOn_33 : decode cX1_stepOn 33 = .ok (.aload_n 0, 1) := by decide +kernel
theorem dX1_stepOn_34 : decode cX1_stepOn 34 = .ok (.getfield 11, 3) := by decide +kernel
theorem dX1_stepOn_37 : decode cX1_stepOn 37 = .ok (.aload_n 0, 1) := by decide +kernel
theorem dX1_stepOn_38 : decode cX1_stepOn 38 = .ok (.getfield 15, 3) := by decide +kernel
theorem dX1_stepOn_41 : decode cX1_stepOn 41 = .ok (.aaload, 1) := by decide +kernel
theorem dX1_stepOn_42 : decode cX1_stepOn 42 = .ok (.invokevirtual 23, 3) := by decide +kernel
theorem dX1_stepOn_45 : decode cX1_stepOn 45 = .ok (.iconst 1, 1) := by decide +kernel
theorem dX1_stepOn_46 : decode cX1_stepOn 46 = .ok (.ireturn, 1) := by decide +kernel
theorem dX2_init_0 : decode cX2_init 0 = .ok (.aload_n 0, 1) := by decide +kernel
theorem dX2_init_1 : decode cX2_init 1 = .ok (.invokespecial 3, 3) := by decide +kernel
theorem dX2_init_4 : decode cX2_init 4 = .ok (.aload_n 0, 1) := by decide +kernel
theorem dX2_init_5 : decode cX2_init 5 = .ok (.bipush 30, 2) := by decide +kernel
theorem dX2_init_7 : decode cX2_init 7 = .ok (.newarray .boolean, 2) := by decide +kernel
theorem dX2_init_9 : decode cX2_init 9 = .ok (.putfield 11, 3) := by decide +kernel
theorem dX2_init_12 : decode cX2_init 12 = .ok (.aload_n 0, 1) := by decide +kernel
theorem dX2_init_13 : decode cX2_init 13 = .ok (.bipush 30, 2) := by decide +kernel
theorem dX2_init_15 : decode cX2_init 15 = .ok (.newarray .boolean, 2) := by decide +kernel
theorem dX2_init_17 : decode cX2_init 17 = .ok (.putfield 15, 3) := by decide +kernel
theorem dX2_init_20 : decode cX2_init 20 = .ok (.aload_n 0, 1) := by decide +kernel
theorem dX2_init_21 : decode cX2_init 21 = .ok (.bipush 30, 2) := by decide +kernel
theorem dX2_init_23 : decode cX2_init 23 = .ok (.newarray .int, 2) := by decide +kernel
theorem dX2_init_25 : decode cX2_init 25 = .ok (.putfield 18, 3) := by decide +kernel
theorem dX2_init_28 : decode cX2_init 28 = .ok (.aload_n 0, 1) := by decide +kernel
theorem dX2_init_29 : decode cX2_init 29 = .ok (.bipush 30, 2) := by decide +kernel
theorem dX2_init_31 : decode cX2_init 31 = .ok (.newarray .int, 2) := by decide +kernel
theorem dX2_init_33 : decode cX2_init 33 = .ok (.putfield 22, 3) := by decide +kernel
theorem dX2_init_36 : decode cX2_init 36 = .ok (.aload_n 0, 1) := by decide +kernel
theorem dX2_init_37 : decode cX2_init 37 = .ok (.bipush 30, 2) := by decide +kernel
theorem dX2_init_39 : decode cX2_init 39 = .ok (.newarray .int, 2) := by decide +kernel
theorem dX2_init_41 : decode cX2_init 41 = .ok (.putfield 25, 3) := by decide +kernel
theorem dX2_init_44 : decode cX2_init 44 = .ok (.aload_n 0, 1) := by decide +kernel
theorem dX2_init_45 : decode cX2_init 45 = .ok (.bipush 30, 2) := by decide +kernel
theorem dX2_init_47 : decode cX2_init 47 = .ok (.newarray .int, 2) := by decide +kernel
theorem dX2_init_49 : decode cX2_init 49 = .ok (.putfield 28, 3) := by decide +kernel
theorem dX2_init_52 : decode cX2_init 52 = .ok (.aload_n 0, 1) := by decide +kernel
theorem dX2_init_53 : decode cX2_init 53 = .ok (.bipush 7, 2) := by decide +kernel
theorem dX2_init_55 : decode cX2_init 55 = .ok (.newarray .int, 2) := by decide +kernel
theorem dX2_init_57 : decode cX2_init 57 = .ok (.putfield 31, 3) := by decide +kernel
theorem dX2_init_60 : decode cX2_init 60 = .ok (.aload_n 0, 1) := by decide +kernel
theorem dX2_init_61 : decode cX2_init 61 = .ok (.bipush 7, 2) := by decide +kernel
theorem dX2_init_63 : decode cX2_init 63 = .ok (.newarray .int, 2) := by decide +kernel
theorem dX2_init_65 : decode cX2_init 65 = .ok (.putfield 34, 3) := by decide +kernel
theorem dX2_init_68 : decode cX2_init 68 = .ok (.aload_n 0, 1) := by decide +kernel
theorem dX2_init_69 : decode cX2_init 69 = .ok (.bipush 7, 2) := by decide +kernel
theorem dX2_init_71 : decode cX2_init 71 = .ok (.bipush 8, 2) := by decide +kernel
theorem dX2_init_73 : decode cX2_init 73 = .ok (.multianewarray 37 2, 4) := by decide +kernel
theorem dX2_init_77 : decode cX2_init 77 = .ok (.putfield 39, 3) := by decide +kernel
theorem dX2_init_80 : decode cX2_init 80 = .ok (.aload_n 0, 1) := by decide +kernel
theorem dX2_init_81 : decode cX2_init 81 = .ok (.bipush 7, 2) := by decide +kernel
theorem dX2_init_83 : decode cX2_init 83 = .ok (.bipush 8, 2) := by decide +kernel
theorem dX2_init_85 : decode cX2_init 85 = .ok (.multianewarray 37 2, 4) := by decide +kernel
theorem dX2_init_89 : decode cX2_init 89 = .ok (.putfield 42, 3) := by decide +kernel
theorem dX2_init_92 : decode cX2_init 92 = .ok (.aload_n 0, 1) := by decide +kernel
theorem dX2_init_93 : decode cX2_init 93 = .ok (.iconst 0, 1) := by decide +kernel
theorem dX2_init_94 : decode cX2_init 94 = .ok (.putfield 45, 3) := by decide +kernel
theorem dX2_init_97 : decode cX2_init 97 = .ok (.aload_n 0, 1) := by decide +kernel
theorem dX2_init_98 : decode cX2_init 98 = .ok (.iconst 0, 1) := by decide +kernel
theorem dX2_init_99 : decode cX2_init 99 = .ok (.putfield 49, 3) := by decide +kernel
theorem dX2_init_102 : decode cX2_init 102 = .ok (.return_, 1) := by decide +kernel
theorem dX2_hasNumber_0 : decode cX2_hasNumber 0 = .ok (.iload_n 0, 1) := by decide +kernel
theorem dX2_hasNumber_1 : decode cX2_hasNumber 1 = .ok (.ifCond .lt 13, 3) := by decide +kernel
theorem dX2_hasNumber_4 : decode cX2_hasNumber 4 = .ok (.iload_n 0, 1) := by decide +kernel
theorem dX2_hasNumber_5 : decode cX2_hasNumber 5 = .ok (.bipush 6, 2) := by decide +kernel
theorem dX2_hasNumber_7 : decode cX2_hasNumber 7 = .ok (.if_icmp .gt 7, 3) := by decide +kernel
theorem dX2_hasNumber_10 : decode cX2_hasNumber 10 = .ok (.iconst 1, 1) := by decide +kernel
theorem dX2_hasNumber_11 : decode cX2_hasNumber 11 = .ok (.goto 4, 3) := by decide +kernel
theorem dX2_hasNumber_14 : decode cX2_hasNumber 14 = .ok (.iconst 0, 1) := by decide +kernel
theorem dX2_hasNumber_15 : decode cX2_hasNumber 15 = .ok (.ireturn, 1) := by decide +kernel
theorem dX2_forget_0 : decode cX2_forget 0 = .ok (.aload_n 0, 1) := by decide +kernel
theorem dX2_forget_1 : decode cX2_forget 1 = .ok (.iconst 0, 1) := by decide +kernel
theorem dX2_forget_2 : decode cX2_forget 2 = .ok (.putfield 45, 3) := by decide +kernel
theorem dX2_forget_5 : decode cX2_forget 5 = .ok (.return_, 1) := by decide +kernel
theorem dX2_tell_0 : decode cX2_tell 0 = .ok (.aload_n 0, 1) := by decide +kernel
theorem dX2_tell_1 : decode cX2_tell 1 = .ok (.getfield 45, 3) := by decide +kernel
theorem dX2_tell_4 : decode cX2_tell 4 = .ok (.bipush 30, 2) := by decide +kernel
theorem dX2_tell_6 : decode cX2_tell 6 = .ok (.if_icmp .lt 5, 3) := by decide +kernel
theorem dX2_tell_9 : decode cX2_tell 9 = .ok (.iconst (-1), 1) := by decide +kernel
theorem dX2_tell_10 : decode cX2_tell 10 = .ok (.ireturn, 1) := by decide +kernel
theorem dX2_tell_11 : decode cX2_tell 11 = .ok (.aload_n 0, 1) := by decide +kernel
theorem dX2_tell_12 : decode cX2_tell 12 = .ok (.getfield 45, 3) := by decide +kernel
theorem dX2_tell_15 : decode cX2_tell 15 = .ok (.istore 5, 2) := by decide +kernel
theorem dX2_tell_17 : decode cX2_tell 17 = .ok (.aload_n 0, 1) := by decide +kernel
theorem dX2_tell_18 : decode cX2_tell 18 = .ok (.getfield 11, 3) := by decide +kernel
theorem dX2_tell_21 : decode cX2_tell 21 = .ok (.iload 5, 2) := by decide +kernel
theorem dX2_tell_23 : decode cX2_tell 23 = .ok (.iload_n 1, 1) := by decide +kernel
theorem dX2_tell_24 : decode cX2_tell 24 = .ok (.bastore, 1) := by decide +kernel
theorem dX2_tell_25 : decode cX2_tell 25 = .ok (.aload_n 0, 1) := by decide +kernel
theorem dX2_tell_26 : decode cX2_tell 26 = .ok (.getfield 18, 3) := by decide +kernel
theorem dX2_tell_29 : decode cX2_tell 29 = .ok (.iload 5, 2) := by decide +kernel
theorem dX2_tell_31 : decode cX2_tell 31 = .ok (.iload_n 2, 1) := by decide +kernel
theorem dX2_tell_32 : decode cX2_tell 32 = .ok (.iastore, 1) := by decide +kernel
theorem dX2_tell_33 : decode cX2_tell 33 = .ok (.aload_n 0, 1) := by decide +kernel
theorem dX2_tell_34 : decode cX2_tell 34 = .ok (.getfield 22, 3) := by decide +kernel
theorem dX2_tell_37 : decode cX2_tell 37 = .ok (.iload 5, 2) := by decide +kernel
theorem dX2_tell_39 : decode cX2_tell 39 = .ok (.iload_n 3, 1) := by decide +kernel
theorem dX2_tell_40 : decode cX2_tell 40 = .ok (.iastore, 1) := by decide +kernel
theorem dX2_tell_41 : decode cX2_tell 41 = .ok (.aload_n 0, 1) := by decide +kernel
theorem dX2_tell_42 : decode cX2_tell 42 = .ok (.getfield 15, 3) := by decide +kernel
theorem dX2_tell_45 : decode cX2_tell 45 = .ok (.iload 5, 2) := by decide +kernel
theorem dX2_tell_47 : decode cX2_tell 47 = .ok (.iload 4, 2) := by decide +kernel
theorem dX2_tell_49 : decode cX2_tell 49 = .ok (.bastore, 1) := by decide +kernel
theorem dX2_tell_50 : decode cX2_tell 50 = .ok (.aload_n 0, 1) := by decide +kernel
theorem dX2_tell_51 : decode cX2_tell 51 = .ok (.getfield 25, 3) := by decide +kernel
theorem dX2_tell_54 : decode cX2_tell 54 = .ok (.iload 5, 2) := by decide +kernel
theorem dX2_tell_56 : decode cX2_tell 56 = .ok (.aload_n 0, 1) := by decide +kernel
theorem dX2_tell_57 : decode cX2_tell 57 = .ok (.getfield 49, 3) := by decide +kernel
theorem dX2_tell_60 : decode cX2_tell 60 = .ok (.iastore, 1) := by decide +kernel
theorem dX2_tell_61 : decode cX2_tell 61 = .ok (.aload_n 0, 1) := by decide +kernel
theorem dX2_tell_62 : decode cX2_tell 62 = .ok (.getfield 28, 3) := by decide +kernel
theorem dX2_tell_65 : decode cX2_tell 65 = .ok (.iload 5, 2) := by decide +kernel
theorem dX2_tell_67 : decode cX2_tell 67 = .ok (.iconst (-1), 1) := by decide +kernel
theorem dX2_tell_68 : decode cX2_tell 68 = .ok (.iastore, 1) := by decide +kernel
theorem dX2_tell_69 : decode cX2_tell 69 = .ok (.aload_n 0, 1) := by decide +kernel
theorem dX2_tell_70 : decode cX2_tell 70 = .ok (.dup, 1) := by decide +kernel
theorem dX2_tell_71 : decode cX2_tell 71 = .ok (.getfield 45, 3) := by decide +kernel
theorem dX2_tell_74 : decode cX2_tell 74 = .ok (.iconst 1, 1) := by decide +kernel
theorem dX2_tell_75 : decode cX2_tell 75 = .ok (.iadd, 1) := by decide +kernel
theorem dX2_tell_76 : decode cX2_tell 76 = .ok (.putfield 45, 3) := by decide +kernel
theorem dX2_tell_79 : decode cX2_tell 79 = .ok (.iload 5, 2) := by decide +kernel
theorem dX2_tell_81 : decode cX2_tell 81 = .ok (.ireturn, 1) := by decide +kernel
theorem dX2_takeBack_0 : decode cX2_takeBack 0 = .ok (.iload_n 1, 1) := by decide +kernel
theorem dX2_takeBack_1 : decode cX2_takeBack 1 = .ok (.ifCond .lt 21, 3) := by decide +kernel
theorem dX2_takeBack_4 : decode cX2_takeBack 4 = .ok (.iload_n 1, 1) := by decide +kernel
theorem dX2_takeBack_5 : decode cX2_takeBack 5 = .ok (.aload_n 0, 1) := by decide +kernel
theorem dX2_takeBack_6 : decode cX2_takeBack 6 = .ok (.getfield 45, 3) := by decide +kernel
theorem dX2_takeBack_9 : decode cX2_takeBack 9 = .ok (.if_icmp .ge 13, 3) := by decide +kernel
theorem dX2_takeBack_12 : decode cX2_takeBack 12 = .ok (.aload_n 0, 1) := by decide +kernel
theorem dX2_takeBack_13 : decode cX2_takeBack 13 = .ok (.getfield 28, 3) := by decide +kernel
theorem dX2_takeBack_16 : decode cX2_takeBack 16 = .ok (.iload_n 1, 1) := by decide +kernel
theorem dX2_takeBack_17 : decode cX2_takeBack 17 = .ok (.iaload, 1) := by decide +kernel
theorem dX2_takeBack_18 : decode cX2_takeBack 18 = .ok (.iconst (-1), 1) := by decide +kernel
theorem dX2_takeBack_19 : decode cX2_takeBack 19 = .ok (.if_icmp .eq 5, 3) := by decide +kernel
theorem dX2_takeBack_22 : decode cX2_takeBack 22 = .ok (.iconst 0, 1) := by decide +kernel
theorem dX2_takeBack_23 : decode cX2_takeBack 23 = .ok (.ireturn, 1) := by decide +kernel
theorem dX2_takeBack_24 : decode cX2_takeBack 24 = .ok (.aload_n 0, 1) := by decide +kernel
theorem dX2_takeBack_25 : decode cX2_takeBack 25 = .ok (.getfield 28, 3) := by decide +kernel
theorem dX2_takeBack_28 : decode cX2_takeBack 28 = .ok (.iload_n 1, 1) := by decide +kernel
theorem dX2_takeBack_29 : decode cX2_takeBack 29 = .ok (.aload_n 0, 1) := by decide +kernel
theorem dX2_takeBack_30 : decode cX2_takeBack 30 = .ok (.getfield 49, 3) := by decide +kernel
theorem dX2_takeBack_33 : decode cX2_takeBack 33 = .ok (.iastore, 1) := by decide +kernel
theorem dX2_takeBack_34 : decode cX2_takeBack 34 = .ok (.iconst 1, 1) := by decide +kernel
theorem dX2_takeBack_35 : decode cX2_takeBack 35 = .ok (.ireturn, 1) := by decide +kernel
theorem dX2_goOn_0 : decode cX2_goOn 0 = .ok (.iload_n 1, 1) := by decide +kernel
theorem dX2_goOn_1 : decode cX2_goOn 1 = .ok (.ifCond .lt 21, 3) := by decide +kernel
theorem dX2_goOn_4 : decode cX2_goOn 4 = .ok (.iload_n 1, 1) := by decide +kernel
theorem dX2_goOn_5 : decode cX2_goOn 5 = .ok (.sipush 1000, 3) := by decide +kernel
theorem dX2_goOn_8 : decode cX2_goOn 8 = .ok (.if_icmp .gt 14, 3) := by decide +kernel
theorem dX2_goOn_11 : decode cX2_goOn 11 = .ok (.iload_n 1, 1) := by decide +kernel
theorem dX2_goOn_12 : decode cX2_goOn 12 = .ok (.ldc 52, 2) := by decide +kernel
theorem dX2_goOn_14 : decode cX2_goOn 14 = .ok (.aload_n 0, 1) := by decide +kernel
theorem dX2_goOn_15 : decode cX2_goOn 15 = .ok (.getfield 49, 3) := by decide +kernel
theorem dX2_goOn_18 : decode cX2_goOn 18 = .ok (.isub, 1) := by decide +kernel
theorem dX2_goOn_19 : decode cX2_goOn 19 = .ok (.if_icmp .le 5, 3) := by decide +kernel
theorem dX2_goOn_22 : decode cX2_goOn 22 = .ok (.iconst 0, 1) := by decide +kernel
theorem dX2_goOn_23 : decode cX2_goOn 23 = .ok (.ireturn, 1) := by decide +kernel
theorem dX2_goOn_24 : decode cX2_goOn 24 = .ok (.aload_n 0, 1) := by decide +kernel
theorem dX2_goOn_25 : decode cX2_goOn 25 = .ok (.dup, 1) := by decide +kernel
theorem dX2_goOn_26 : decode cX2_goOn 26 = .ok (.getfield 49, 3) := by decide +kernel
theorem dX2_goOn_29 : decode cX2_goOn 29 = .ok (.iload_n 1, 1) := by decide +kernel
theorem dX2_goOn_30 : decode cX2_goOn 30 = .ok (.iadd, 1) := by decide +kernel
theorem dX2_goOn_31 : decode cX2_goOn 31 = .ok (.putfield 49, 3) := by decide +kernel
theorem dX2_goOn_34 : decode cX2_goOn 34 = .ok (.iconst 1, 1) := by decide +kernel
theorem dX2_goOn_35 : decode cX2_goOn 35 = .ok (.ireturn, 1) := by decide +kernel
theorem dX2_counts_0 : decode cX2_counts 0 = .ok (.aload_n 0, 1) := by decide +kernel
theorem dX2_counts_1 : decode cX2_counts 1 = .ok (.getfield 25, 3) := by decide +kernel
theorem dX2_counts_4 : decode cX2_counts 4 = .ok (.iload_n 1, 1) := by decide +kernel
theorem dX2_counts_5 : decode cX2_counts 5 = .ok (.iaload, 1) := by decide +kernel
theorem dX2_counts_6 : decode cX2_counts 6 = .ok (.iload_n 2, 1) := by decide +kernel
theorem dX2_counts_7 : decode cX2_counts 7 = .ok (.if_icmp .gt 27, 3) := by decide +kernel
theorem dX2_counts_10 : decode cX2_counts 10 = .ok (.aload_n 0, 1) := by decide +kernel
theorem dX2_counts_11 : decode cX2_counts 11 = .ok (.getfield 28, 3) := by decide +kernel
theorem dX2_counts_14 : decode cX2_counts 14 = .ok (.iload_n 1, 1) := by decide +kernel
theorem dX2_counts_15 : decode cX2_counts 15 = .ok (.iaload, 1) := by decide +kernel
theorem dX2_counts_16 : decode cX2_counts 16 = .ok (.iconst (-1), 1) := by decide +kernel
theorem dX2_counts_17 : decode cX2_counts 17 = .ok (.if_icmp .eq 13, 3) := by decide +kernel
theorem dX2_counts_20 : decode cX2_counts 20 = .ok (.aload_n 0, 1) := by decide +kernel
theorem dX2_counts_21 : decode cX2_counts 21 = .ok (.getfield 28, 3) := by decide +kernel
theorem dX2_counts_24 : decode cX2_counts 24 = .ok (.iload_n 1, 1) := by decide +kernel
theorem dX2_counts_25 : decode cX2_counts 25 = .ok (.iaload, 1) := by decide +kernel
theorem dX2_counts_26 : decode cX2_counts 26 = .ok (.iload_n 2, 1) := by decide +kernel
theorem dX2_counts_27 : decode cX2_counts 27 = .ok (.if_icmp .le 7, 3) := by decide +kernel
theorem dX2_counts_30 : decode cX2_counts 30 = .ok (.iconst 1, 1) := by decide +kernel
theorem dX2_counts_31 : decode cX2_counts 31 = .ok (.goto 4, 3) := by decide +kernel
theorem dX2_counts_34 : decode cX2_counts 34 = .ok (.iconst 0, 1) := by decide +kernel
theorem dX2_counts_35 : decode cX2_counts 35 = .ok (.ireturn, 1) := by decide +kernel
theorem dX2_count_0 : decode cX2_count 0 = .ok (.aload_n 0, 1) := by decide +kernel
theorem dX2_count_1 : decode cX2_count 1 = .ok (.iload_n 2, 1) := by decide +kernel
theorem dX2_count_2 : decode cX2_count 2 = .ok (.invokevirtual 53, 3) := by decide +kernel
theorem dX2_count_5 : decode cX2_count 5 = .ok (.aload_n 0, 1) := by decide +kernel
theorem dX2_count_6 : decode cX2_count 6 = .ok (.aload_n 1, 1) := by decide +kernel
theorem dX2_count_7 : decode cX2_count 7 = .ok (.invokevirtual 57, 3) := by decide +kernel
theorem dX2_count_10 : decode cX2_count 10 = .ok (.aload_n 0, 1) := by decide +kernel
theorem dX2_count_11 : decode cX2_count 11 = .ok (.aload_n 1, 1) := by decide +kernel
theorem dX2_count_12 : decode cX2_count 12 = .ok (.invokevirtual 61, 3) := by decide +kernel
theorem dX2_count_15 : decode cX2_count 15 = .ok (.iconst 0, 1) := by decide +kernel
theorem dX2_count_16 : decode cX2_count 16 = .ok (.istore_n 3, 1) := by decide +kernel
theorem dX2_count_17 : decode cX2_count 17 = .ok (.iconst 0, 1) := by decide +kernel
theorem dX2_count_18 : decode cX2_count 18 = .ok (.istore 4, 2) := by decide +kernel
theorem dX2_count_20 : decode cX2_count 20 = .ok (.iload 4, 2) := by decide +kernel
theorem dX2_count_22 : decode cX2_count 22 = .ok (.bipush 8, 2) := by decide +kernel
theorem dX2_count_24 : decode cX2_count 24 = .ok (.if_icmp .ge 22, 3) := by decide +kernel
theorem dX2_count_27 : decode cX2_count 27 = .ok (.iload_n 3, 1) := by decide +kernel
theorem dX2_count_28 : decode cX2_count 28 = .ok (.aload_n 0, 1) := by decide +kernel
theorem dX2_count_29 : decode cX2_count 29 = .ok (.getfield 39, 3) := by decide +kernel
theorem dX2_count_32 : decode cX2_count 32 = .ok (.bipush 6, 2) := by decide +kernel
theorem dX2_count_34 : decode cX2_count 34 = .ok (.aaload, 1) := by decide +kernel
theorem dX2_count_35 : decode cX2_count 35 = .ok (.iload 4, 2) := by decide +kernel
theorem dX2_count_37 : decode cX2_count 37 = .ok (.iaload, 1) := by decide +kernel
theorem dX2_count_38 : decode cX2_count 38 = .ok (.iadd, 1) := by decide +kernel
theorem dX2_count_39 : decode cX2_count 39 = .ok (.istore_n 3, 1) := by decide +kernel
theorem dX2_count_40 : decode cX2_count 40 = .ok (.iinc 4 1, 3) := by decide +kernel
theorem dX2_count_43 : decode cX2_count 43 = .ok (.goto (-23), 3) := by decide +kernel
theorem dX2_count_46 : decode cX2_count 46 = .ok (.iload_n 3, 1) := by decide +kernel
theorem dX2_count_47 : decode cX2_count 47 = .ok (.ireturn, 1) := by decide +kernel
theorem dX2_gather_0 : decode cX2_gather 0 = .ok (.aload_n 0, 1) := by decide +kernel
theorem dX2_gather_1 : decode cX2_gather 1 = .ok (.getfield 31, 3) := by decide +kernel
theorem dX2_gather_4 : decode cX2_gather 4 = .ok (.iconst (-1), 1) := by decide +kernel
theorem dX2_gather_5 : decode cX2_gather 5 = .ok (.invokestatic 64, 3) := by decide +kernel
theorem dX2_gather_8 : decode cX2_gather 8 = .ok (.aload_n 0, 1) := by decide +kernel
theorem dX2_gather_9 : decode cX2_gather 9 = .ok (.getfield 34, 3) := by decide +kernel
theorem dX2_gather_12 : decode cX2_gather 12 = .ok (.iconst (-1), 1) := by decide +kernel
theorem dX2_gather_13 : decode cX2_gather 13 = .ok (.invokestatic 64, 3) := by decide +kernel
theorem dX2_gather_16 : decode cX2_gather 16 = .ok (.iconst 0, 1) := by decide +kernel
theorem dX2_gather_17 : decode cX2_gather 17 = .ok (.istore_n 2, 1) := by decide +kernel
theorem dX2_gather_18 : decode cX2_gather 18 = .ok (.iload_n 2, 1) := by decide +kernel
theorem dX2_gather_19 : decode cX2_gather 19 = .ok (.aload_n 0, 1) := by decide +kernel
theorem dX2_gather_20 : decode cX2_gather 20 = .ok (.getfield 45, 3) := by decide +kernel
theorem dX2_gather_23 : decode cX2_gather 23 = .ok (.if_icmp .ge 112, 3) := by decide +kernel
theorem dX2_gather_26 : decode cX2_gather 26 = .ok (.iload_n 2, 1) := by decide +kernel
theorem dX2_gather_27 : decode cX2_gather 27 = .ok (.bipush 30, 2) := by decide +kernel
theorem dX2_gather_29 : decode cX2_gather 29 = .ok (.if_icmp .ge 106, 3) := by decide +kernel
theorem dX2_gather_32 : decode cX2_gather 32 = .ok (.aload_n 0, 1) := by decide +kernel
theorem dX2_gather_33 : decode cX2_gather 33 = .ok (.getfield 15, 3) := by decide +kernel
theorem dX2_gather_36 : decode cX2_gather 36 = .ok (.iload_n 2, 1) := by decide +kernel
theorem dX2_gather_37 : decode cX2_gather 37 = .ok (.baload, 1) := by decide +kernel
theorem dX2_gather_38 : decode cX2_gather 38 = .ok (.ifCond .eq 14, 3) := by decide +kernel
theorem dX2_gather_41 : decode cX2_gather 41 = .ok (.iconst 1, 1) := by decide +kernel
theorem dX2_gather_42 : decode cX2_gather 42 = .ok (.aload_n 0, 1) := by decide +kernel
theorem dX2_gather_43 : decode cX2_gather 43 = .ok (.getfield 22, 3) := by decide +kernel
theorem dX2_gather_46 : decode cX2_gather 46 = .ok (.iload_n 2, 1) := by decide +kernel
theorem dX2_gather_47 : decode cX2_gather 47 = .ok (.iaload, 1) := by decide +kernel
theorem dX2_gather_48 : decode cX2_gather 48 = .ok (.ishl, 1) := by decide +kernel
theorem dX2_gather_49 : decode cX2_gather 49 = .ok (.goto 13, 3) := by decide +kernel
theorem dX2_gather_52 : decode cX2_gather 52 = .ok (.iconst 1, 1) := by decide +kernel
theorem dX2_gather_53 : decode cX2_gather 53 = .ok (.aload_n 0, 1) := by decide +kernel
theorem dX2_gather_54 : decode cX2_gather 54 = .ok (.getfield 22, 3) := by decide +kernel
theorem dX2_gather_57 : decode cX2_gather 57 = .ok (.iload_n 2, 1) := by decide +kernel
theorem dX2_gather_58 : decode cX2_gather 58 = .ok (.iaload, 1) := by decide +kernel
theorem dX2_gather_59 : decode cX2_gather 59 = .ok (.ishl, 1) := by decide +kernel
theorem dX2_gather_60 : decode cX2_gather 60 = .ok (.iconst (-1), 1) := by decide +kernel
theorem dX2_gather_61 : decode cX2_gather 61 = .ok (.ixor, 1) := by decide +kernel
theorem dX2_gather_62 : decode cX2_gather 62 = .ok (.istore_n 3, 1) := by decide +kernel
theorem dX2_gather_63 : decode cX2_gather 63 = .ok (.aload_n 0, 1) := by decide +kernel
theorem dX2_gather_64 : decode cX2_gather 64 = .ok (.iload_n 2, 1) := by decide +kernel
theorem dX2_gather_65 : decode cX2_gather 65 = .ok (.iload_n 1, 1) := by decide +kernel
theorem dX2_gather_66 : decode cX2_gather 66 = .ok (.invokevirtual 70, 3) := by decide +kernel
theorem dX2_gather_69 : decode cX2_gather 69 = .ok (.ifCond .eq 60, 3) := by decide +kernel
theorem dX2_gather_72 : decode cX2_gather 72 = .ok (.aload_n 0, 1) := by decide +kernel
theorem dX2_gather_73 : decode cX2_gather 73 = .ok (.getfield 18, 3) := by decide +kernel
theorem dX2_gather_76 : decode cX2_gather 76 = .ok (.iload_n 2, 1) := by decide +kernel
theorem dX2_gather_77 : decode cX2_gather 77 = .ok (.iaload, 1) := by decide +kernel
theorem dX2_gather_78 : decode cX2_gather 78 = .ok (.invokestatic 74, 3) := by decide +kernel
theorem dX2_gather_81 : decode cX2_gather 81 = .ok (.ifCond .ne 6, 3) := by decide +kernel
theorem dX2_gather_84 : decode cX2_gather 84 = .ok (.goto 45, 3) := by decide +kernel
theorem dX2_gather_87 : decode cX2_gather 87 = .ok (.aload_n 0, 1) := by decide +kernel
theorem dX2_gather_88 : decode cX2_gather 88 = .ok (.getfield 11, 3) := by decide +kernel
theorem dX2_gather_91 : decode cX2_gather 91 = .ok (.iload_n 2, 1) := by decide +kernel
theorem dX2_gather_92 : decode cX2_gather 92 = .ok (.baload, 1) := by decide +kernel
theorem dX2_gather_93 : decode cX2_gather 93 = .ok (.ifCond .eq 21, 3) := by decide +kernel
theorem dX2_gather_96 : decode cX2_gather 96 = .ok (.aload_n 0, 1) := by decide +kernel
theorem dX2_gather_97 : decode cX2_gather 97 = .ok (.getfield 34, 3) := by decide +kernel
theorem dX2_gather_100 : decode cX2_gather 100 = .ok (.aload_n 0, 1) := by decide +kernel
theorem dX2_gather_101 : decode cX2_gather 101 = .ok (.getfield 18, 3) := by decide +kernel
theorem dX2_gather_104 : decode cX2_gather 104 = .ok (.iload_n 2, 1) := by decide +kernel
theorem dX2_gather_105 : decode cX2_gather 105 = .ok (.iaload, 1) := by decide +kernel
theorem dX2_gather_106 : decode cX2_gather 106 = .ok (.dup2, 1) := by decide +kernel
theorem dX2_gather_107 : decode cX2_gather 107 = .ok (.iaload, 1) := by decide +kernel
theorem dX2_gather_108 : decode cX2_gather 108 = .ok (.iload_n 3, 1) := by decide +kernel
theorem dX2_gather_109 : decode cX2_gather 109 = .ok (.iand, 1) := by decide +kernel
theorem dX2_gather_110 : decode cX2_gather 110 = .ok (.iastore, 1) := by decide +kernel
theorem dX2_gather_111 : decode cX2_gather 111 = .ok (.goto 18, 3) := by decide +kernel
theorem dX2_gather_114 : decode cX2_gather 114 = .ok (.aload_n 0, 1) := by decide +kernel
theorem dX2_gather_115 : decode cX2_gather 115 = .ok (.getfield 31, 3) := by decide +kernel
theorem dX2_gather_118 : decode cX2_gather 118 = .ok (.aload_n 0, 1) := by decide +kernel
theorem dX2_gather_119 : decode cX2_gather 119 = .ok (.getfield 18, 3) := by decide +kernel
theorem dX2_gather_122 : decode cX2_gather 122 = .ok (.iload_n 2, 1) := by decide +kernel
theorem dX2_gather_123 : decode cX2_gather 123 = .ok (.iaload, 1) := by decide +kernel
theorem dX2_gather_124 : decode cX2_gather 124 = .ok (.dup2, 1) := by decide +kernel
theorem dX2_gather_125 : decode cX2_gather 125 = .ok (.iaload, 1) := by decide +kernel
theorem dX2_gather_126 : decode cX2_gather 126 = .ok (.iload_n 3, 1) := by decide +kernel
theorem dX2_gather_127 : decode cX2_gather 127 = .ok (.iand, 1) := by decide +kernel
theorem dX2_gather_128 : decode cX2_gather 128 = .ok (.iastore, 1) := by decide +kernel
theorem dX2_gather_129 : decode cX2_gather 129 = .ok (.iinc 2 1, 3) := by decide +kernel
theorem dX2_gather_132 : decode cX2_gather 132 = .ok (.goto (-114), 3) := by decide +kernel
theorem dX2_gather_135 : decode cX2_gather 135 = .ok (.return_, 1) := by decide +kernel
theorem dX2_walkOn_0 : decode cX2_walkOn 0 = .ok (.aload_n 0, 1) := by decide +kernel
theorem dX2_walkOn_1 : decode cX2_walkOn 1 = .ok (.getfield 39, 3) := by decide +kernel
theorem dX2_walkOn_4 : decode cX2_walkOn 4 = .ok (.iconst 0, 1) := by decide +kernel
theorem dX2_walkOn_5 : decode cX2_walkOn 5 = .ok (.aaload, 1) := by decide +kernel
theorem dX2_walkOn_6 : decode cX2_walkOn 6 = .ok (.iconst 0, 1) := by decide +kernel
theorem dX2_walkOn_7 : decode cX2_walkOn 7 = .ok (.invokestatic 64, 3) := by decide +kernel
theorem dX2_walkOn_10 : decode cX2_walkOn 10 = .ok (.aload_n 1, 1) := by decide +kernel
theorem dX2_walkOn_11 : decode cX2_walkOn 11 = .ok (.getfield 78, 3) := by decide +kernel
theorem dX2_walkOn_14 : decode cX2_walkOn 14 = .ok (.ifCond .le 19, 3) := by decide +kernel
theorem dX2_walkOn_17 : decode cX2_walkOn 17 = .ok (.aload_n 0, 1) := by decide +kernel
theorem dX2_walkOn_18 : decode cX2_walkOn 18 = .ok (.getfield 39, 3) := by decide +kernel
theorem dX2_walkOn_21 : decode cX2_walkOn 21 = .ok (.iconst 0, 1) := by decide +kernel
theorem dX2_walkOn_22 : decode cX2_walkOn 22 = .ok (.aaload, 1) := by decide +kernel
theorem dX2_walkOn_23 : decode cX2_walkOn 23 = .ok (.iconst 0, 1) := by decide +kernel
theorem dX2_walkOn_24 : decode cX2_walkOn 24 = .ok (.aload_n 0, 1) := by decide +kernel
theorem dX2_walkOn_25 : decode cX2_walkOn 25 = .ok (.getfield 31, 3) := by decide +kernel
theorem dX2_walkOn_28 : decode cX2_walkOn 28 = .ok (.iconst 0, 1) := by decide +kernel
theorem dX2_walkOn_29 : decode cX2_walkOn 29 = .ok (.iaload, 1) := by decide +kernel
theorem dX2_walkOn_30 : decode cX2_walkOn 30 = .ok (.iconst 1, 1) := by decide +kernel
theorem dX2_walkOn_31 : decode cX2_walkOn 31 = .ok (.iand, 1) := by decide +kernel
theorem dX2_walkOn_32 : decode cX2_walkOn 32 = .ok (.iastore, 1) := by decide +kernel
theorem dX2_walkOn_33 : decode cX2_walkOn 33 = .ok (.iconst 1, 1) := by decide +kernel
theorem dX2_walkOn_34 : decode cX2_walkOn 34 = .ok (.istore_n 2, 1) := by decide +kernel
theorem dX2_walkOn_35 : decode cX2_walkOn 35 = .ok (.iload_n 2, 1) := by decide +kernel
theorem dX2_walkOn_36 : decode cX2_walkOn 36 = .ok (.bipush 6, 2) := by decide +kernel
theorem dX2_walkOn_38 : decode cX2_walkOn 38 = .ok (.if_icmp .gt 76, 3) := by decide +kernel
theorem dX2_walkOn_41 : decode cX2_walkOn 41 = .ok (.aload_n 0, 1) := by decide +kernel
theorem dX2_walkOn_42 : decode cX2_walkOn 42 = .ok (.getfield 39, 3) := by decide +kernel
theorem dX2_walkOn_45 : decode cX2_walkOn 45 = .ok (.iload_n 2, 1) := by decide +kernel
theorem dX2_walkOn_46 : decode cX2_walkOn 46 = .ok (.aaload, 1) := by decide +kernel
theorem dX2_walkOn_47 : decode cX2_walkOn 47 = .ok (.iconst 0, 1) := by decide +kernel
theorem dX2_walkOn_48 : decode cX2_walkOn 48 = .ok (.invokestatic 64, 3) := by decide +kernel
theorem dX2_walkOn_51 : decode cX2_walkOn 51 = .ok (.iconst 0, 1) := by decide +kernel
theorem dX2_walkOn_52 : decode cX2_walkOn 52 = .ok (.istore_n 3, 1) := by decide +kernel
theorem dX2_walkOn_53 : decode cX2_walkOn 53 = .ok (.iload_n 3, 1) := by decide +kernel
theorem dX2_walkOn_54 : decode cX2_walkOn 54 = .ok (.aload_n 1, 1) := by decide +kernel
theorem dX2_walkOn_55 : decode cX2_walkOn 55 = .ok (.getfield 83, 3) := by decide +kernel
theorem dX2_walkOn_58 : decode cX2_walkOn 58 = .ok (.if_icmp .ge 50, 3) := by decide +kernel
theorem dX2_walkOn_61 : decode cX2_walkOn 61 = .ok (.aload_n 0, 1) := by decide +kernel
theorem dX2_walkOn_62 : decode cX2_walkOn 62 = .ok (.aload_n 1, 1) := by decide +kernel
theorem dX2_walkOn_63 : decode cX2_walkOn 63 = .ok (.iload_n 2, 1) := by decide +kernel
theorem dX2_walkOn_64 : decode cX2_walkOn 64 = .ok (.iload_n 3, 1) := by decide +kernel
theorem dX2_walkOn_65 : decode cX2_walkOn 65 = .ok (.invokevirtual 86, 3) := by decide +kernel
theorem dX2_walkOn_68 : decode cX2_walkOn 68 = .ok (.ifCond .eq 34, 3) := by decide +kernel
theorem dX2_walkOn_71 : decode cX2_walkOn 71 = .ok (.aload_n 0, 1) := by decide +kernel
theorem dX2_walkOn_72 : decode cX2_walkOn 72 = .ok (.getfield 39, 3) := by decide +kernel
theorem dX2_walkOn_75 : decode cX2_walkOn 75 = .ok (.iload_n 2, 1) := by decide +kernel
theorem dX2_walkOn_76 : decode cX2_walkOn 76 = .ok (.aaload, 1) := by decide +kernel
theorem dX2_walkOn_77 : decode cX2_walkOn 77 = .ok (.aload_n 1, 1) := by decide +kernel
theorem dX2_walkOn_78 : decode cX2_walkOn 78 = .ok (.getfield 90, 3) := by decide +kernel
theorem dX2_walkOn_81 : decode cX2_walkOn 81 = .ok (.iload_n 3, 1) := by decide +kernel
theorem dX2_walkOn_82 : decode cX2_walkOn 82 = .ok (.iaload, 1) := by decide +kernel
theorem dX2_walkOn_83 : decode cX2_walkOn 83 = .ok (.dup2, 1) := by decide +kernel
theorem dX2_walkOn_84 : decode cX2_walkOn 84 = .ok (.iaload, 1) := by decide +kernel
theorem dX2_walkOn_85 : decode cX2_walkOn 85 = .ok (.aload_n 0, 1) := by decide +kernel
theorem dX2_walkOn_86 : decode cX2_walkOn 86 = .ok (.getfield 39, 3) := by decide +kernel
theorem dX2_walkOn_89 : decode cX2_walkOn 89 = .ok (.iload_n 2, 1) := by decide +kernel
theorem dX2_walkOn_90 : decode cX2_walkOn 90 = .ok (.iconst 1, 1) := by decide +kernel
theorem dX2_walkOn_91 : decode cX2_walkOn 91 = .ok (.isub, 1) := by decide +kernel
theorem dX2_walkOn_92 : decode cX2_walkOn 92 = .ok (.aaload, 1) := by decide +kernel
theorem dX2_walkOn_93 : decode cX2_walkOn 93 = .ok (.aload_n 1, 1) := by decide +kernel
theorem dX2_walkOn_94 : decode cX2_walkOn 94 = .ok (.getfield 93, 3) := by decide +kernel
theorem dX2_walkOn_97 : decode cX2_walkOn 97 = .ok (.iload_n 3, 1) := by decide +kernel
theorem dX2_walkOn_98 : decode cX2_walkOn 98 = .ok (.iaload, 1) := by decide +kernel
theorem dX2_walkOn_99 : decode cX2_walkOn 99 = .ok (.iaload, 1) := by decide +kernel
theorem dX2_walkOn_100 : decode cX2_walkOn 100 = .ok (.iadd, 1) := by decide +kernel
theorem dX2_walkOn_101 : decode cX2_walkOn 101 = .ok (.iastore, 1) := by decide +kernel
theorem dX2_walkOn_102 : decode cX2_walkOn 102 = .ok (.iinc 3 1, 3) := by decide +kernel
theorem dX2_walkOn_105 : decode cX2_walkOn 105 = .ok (.goto (-52), 3) := by decide +kernel
theorem dX2_walkOn_108 : decode cX2_walkOn 108 = .ok (.iinc 2 1, 3) := by decide +kernel
theorem dX2_walkOn_111 : decode cX2_walkOn 111 = .ok (.goto (-76), 3) := by decide +kernel
theorem dX2_walkOn_114 : decode cX2_walkOn 114 = .ok (.return_, 1) := by decide +kernel
theorem dX2_walkBack_0 : decode cX2_walkBack 0 = .ok (.aload_n 0, 1) := by decide +kernel
theorem dX2_walkBack_1 : decode cX2_walkBack 1 = .ok (.getfield 42, 3) := by decide +kernel
theorem dX2_walkBack_4 : decode cX2_walkBack 4 = .ok (.bipush 6, 2) := by decide +kernel
theorem dX2_walkBack_6 : decode cX2_walkBack 6 = .ok (.aaload, 1) := by decide +kernel
theorem dX2_walkBack_7 : decode cX2_walkBack 7 = .ok (.iconst 1, 1) := by decide +kernel
theorem dX2_walkBack_8 : decode cX2_walkBack 8 = .ok (.invokestatic 64, 3) := by decide +kernel
theorem dX2_walkBack_11 : decode cX2_walkBack 11 = .ok (.bipush 6, 2) := by decide +kernel
theorem dX2_walkBack_13 : decode cX2_walkBack 13 = .ok (.istore_n 2, 1) := by decide +kernel
theorem dX2_walkBack_14 : decode cX2_walkBack 14 = .ok (.iload_n 2, 1) := by decide +kernel
theorem dX2_walkBack_15 : decode cX2_walkBack 15 = .ok (.iconst 1, 1) := by decide +kernel
theorem dX2_walkBack_16 : decode cX2_walkBack 16 = .ok (.if_icmp .lt 78, 3) := by decide +kernel
theorem dX2_walkBack_19 : decode cX2_walkBack 19 = .ok (.aload_n 0, 1) := by decide +kernel
theorem dX2_walkBack_20 : decode cX2_walkBack 20 = .ok (.getfield 42, 3) := by decide +kernel
theorem dX2_walkBack_23 : decode cX2_walkBack 23 = .ok (.iload_n 2, 1) := by decide +kernel
theorem dX2_walkBack_24 : decode cX2_walkBack 24 = .ok (.iconst 1, 1) := by decide +kernel
theorem dX2_walkBack_25 : decode cX2_walkBack 25 = .ok (.isub, 1) := by decide +kernel
theorem dX2_walkBack_26 : decode cX2_walkBack 26 = .ok (.aaload, 1) := by decide +kernel
theorem dX2_walkBack_27 : decode cX2_walkBack 27 = .ok (.iconst 0, 1) := by decide +kernel
theorem dX2_walkBack_28 : decode cX2_walkBack 28 = .ok (.invokestatic 64, 3) := by decide +kernel
theorem dX2_walkBack_31 : decode cX2_walkBack 31 = .ok (.iconst 0, 1) := by decide +kernel
theorem dX2_walkBack_32 : decode cX2_walkBack 32 = .ok (.istore_n 3, 1) := by decide +kernel
theorem dX2_walkBack_33 : decode cX2_walkBack 33 = .ok (.iload_n 3, 1) := by decide +kernel
theorem dX2_walkBack_34 : decode cX2_walkBack 34 = .ok (.aload_n 1, 1) := by decide +kernel
theorem dX2_walkBack_35 : decode cX2_walkBack 35 = .ok (.getfield 83, 3) := by decide +kernel
theorem dX2_walkBack_38 : decode cX2_walkBack 38 = .ok (.if_icmp .ge 50, 3) := by decide +kernel
theorem dX2_walkBack_41 : decode cX2_walkBack 41 = .ok (.aload_n 0, 1) := by decide +kernel
theorem dX2_walkBack_42 : decode cX2_walkBack 42 = .ok (.aload_n 1, 1) := by decide +kernel
theorem dX2_walkBack_43 : decode cX2_walkBack 43 = .ok (.iload_n 2, 1) := by decide +kernel
theorem dX2_walkBack_44 : decode cX2_walkBack 44 = .ok (.iload_n 3, 1) := by decide +kernel
theorem dX2_walkBack_45 : decode cX2_walkBack 45 = .ok (.invokevirtual 86, 3) := by decide +kernel
theorem dX2_walkBack_48 : decode cX2_walkBack 48 = .ok (.ifCond .eq 34, 3) := by decide +kernel
theorem dX2_walkBack_51 : decode cX2_walkBack 51 = .ok (.aload_n 0, 1) := by decide +kernel
theorem dX2_walkBack_52 : decode cX2_walkBack 52 = .ok (.getfield 42, 3) := by decide +kernel
theorem dX2_walkBack_55 : decode cX2_walkBack 55 = .ok (.iload_n 2, 1) := by decide +kernel
theorem dX2_walkBack_56 : decode cX2_walkBack 56 = .ok (.iconst 1, 1) := by decide +kernel
theorem dX2_walkBack_57 : decode cX2_walkBack 57 = .ok (.isub, 1) := by decide +kernel
theorem dX2_walkBack_58 : decode cX2_walkBack 58 = .ok (.aaload, 1) := by decide +kernel
theorem dX2_walkBack_59 : decode cX2_walkBack 59 = .ok (.aload_n 1, 1) := by decide +kernel
theorem dX2_walkBack_60 : decode cX2_walkBack 60 = .ok (.getfield 93, 3) := by decide +kernel
theorem dX2_walkBack_63 : decode cX2_walkBack 63 = .ok (.iload_n 3, 1) := by decide +kernel
theorem dX2_walkBack_64 : decode cX2_walkBack 64 = .ok (.iaload, 1) := by decide +kernel
theorem dX2_walkBack_65 : decode cX2_walkBack 65 = .ok (.dup2, 1) := by decide +kernel
theorem dX2_walkBack_66 : decode cX2_walkBack 66 = .ok (.iaload, 1) := by decide +kernel
theorem dX2_walkBack_67 : decode cX2_walkBack 67 = .ok (.aload_n 0, 1) := by decide +kernel
theorem dX2_walkBack_68 : decode cX2_walkBack 68 = .ok (.getfield 42, 3) := by decide +kernel
theorem dX2_walkBack_71 : decode cX2_walkBack 71 = .ok (.iload_n 2, 1) := by decide +kernel
theorem dX2_walkBack_72 : decode cX2_walkBack 72 = .ok (.aaload, 1) := by decide +kernel
theorem dX2_walkBack_73 : decode cX2_walkBack 73 = .ok (.aload_n 1, 1) := by decide +kernel
theorem dX2_walkBack_74 : decode cX2_walkBack 74 = .ok (.getfield 90, 3) := by decide +kernel
theorem dX2_walkBack_77 : decode cX2_walkBack 77 = .ok (.iload_n 3, 1) := by decide +kernel
theorem dX2_walkBack_78 : decode cX2_walkBack 78 = .ok (.iaload, 1) := by decide +kernel
theorem dX2_walkBack_79 : decode cX2_walkBack 79 = .ok (.iaload, 1) := by decide +kernel
theorem dX2_walkBack_80 : decode cX2_walkBack 80 = .ok (.iadd, 1) := by decide +kernel
theorem dX2_walkBack_81 : decode cX2_walkBack 81 = .ok (.iastore, 1) := by decide +kernel
theorem dX2_walkBack_82 : decode cX2_walkBack 82 = .ok (.iinc 3 1, 3) := by decide +kernel
theorem dX2_walkBack_85 : decode cX2_walkBack 85 = .ok (.goto (-52), 3) := by decide +kernel
theorem dX2_walkBack_88 : decode cX2_walkBack 88 = .ok (.iinc 2 (-1), 3) := by decide +kernel
theorem dX2_walkBack_91 : decode cX2_walkBack 91 = .ok (.goto (-77), 3) := by decide +kernel
theorem dX2_walkBack_94 : decode cX2_walkBack 94 = .ok (.return_, 1) := by decide +kernel
theorem dX2_fits_0 : decode cX2_fits 0 = .ok (.aload_n 0, 1) := by decide +kernel
theorem dX2_fits_1 : decode cX2_fits 1 = .ok (.getfield 34, 3) := by decide +kernel
theorem dX2_fits_4 : decode cX2_fits 4 = .ok (.iload_n 2, 1) := by decide +kernel
theorem dX2_fits_5 : decode cX2_fits 5 = .ok (.iaload, 1) := by decide +kernel
theorem dX2_fits_6 : decode cX2_fits 6 = .ok (.aload_n 1, 1) := by decide +kernel
theorem dX2_fits_7 : decode cX2_fits 7 = .ok (.getfield 96, 3) := by decide +kernel
theorem dX2_fits_10 : decode cX2_fits 10 = .ok (.iload_n 3, 1) := by decide +kernel
theorem dX2_fits_11 : decode cX2_fits 11 = .ok (.iaload, 1) := by decide +kernel
theorem dX2_fits_12 : decode cX2_fits 12 = .ok (.ishr, 1) := by decide +kernel
theorem dX2_fits_13 : decode cX2_fits 13 = .ok (.iconst 1, 1) := by decide +kernel
theorem dX2_fits_14 : decode cX2_fits 14 = .ok (.iand, 1) := by decide +kernel
theorem dX2_fits_15 : decode cX2_fits 15 = .ok (.ifCond .eq 25, 3) := by decide +kernel
theorem dX2_fits_18 : decode cX2_fits 18 = .ok (.aload_n 0, 1) := by decide +kernel
theorem dX2_fits_19 : decode cX2_fits 19 = .ok (.getfield 31, 3) := by decide +kernel
theorem dX2_fits_22 : decode cX2_fits 22 = .ok (.iload_n 2, 1) := by decide +kernel
theorem dX2_fits_23 : decode cX2_fits 23 = .ok (.iaload, 1) := by decide +kernel
theorem dX2_fits_24 : decode cX2_fits 24 = .ok (.aload_n 1, 1) := by decide +kernel
theorem dX2_fits_25 : decode cX2_fits 25 = .ok (.getfield 90, 3) := by decide +kernel
theorem dX2_fits_28 : decode cX2_fits 28 = .ok (.iload_n 3, 1) := by decide +kernel
theorem dX2_fits_29 : decode cX2_fits 29 = .ok (.iaload, 1) := by decide +kernel
theorem dX2_fits_30 : decode cX2_fits 30 = .ok (.ishr, 1) := by decide +kernel
theorem dX2_fits_31 : decode cX2_fits 31 = .ok (.iconst 1, 1) := by decide +kernel
theorem dX2_fits_32 : decode cX2_fits 32 = .ok (.iand, 1) := by decide +kernel
theorem dX2_fits_33 : decode cX2_fits 33 = .ok (.ifCond .eq 7, 3) := by decide +kernel
theorem dX2_fits_36 : decode cX2_fits 36 = .ok (.iconst 1, 1) := by decide +kernel
theorem dX2_fits_37 : decode cX2_fits 37 = .ok (.goto 4, 3) := by decide +kernel
theorem dX2_fits_40 : decode cX2_fits 40 = .ok (.iconst 0, 1) := by decide +kernel
theorem dX2_fits_41 : decode cX2_fits 41 = .ok (.ireturn, 1) := by decide +kernel
theorem dX2_through_0 : decode cX2_through 0 = .ok (.aload_n 0, 1) := by decide +kernel
theorem dX2_through_1 : decode cX2_through 1 = .ok (.getfield 39, 3) := by decide +kernel
theorem dX2_through_4 : decode cX2_through 4 = .ok (.iload_n 1, 1) := by decide +kernel
theorem dX2_through_5 : decode cX2_through 5 = .ok (.aaload, 1) := by decide +kernel
theorem dX2_through_6 : decode cX2_through 6 = .ok (.iload_n 2, 1) := by decide +kernel
theorem dX2_through_7 : decode cX2_through 7 = .ok (.iaload, 1) := by decide +kernel
theorem dX2_through_8 : decode cX2_through 8 = .ok (.aload_n 0, 1) := by decide +kernel
theorem dX2_through_9 : decode cX2_through 9 = .ok (.getfield 42, 3) := by decide +kernel
theorem dX2_through_12 : decode cX2_through 12 = .ok (.iload_n 1, 1) := by decide +kernel
theorem dX2_through_13 : decode cX2_through 13 = .ok (.aaload, 1) := by decide +kernel
theorem dX2_through_14 : decode cX2_through 14 = .ok (.iload_n 2, 1) := by decide +kernel
theorem dX2_through_15 : decode cX2_through 15 = .ok (.iaload, 1) := by decide +kernel
theorem dX2_through_16 : decode cX2_through 16 = .ok (.imul, 1) := by decide +kernel
theorem dX2_through_17 : decode cX2_through 17 = .ok (.ireturn, 1) := by decide +kernel
theorem dX2_onlyFigure_0 : decode cX2_onlyFigure 0 = .ok (.iconst (-1), 1) := by decide +kernel
theorem dX2_onlyFigure_1 : decode cX2_onlyFigure 1 = .ok (.istore_n 2, 1) := by decide +kernel
theorem dX2_onlyFigure_2 : decode cX2_onlyFigure 2 = .ok (.iconst 0, 1) := by decide +kernel
theorem dX2_onlyFigure_3 : decode cX2_onlyFigure 3 = .ok (.istore_n 3, 1) := by decide +kernel
theorem dX2_onlyFigure_4 : decode cX2_onlyFigure 4 = .ok (.iload_n 3, 1) := by decide +kernel
theorem dX2_onlyFigure_5 : decode cX2_onlyFigure 5 = .ok (.bipush 8, 2) := by decide +kernel
theorem dX2_onlyFigure_7 : decode cX2_onlyFigure 7 = .ok (.if_icmp .ge 35, 3) := by decide +kernel
theorem dX2_onlyFigure_10 : decode cX2_onlyFigure 10 = .ok (.iload_n 1, 1) := by decide +kernel
theorem dX2_onlyFigure_11 : decode cX2_onlyFigure 11 = .ok (.invokestatic 74, 3) := by decide +kernel
theorem dX2_onlyFigure_14 : decode cX2_onlyFigure 14 = .ok (.ifCond .eq 22, 3) := by decide +kernel
theorem dX2_onlyFigure_17 : decode cX2_onlyFigure 17 = .ok (.aload_n 0, 1) := by decide +kernel
theorem dX2_onlyFigure_18 : decode cX2_onlyFigure 18 = .ok (.iload_n 1, 1) := by decide +kernel
theorem dX2_onlyFigure_19 : decode cX2_onlyFigure 19 = .ok (.iload_n 3, 1) := by decide +kernel
theorem dX2_onlyFigure_20 : decode cX2_onlyFigure 20 = .ok (.invokevirtual 99, 3) := by decide +kernel
theorem dX2_onlyFigure_23 : decode cX2_onlyFigure 23 = .ok (.ifCond .eq 13, 3) := by decide +kernel
theorem dX2_onlyFigure_26 : decode cX2_onlyFigure 26 = .ok (.iload_n 2, 1) := by decide +kernel
theorem dX2_onlyFigure_27 : decode cX2_onlyFigure 27 = .ok (.iconst (-1), 1) := by decide +kernel
theorem dX2_onlyFigure_28 : decode cX2_onlyFigure 28 = .ok (.if_icmp .eq 6, 3) := by decide +kernel
theorem dX2_onlyFigure_31 : decode cX2_onlyFigure 31 = .ok (.bipush (-2), 2) := by decide +kernel
theorem dX2_onlyFigure_33 : decode cX2_onlyFigure 33 = .ok (.ireturn, 1) := by decide +kernel
theorem dX2_onlyFigure_34 : decode cX2_onlyFigure 34 = .ok (.iload_n 3, 1) := by decide +kernel
theorem dX2_onlyFigure_35 : decode cX2_onlyFigure 35 = .ok (.istore_n 2, 1) := by decide +kernel
theorem dX2_onlyFigure_36 : decode cX2_onlyFigure 36 = .ok (.iinc 3 1, 3) := by decide +kernel
theorem dX2_onlyFigure_39 : decode cX2_onlyFigure 39 = .ok (.goto (-35), 3) := by decide +kernel
theorem dX2_onlyFigure_42 : decode cX2_onlyFigure 42 = .ok (.iload_n 2, 1) := by decide +kernel
theorem dX2_onlyFigure_43 : decode cX2_onlyFigure 43 = .ok (.ireturn, 1) := by decide +kernel
theorem dX2_mostLeft_0 : decode cX2_mostLeft 0 = .ok (.iconst 0, 1) := by decide +kernel
theorem dX2_mostLeft_1 : decode cX2_mostLeft 1 = .ok (.istore_n 2, 1) := by decide +kernel
theorem dX2_mostLeft_2 : decode cX2_mostLeft 2 = .ok (.iconst 0, 1) := by decide +kernel
theorem dX2_mostLeft_3 : decode cX2_mostLeft 3 = .ok (.istore_n 3, 1) := by decide +kernel
theorem dX2_mostLeft_4 : decode cX2_mostLeft 4 = .ok (.iload_n 3, 1) := by decide +kernel
theorem dX2_mostLeft_5 : decode cX2_mostLeft 5 = .ok (.bipush 8, 2) := by decide +kernel
theorem dX2_mostLeft_7 : decode cX2_mostLeft 7 = .ok (.if_icmp .ge 27, 3) := by decide +kernel
theorem dX2_mostLeft_10 : decode cX2_mostLeft 10 = .ok (.iload_n 1, 1) := by decide +kernel
theorem dX2_mostLeft_11 : decode cX2_mostLeft 11 = .ok (.invokestatic 74, 3) := by decide +kernel
theorem dX2_mostLeft_14 : decode cX2_mostLeft 14 = .ok (.ifCond .eq 14, 3) := by decide +kernel
theorem dX2_mostLeft_17 : decode cX2_mostLeft 17 = .ok (.iload_n 2, 1) := by decide +kernel
theorem dX2_mostLeft_18 : decode cX2_mostLeft 18 = .ok (.aload_n 0, 1) := by decide +kernel
theorem dX2_mostLeft_19 : decode cX2_mostLeft 19 = .ok (.iload_n 1, 1) := by decide +kernel
theorem dX2_mostLeft_20 : decode cX2_mostLeft 20 = .ok (.iload_n 3, 1) := by decide +kernel
theorem dX2_mostLeft_21 : decode cX2_mostLeft 21 = .ok (.invokevirtual 99, 3) := by decide +kernel
theorem dX2_mostLeft_24 : decode cX2_mostLeft 24 = .ok (.invokestatic 103, 3) := by decide +kernel
theorem dX2_mostLeft_27 : decode cX2_mostLeft 27 = .ok (.istore_n 2, 1) := by decide +kernel
theorem dX2_mostLeft_28 : decode cX2_mostLeft 28 = .ok (.iinc 3 1, 3) := by decide +kernel
theorem dX2_mostLeft_31 : decode cX2_mostLeft 31 = .ok (.goto (-27), 3) := by decide +kernel
theorem dX2_mostLeft_34 : decode cX2_mostLeft 34 = .ok (.iload_n 2, 1) := by decide +kernel
theorem dX2_mostLeft_35 : decode cX2_mostLeft 35 = .ok (.ireturn, 1) := by decide +kernel
theorem dX2_bestToKnow_0 : decode cX2_bestToKnow 0 = .ok (.iconst 0, 1) := by decide +kernel
theorem dX2_bestToKnow_1 : decode cX2_bestToKnow 1 = .ok (.istore_n 1, 1) := by decide +kernel
theorem dX2_bestToKnow_2 : decode cX2_bestToKnow 2 = .ok (.iconst 1, 1) := by decide +kernel
theorem dX2_bestToKnow_3 : decode cX2_bestToKnow 3 = .ok (.istore_n 2, 1) := by decide +kernel
theorem dX2_bestToKnow_4 : decode cX2_bestToKnow 4 = .ok (.iload_n 2, 1) := by decide +kernel
theorem dX2_bestToKnow_5 : decode cX2_bestToKnow 5 = .ok (.bipush 6, 2) := by decide +kernel
theorem dX2_bestToKnow_7 : decode cX2_bestToKnow 7 = .ok (.if_icmp .gt 24, 3) := by decide +kernel
theorem dX2_bestToKnow_10 : decode cX2_bestToKnow 10 = .ok (.aload_n 0, 1) := by decide +kernel
theorem dX2_bestToKnow_11 : decode cX2_bestToKnow 11 = .ok (.iload_n 2, 1) := by decide +kernel
theorem dX2_bestToKnow_12 : decode cX2_bestToKnow 12 = .ok (.invokevirtual 108, 3) := by decide +kernel
theorem dX2_bestToKnow_15 : decode cX2_bestToKnow 15 = .ok (.aload_n 0, 1) := by decide +kernel
theorem dX2_bestToKnow_16 : decode cX2_bestToKnow 16 = .ok (.iload_n 1, 1) := by decide +kernel
theorem dX2_bestToKnow_17 : decode cX2_bestToKnow 17 = .ok (.invokevirtual 108, 3) := by decide +kernel
theorem dX2_bestToKnow_20 : decode cX2_bestToKnow 20 = .ok (.if_icmp .ge 5, 3) := by decide +kernel
theorem dX2_bestToKnow_23 : decode cX2_bestToKnow 23 = .ok (.iload_n 2, 1) := by decide +kernel
theorem dX2_bestToKnow_24 : decode cX2_bestToKnow 24 = .ok (.istore_n 1, 1) := by decide +kernel
theorem dX2_bestToKnow_25 : decode cX2_bestToKnow 25 = .ok (.iinc 2 1, 3) := by decide +kernel
theorem dX2_bestToKnow_28 : decode cX2_bestToKnow 28 = .ok (.goto (-24), 3) := by decide +kernel
theorem dX2_bestToKnow_31 : decode cX2_bestToKnow 31 = .ok (.iload_n 1, 1) := by decide +kernel
theorem dX2_bestToKnow_32 : decode cX2_bestToKnow 32 = .ok (.ireturn, 1) := by decide +kernel
theorem dX3_init_0 : decode cX3_init 0 = .ok (.aload_n 0, 1) := by decide +kernel
theorem dX3_init_1 : decode cX3_init 1 = .ok (.invokespecial 3, 3) := by decide +kernel
theorem dX3_init_4 : decode cX3_init 4 = .ok (.aload_n 0, 1) := by decide +kernel
theorem dX3_init_5 : decode cX3_init 5 = .ok (.iconst 5, 1) := by decide +kernel
theorem dX3_init_6 : decode cX3_init 6 = .ok (.newarray .int, 2) := by decide +kernel
theorem dX3_init_8 : decode cX3_init 8 = .ok (.putfield 9, 3) := by decide +kernel
theorem dX3_init_11 : decode cX3_init 11 = .ok (.return_, 1) := by decide +kernel
theorem dX3_byTakings_0 : decode cX3_byTakings 0 = .ok (.aload_n 1, 1) := by decide +kernel
theorem dX3_byTakings_1 : decode cX3_byTakings 1 = .ok (.aload_n 2, 1) := by decide +kernel
theorem dX3_byTakings_2 : decode cX3_byTakings 2 = .ok (.getfield 15, 3) := by decide +kernel
theorem dX3_byTakings_5 : decode cX3_byTakings 5 = .ok (.invokevirtual 21, 3) := by decide +kernel
theorem dX3_byTakings_8 : decode cX3_byTakings 8 = .ok (.ifCond .ne 8, 3) := by decide +kernel
theorem dX3_byTakings_11 : decode cX3_byTakings 11 = .ok (.aload_n 2, 1) := by decide +kernel
theorem dX3_byTakings_12 : decode cX3_byTakings 12 = .ok (.invokevirtual 27, 3) := by decide +kernel
theorem dX3_byTakings_15 : decode cX3_byTakings 15 = .ok (.ireturn, 1) := by decide +kernel
theorem dX3_byTakings_16 : decode cX3_byTakings 16 = .ok (.aload_n 0, 1) := by decide +kernel
theorem dX3_byTakings_17 : decode cX3_byTakings 17 = .ok (.getfield 9, 3) := by decide +kernel
theorem dX3_byTakings_20 : decode cX3_byTakings 20 = .ok (.iconst 0, 1) := by decide +kernel
theorem dX3_byTakings_21 : decode cX3_byTakings 21 = .ok (.invokestatic 31, 3) := by decide +kernel
theorem dX3_byTakings_24 : decode cX3_byTakings 24 = .ok (.aload_n 0, 1) := by decide +kernel
theorem dX3_byTakings_25 : decode cX3_byTakings 25 = .ok (.getfield 9, 3) := by decide +kernel
theorem dX3_byTakings_28 : decode cX3_byTakings 28 = .ok (.aload_n 2, 1) := by decide +kernel
theorem dX3_byTakings_29 : decode cX3_byTakings 29 = .ok (.getfield 15, 3) := by decide +kernel
theorem dX3_byTakings_32 : decode cX3_byTakings 32 = .ok (.aload_n 2, 1) := by decide +kernel
theorem dX3_byTakings_33 : decode cX3_byTakings 33 = .ok (.invokevirtual 27, 3) := by decide +kernel
theorem dX3_byTakings_36 : decode cX3_byTakings 36 = .ok (.iastore, 1) := by decide +kernel
theorem dX3_byTakings_37 : decode cX3_byTakings 37 = .ok (.iload_n 3, 1) := by decide +kernel
theorem dX3_byTakings_38 : decode cX3_byTakings 38 = .ok (.iconst 1, 1) := by decide +kernel
theorem dX3_byTakings_39 : decode cX3_byTakings 39 = .ok (.aload_n 2, 1) := by decide +kernel
theorem dX3_byTakings_40 : decode cX3_byTakings 40 = .ok (.getfield 15, 3) := by decide +kernel
theorem dX3_byTakings_43 : decode cX3_byTakings 43 = .ok (.ishl, 1) := by decide +kernel
theorem dX3_byTakings_44 : decode cX3_byTakings 44 = .ok (.ior, 1) := by decide +kernel
theorem dX3_byTakings_45 : decode cX3_byTakings 45 = .ok (.istore 4, 2) := by decide +kernel
theorem dX3_byTakings_47 : decode cX3_byTakings 47 = .ok (.iconst 1, 1) := by decide +kernel
theorem dX3_byTakings_48 : decode cX3_byTakings 48 = .ok (.istore 5, 2) := by decide +kernel
theorem dX3_byTakings_50 : decode cX3_byTakings 50 = .ok (.iconst 0, 1) := by decide +kernel
theorem dX3_byTakings_51 : decode cX3_byTakings 51 = .ok (.istore 6, 2) := by decide +kernel
theorem dX3_byTakings_53 : decode cX3_byTakings 53 = .ok (.iload 6, 2) := by decide +kernel
theorem dX3_byTakings_55 : decode cX3_byTakings 55 = .ok (.bipush 40, 2) := by decide +kernel
theorem dX3_byTakings_57 : decode cX3_byTakings 57 = .ok (.if_icmp .ge 58, 3) := by decide +kernel
theorem dX3_byTakings_60 : decode cX3_byTakings 60 = .ok (.iload 5, 2) := by decide +kernel
theorem dX3_byTakings_62 : decode cX3_byTakings 62 = .ok (.ifCond .eq 53, 3) := by decide +kernel
theorem dX3_byTakings_65 : decode cX3_byTakings 65 = .ok (.iconst 0, 1) := by decide +kernel
theorem dX3_byTakings_66 : decode cX3_byTakings 66 = .ok (.istore 5, 2) := by decide +kernel
theorem dX3_byTakings_68 : decode cX3_byTakings 68 = .ok (.iconst 0, 1) := by decide +kernel
theorem dX3_byTakings_69 : decode cX3_byTakings 69 = .ok (.istore 7, 2) := by decide +kernel
theorem dX3_byTakings_71 : decode cX3_byTakings 71 = .ok (.iload 7, 2) := by decide +kernel
theorem dX3_byTakings_73 : decode cX3_byTakings 73 = .ok (.aload_n 1, 1) := by decide +kernel
theorem dX3_byTakings_74 : decode cX3_byTakings 74 = .ok (.getfield 37, 3) := by decide +kernel
theorem dX3_byTakings_77 : decode cX3_byTakings 77 = .ok (.if_icmp .ge 32, 3) := by decide +kernel
theorem dX3_byTakings_80 : decode cX3_byTakings 80 = .ok (.iload 4, 2) := by decide +kernel
theorem dX3_byTakings_82 : decode cX3_byTakings 82 = .ok (.iload 7, 2) := by decide +kernel
theorem dX3_byTakings_84 : decode cX3_byTakings 84 = .ok (.ishr, 1) := by decide +kernel
theorem dX3_byTakings_85 : decode cX3_byTakings 85 = .ok (.iconst 1, 1) := by decide +kernel
theorem dX3_byTakings_86 : decode cX3_byTakings 86 = .ok (.iand, 1) := by decide +kernel
theorem dX3_byTakings_87 : decode cX3_byTakings 87 = .ok (.ifCond .eq 16, 3) := by decide +kernel
theorem dX3_byTakings_90 : decode cX3_byTakings 90 = .ok (.aload_n 0, 1) := by decide +kernel
theorem dX3_byTakings_91 : decode cX3_byTakings 91 = .ok (.aload_n 1, 1) := by decide +kernel
theorem dX3_byTakings_92 : decode cX3_byTakings 92 = .ok (.iload 7, 2) := by decide +kernel
theorem dX3_byTakings_94 : decode cX3_byTakings 94 = .ok (.invokevirtual 40, 3) := by decide +kernel
theorem dX3_byTakings_97 : decode cX3_byTakings 97 = .ok (.ifCond .eq 6, 3) := by decide +kernel
theorem dX3_byTakings_100 : decode cX3_byTakings 100 = .ok (.iconst 1, 1) := by decide +kernel
theorem dX3_byTakings_101 : decode cX3_byTakings 101 = .ok (.istore 5, 2) := by decide +kernel
theorem dX3_byTakings_103 : decode cX3_byTakings 103 = .ok (.iinc 7 1, 3) := by decide +kernel
theorem dX3_byTakings_106 : decode cX3_byTakings 106 = .ok (.goto (-35), 3) := by decide +kernel
theorem dX3_byTakings_109 : decode cX3_byTakings 109 = .ok (.iinc 6 1, 3) := by decide +kernel
theorem dX3_byTakings_112 : decode cX3_byTakings 112 = .ok (.goto (-59), 3) := by decide +kernel
theorem dX3_byTakings_115 : decode cX3_byTakings 115 = .ok (.aload_n 0, 1) := by decide +kernel
theorem dX3_byTakings_116 : decode cX3_byTakings 116 = .ok (.aload_n 1, 1) := by decide +kernel
theorem dX3_byTakings_117 : decode cX3_byTakings 117 = .ok (.invokevirtual 44, 3) := by decide +kernel
theorem dX3_byTakings_120 : decode cX3_byTakings 120 = .ok (.ireturn, 1) := by decide +kernel
theorem dX3_holdsMore_0 : decode cX3_holdsMore 0 = .ok (.iconst 0, 1) := by decide +kernel
theorem dX3_holdsMore_1 : decode cX3_holdsMore 1 = .ok (.istore_n 3, 1) := by decide +kernel
theorem dX3_holdsMore_2 : decode cX3_holdsMore 2 = .ok (.iconst 0, 1) := by decide +kernel
theorem dX3_holdsMore_3 : decode cX3_holdsMore 3 = .ok (.istore 4, 2) := by decide +kernel
theorem dX3_holdsMore_5 : decode cX3_holdsMore 5 = .ok (.iload 4, 2) := by decide +kernel
theorem dX3_holdsMore_7 : decode cX3_holdsMore 7 = .ok (.aload_n 1, 1) := by decide +kernel
theorem dX3_holdsMore_8 : decode cX3_holdsMore 8 = .ok (.getfield 37, 3) := by decide +kernel
theorem dX3_holdsMore_11 : decode cX3_holdsMore 11 = .ok (.if_icmp .ge 29, 3) := by decide +kernel
theorem dX3_holdsMore_14 : decode cX3_holdsMore 14 = .ok (.iload_n 3, 1) := by decide +kernel
theorem dX3_holdsMore_15 : decode cX3_holdsMore 15 = .ok (.iload 4, 2) := by decide +kernel
theorem dX3_holdsMore_17 : decode cX3_holdsMore 17 = .ok (.iload_n 2, 1) := by decide +kernel
theorem dX3_holdsMore_18 : decode cX3_holdsMore 18 = .ok (.if_icmp .ne 7, 3) := by decide +kernel
theorem dX3_holdsMore_21 : decode cX3_holdsMore 21 = .ok (.iconst 0, 1) := by decide +kernel
theorem dX3_holdsMore_22 : decode cX3_holdsMore 22 = .ok (.goto 10, 3) := by decide +kernel
theorem dX3_holdsMore_25 : decode cX3_holdsMore 25 = .ok (.aload_n 0, 1) := by decide +kernel
theorem dX3_holdsMore_26 : decode cX3_holdsMore 26 = .ok (.getfield 9, 3) := by decide +kernel
theorem dX3_holdsMore_29 : decode cX3_holdsMore 29 = .ok (.iload 4, 2) := by decide +kernel
theorem dX3_holdsMore_31 : decode cX3_holdsMore 31 = .ok (.iaload, 1) := by decide +kernel
theorem dX3_holdsMore_32 : decode cX3_holdsMore 32 = .ok (.ior, 1) := by decide +kernel
theorem dX3_holdsMore_33 : decode cX3_holdsMore 33 = .ok (.istore_n 3, 1) := by decide +kernel
theorem dX3_holdsMore_34 : decode cX3_holdsMore 34 = .ok (.iinc 4 1, 3) := by decide +kernel
theorem dX3_holdsMore_37 : decode cX3_holdsMore 37 = .ok (.goto (-32), 3) := by decide +kernel
theorem dX3_holdsMore_40 : decode cX3_holdsMore 40 = .ok (.aload_n 0, 1) := by decide +kernel
theorem dX3_holdsMore_41 : decode cX3_holdsMore 41 = .ok (.getfield 9, 3) := by decide +kernel
theorem dX3_holdsMore_44 : decode cX3_holdsMore 44 = .ok (.iload_n 2, 1) := by decide +kernel
theorem dX3_holdsMore_45 : decode cX3_holdsMore 45 = .ok (.iaload, 1) := by decide +kernel
theorem dX3_holdsMore_46 : decode cX3_holdsMore 46 = .ok (.aload_n 1, 1) := by decide +kernel
theorem dX3_holdsMore_47 : decode cX3_holdsMore 47 = .ok (.iload_n 3, 1) := by decide +kernel
theorem dX3_holdsMore_48 : decode cX3_holdsMore 48 = .ok (.aload_n 1, 1) := by decide +kernel
theorem dX3_holdsMore_49 : decode cX3_holdsMore 49 = .ok (.getfield 48, 3) := by decide +kernel
theorem dX3_holdsMore_52 : decode cX3_holdsMore 52 = .ok (.iload_n 2, 1) := by decide +kernel
theorem dX3_holdsMore_53 : decode cX3_holdsMore 53 = .ok (.iaload, 1) := by decide +kernel
theorem dX3_holdsMore_54 : decode cX3_holdsMore 54 = .ok (.invokevirtual 51, 3) := by decide +kernel
theorem dX3_holdsMore_57 : decode cX3_holdsMore 57 = .ok (.ior, 1) := by decide +kernel
theorem dX3_holdsMore_58 : decode cX3_holdsMore 58 = .ok (.istore 4, 2) := by decide +kernel
theorem dX3_holdsMore_60 : decode cX3_holdsMore 60 = .ok (.iload 4, 2) := by decide +kernel
theorem dX3_holdsMore_62 : decode cX3_holdsMore 62 = .ok (.aload_n 0, 1) := by decide +kernel
theorem dX3_holdsMore_63 : decode cX3_holdsMore 63 = .ok (.getfield 9, 3) := by decide +kernel
theorem dX3_holdsMore_66 : decode cX3_holdsMore 66 = .ok (.iload_n 2, 1) := by decide +kernel
theorem dX3_holdsMore_67 : decode cX3_holdsMore 67 = .ok (.iaload, 1) := by decide +kernel
theorem dX3_holdsMore_68 : decode cX3_holdsMore 68 = .ok (.if_icmp .eq 7, 3) := by decide +kernel
theorem dX3_holdsMore_71 : decode cX3_holdsMore 71 = .ok (.iconst 1, 1) := by decide +kernel
theorem dX3_holdsMore_72 : decode cX3_holdsMore 72 = .ok (.goto 4, 3) := by decide +kernel
theorem dX3_holdsMore_75 : decode cX3_holdsMore 75 = .ok (.iconst 0, 1) := by decide +kernel
theorem dX3_holdsMore_76 : decode cX3_holdsMore 76 = .ok (.istore 5, 2) := by decide +kernel
theorem dX3_holdsMore_78 : decode cX3_holdsMore 78 = .ok (.aload_n 0, 1) := by decide +kernel
theorem dX3_holdsMore_79 : decode cX3_holdsMore 79 = .ok (.getfield 9, 3) := by decide +kernel
theorem dX3_holdsMore_82 : decode cX3_holdsMore 82 = .ok (.iload_n 2, 1) := by decide +kernel
theorem dX3_holdsMore_83 : decode cX3_holdsMore 83 = .ok (.iload 4, 2) := by decide +kernel
theorem dX3_holdsMore_85 : decode cX3_holdsMore 85 = .ok (.iastore, 1) := by decide +kernel
theorem dX3_holdsMore_86 : decode cX3_holdsMore 86 = .ok (.iload 5, 2) := by decide +kernel
theorem dX3_holdsMore_88 : decode cX3_holdsMore 88 = .ok (.ireturn, 1) := by decide +kernel
theorem dX3_heldByAny_0 : decode cX3_heldByAny 0 = .ok (.iconst 0, 1) := by decide +kernel
theorem dX3_heldByAny_1 : decode cX3_heldByAny 1 = .ok (.istore_n 2, 1) := by decide +kernel
theorem dX3_heldByAny_2 : decode cX3_heldByAny 2 = .ok (.iconst 0, 1) := by decide +kernel
theorem dX3_heldByAny_3 : decode cX3_heldByAny 3 = .ok (.istore_n 3, 1) := by decide +kernel
theorem dX3_heldByAny_4 : decode cX3_heldByAny 4 = .ok (.iload_n 3, 1) := by decide +kernel
theorem dX3_heldByAny_5 : decode cX3_heldByAny 5 = .ok (.aload_n 1, 1) := by decide +kernel
theorem dX3_heldByAny_6 : decode cX3_heldByAny 6 = .ok (.getfield 37, 3) := by decide +kernel
theorem dX3_heldByAny_9 : decode cX3_heldByAny 9 = .ok (.if_icmp .ge 18, 3) := by decide +kernel
theorem dX3_heldByAny_12 : decode cX3_heldByAny 12 = .ok (.iload_n 2, 1) := by decide +kernel
theorem dX3_heldByAny_13 : decode cX3_heldByAny 13 = .ok (.aload_n 0, 1) := by decide +kernel
theorem dX3_heldByAny_14 : decode cX3_heldByAny 14 = .ok (.getfield 9, 3) := by decide +kernel
theorem dX3_heldByAny_17 : decode cX3_heldByAny 17 = .ok (.iload_n 3, 1) := by decide +kernel
theorem dX3_heldByAny_18 : decode cX3_heldByAny 18 = .ok (.iaload, 1) := by decide +kernel
theorem dX3_heldByAny_19 : decode cX3_heldByAny 19 = .ok (.ior, 1) := by decide +kernel
theorem dX3_heldByAny_20 : decode cX3_heldByAny 20 = .ok (.istore_n 2, 1) := by decide +kernel
theorem dX3_heldByAny_21 : decode cX3_heldByAny 21 = .ok (.iinc 3 1, 3) := by decide +kernel
theorem dX3_heldByAny_24 : decode cX3_heldByAny 24 = .ok (.goto (-20), 3) := by decide +kernel
theorem dX3_heldByAny_27 : decode cX3_heldByAny 27 = .ok (.iload_n 2, 1) := by decide +kernel
theorem dX3_heldByAny_28 : decode cX3_heldByAny 28 = .ok (.ireturn, 1) := by decide +kernel
theorem dX3_fewestHands_0 : decode cX3_fewestHands 0 = .ok (.iconst (-1), 1) := by decide +kernel
theorem dX3_fewestHands_1 : decode cX3_fewestHands 1 = .ok (.istore 4, 2) := by decide +kernel
theorem dX3_fewestHands_3 : decode cX3_fewestHands 3 = .ok (.iconst 0, 1) := by decide +kernel
theorem dX3_fewestHands_4 : decode cX3_fewestHands 4 = .ok (.istore 5, 2) := by decide +kernel
theorem dX3_fewestHands_6 : decode cX3_fewestHands 6 = .ok (.iload 5, 2) := by decide +kernel
theorem dX3_fewestHands_8 : decode cX3_fewestHands 8 = .ok (.iconst 1, 1) := by decide +kernel
theorem dX3_fewestHands_9 : decode cX3_fewestHands 9 = .ok (.aload_n 1, 1) := by decide +kernel
theorem dX3_fewestHands_10 : decode cX3_fewestHands 10 = .ok (.getfield 37, 3) := by decide +kernel
theorem dX3_fewestHands_13 : decode cX3_fewestHands 13 = .ok (.ishl, 1) := by decide +kernel
theorem dX3_fewestHands_14 : decode cX3_fewestHands 14 = .ok (.if_icmp .ge 91, 3) := by decide +kernel
theorem dX3_fewestHands_17 : decode cX3_fewestHands 17 = .ok (.iload 4, 2) := by decide +kernel
theorem dX3_fewestHands_19 : decode cX3_fewestHands 19 = .ok (.iconst (-1), 1) := by decide +kernel
theorem dX3_fewestHands_20 : decode cX3_fewestHands 20 = .ok (.if_icmp .eq 16, 3) := by decide +kernel
theorem dX3_fewestHands_23 : decode cX3_fewestHands 23 = .ok (.iload 5, 2) := by decide +kernel
theorem dX3_fewestHands_25 : decode cX3_fewestHands 25 = .ok (.invokestatic 55, 3) := by decide +kernel
theorem dX3_fewestHands_28 : decode cX3_fewestHands 28 = .ok (.iload 4, 2) := by decide +kernel
theorem dX3_fewestHands_30 : decode cX3_fewestHands 30 = .ok (.invokestatic 55, 3) := by decide +kernel
theorem dX3_fewestHands_33 : decode cX3_fewestHands 33 = .ok (.if_icmp .ge 7, 3) := by decide +kernel
theorem dX3_fewestHands_36 : decode cX3_fewestHands 36 = .ok (.iconst 1, 1) := by decide +kernel
theorem dX3_fewestHands_37 : decode cX3_fewestHands 37 = .ok (.goto 4, 3) := by decide +kernel
theorem dX3_fewestHands_40 : decode cX3_fewestHands 40 = .ok (.iconst 0, 1) := by decide +kernel
theorem dX3_fewestHands_41 : decode cX3_fewestHands 41 = .ok (.istore 6, 2) := by decide +kernel
theorem dX3_fewestHands_43 : decode cX3_fewestHands 43 = .ok (.aload_n 2, 1) := by decide +kernel
theorem dX3_fewestHands_44 : decode cX3_fewestHands 44 = .ok (.getfield 15, 3) := by decide +kernel
theorem dX3_fewestHands_47 : decode cX3_fewestHands 47 = .ok (.iconst (-1), 1) := by decide +kernel
theorem dX3_fewestHands_48 : decode cX3_fewestHands 48 = .ok (.if_icmp .eq 15, 3) := by decide +kernel
theorem dX3_fewestHands_51 : decode cX3_fewestHands 51 = .ok (.iload 5, 2) := by decide +kernel
theorem dX3_fewestHands_53 : decode cX3_fewestHands 53 = .ok (.aload_n 2, 1) := by decide +kernel
theorem dX3_fewestHands_54 : decode cX3_fewestHands 54 = .ok (.getfield 15, 3) := by decide +kernel
theorem dX3_fewestHands_57 : decode cX3_fewestHands 57 = .ok (.ishr, 1) := by decide +kernel
theorem dX3_fewestHands_58 : decode cX3_fewestHands 58 = .ok (.iconst 1, 1) := by decide +kernel
theorem dX3_fewestHands_59 : decode cX3_fewestHands 59 = .ok (.iand, 1) := by decide +kernel
theorem dX3_fewestHands_60 : decode cX3_fewestHands 60 = .ok (.ifCond .ne 7, 3) := by decide +kernel
theorem dX3_fewestHands_63 : decode cX3_fewestHands 63 = .ok (.iconst 1, 1) := by decide +kernel
theorem dX3_fewestHands_64 : decode cX3_fewestHands 64 = .ok (.goto 4, 3) := by decide +kernel
theorem dX3_fewestHands_67 : decode cX3_fewestHands 67 = .ok (.iconst 0, 1) := by decide +kernel
theorem dX3_fewestHands_68 : decode cX3_fewestHands 68 = .ok (.istore 7, 2) := by decide +kernel
theorem dX3_fewestHands_70 : decode cX3_fewestHands 70 = .ok (.iload 6, 2) := by decide +kernel
theorem dX3_fewestHands_72 : decode cX3_fewestHands 72 = .ok (.ifCond .eq 27, 3) := by decide +kernel
theorem dX3_fewestHands_75 : decode cX3_fewestHands 75 = .ok (.iload 7, 2) := by decide +kernel
theorem dX3_fewestHands_77 : decode cX3_fewestHands 77 = .ok (.ifCond .eq 22, 3) := by decide +kernel
theorem dX3_fewestHands_80 : decode cX3_fewestHands 80 = .ok (.aload_n 0, 1) := by decide +kernel
theorem dX3_fewestHands_81 : decode cX3_fewestHands 81 = .ok (.aload_n 1, 1) := by decide +kernel
theorem dX3_fewestHands_82 : decode cX3_fewestHands 82 = .ok (.aload_n 2, 1) := by decide +kernel
theorem dX3_fewestHands_83 : decode cX3_fewestHands 83 = .ok (.iload 5, 2) := by decide +kernel
theorem dX3_fewestHands_85 : decode cX3_fewestHands 85 = .ok (.invokevirtual 61, 3) := by decide +kernel
theorem dX3_fewestHands_88 : decode cX3_fewestHands 88 = .ok (.iload_n 3, 1) := by decide +kernel
theorem dX3_fewestHands_89 : decode cX3_fewestHands 89 = .ok (.ishr, 1) := by decide +kernel
theorem dX3_fewestHands_90 : decode cX3_fewestHands 90 = .ok (.iconst 1, 1) := by decide +kernel
theorem dX3_fewestHands_91 : decode cX3_fewestHands 91 = .ok (.iand, 1) := by decide +kernel
theorem dX3_fewestHands_92 : decode cX3_fewestHands 92 = .ok (.ifCond .eq 7, 3) := by decide +kernel
theorem dX3_fewestHands_95 : decode cX3_fewestHands 95 = .ok (.iload 5, 2) := by decide +kernel
theorem dX3_fewestHands_97 : decode cX3_fewestHands 97 = .ok (.istore 4, 2) := by decide +kernel
theorem dX3_fewestHands_99 : decode cX3_fewestHands 99 = .ok (.iinc 5 1, 3) := by decide +kernel
theorem dX3_fewestHands_102 : decode cX3_fewestHands 102 = .ok (.goto (-96), 3) := by decide +kernel
theorem dX3_fewestHands_105 : decode cX3_fewestHands 105 = .ok (.iload 4, 2) := by decide +kernel
theorem dX3_fewestHands_107 : decode cX3_fewestHands 107 = .ok (.ireturn, 1) := by decide +kernel
theorem dX4_init_0 : decode cX4_init 0 = .ok (.aload_n 0, 1) := by decide +kernel
theorem dX4_init_1 : decode cX4_init 1 = .ok (.invokespecial 3, 3) := by decide +kernel
theorem dX4_init_4 : decode cX4_init 4 = .ok (.aload_n 0, 1) := by decide +kernel
theorem dX4_init_5 : decode cX4_init 5 = .ok (.new 9, 3) := by decide +kernel
theorem dX4_init_8 : decode cX4_init 8 = .ok (.dup, 1) := by decide +kernel
theorem dX4_init_9 : decode cX4_init 9 = .ok (.invokespecial 11, 3) := by decide +kernel
theorem dX4_init_12 : decode cX4_init 12 = .ok (.putfield 12, 3) := by decide +kernel
theorem dX4_init_15 : decode cX4_init 15 = .ok (.aload_n 0, 1) := by decide +kernel
theorem dX4_init_16 : decode cX4_init 16 = .ok (.iconst 0, 1) := by decide +kernel
theorem dX4_init_17 : decode cX4_init 17 = .ok (.putfield 18, 3) := by decide +kernel
theorem dX4_init_20 : decode cX4_init 20 = .ok (.aload_n 0, 1) := by decide +kernel
theorem dX4_init_21 : decode cX4_init 21 = .ok (.iconst 0, 1) := by decide +kernel
theorem dX4_init_22 : decode cX4_init 22 = .ok (.putfield 22, 3) := by decide +kernel
theorem dX4_init_25 : decode cX4_init 25 = .ok (.aload_n 0, 1) := by decide +kernel
theorem dX4_init_26 : decode cX4_init 26 = .ok (.iconst 0, 1) := by decide +kernel
theorem dX4_init_27 : decode cX4_init 27 = .ok (.putfield 25, 3) := by decide +kernel
theorem dX4_init_30 : decode cX4_init 30 = .ok (.aload_n 0, 1) := by decide +kernel
theorem dX4_init_31 : decode cX4_init 31 = .ok (.iconst 0, 1) := by decide +kernel
theorem dX4_init_32 : decode cX4_init 32 = .ok (.putfield 29, 3) := by decide +kernel
theorem dX4_init_35 : decode cX4_init 35 = .ok (.aload_n 0, 1) := by decide +kernel
theorem dX4_init_36 : decode cX4_init 36 = .ok (.iconst (-1), 1) := by decide +kernel
theorem dX4_init_37 : decode cX4_init 37 = .ok (.putfield 32, 3) := by decide +kernel
theorem dX4_init_40 : decode cX4_init 40 = .ok (.aload_n 0, 1) := by decide +kernel
theorem dX4_init_41 : decode cX4_init 41 = .ok (.new 35, 3) := by decide +kernel
theorem dX4_init_44 : decode cX4_init 44 = .ok (.dup, 1) := by decide +kernel
theorem dX4_init_45 : decode cX4_init 45 = .ok (.aload_n 1, 1) := by decide +kernel
theorem dX4_init_46 : decode cX4_init 46 = .ok (.invokespecial 37, 3) := by decide +kernel
theorem dX4_init_49 : decode cX4_init 49 = .ok (.putfield 40, 3) := by decide +kernel
theorem dX4_init_52 : decode cX4_init 52 = .ok (.return_, 1) := by decide +kernel
theorem dX4_exchange_0 : decode cX4_exchange 0 = .ok (.aload_n 0, 1) := by decide +kernel
theorem dX4_exchange_1 : decode cX4_exchange 1 = .ok (.getfield 12, 3) := by decide +kernel
theorem dX4_exchange_4 : decode cX4_exchange 4 = .ok (.invokevirtual 44, 3) := by decide +kernel
theorem dX4_exchange_7 : decode cX4_exchange 7 = .ok (.aload_n 0, 1) := by decide +kernel
theorem dX4_exchange_8 : decode cX4_exchange 8 = .ok (.getfield 12, 3) := by decide +kernel
theorem dX4_exchange_11 : decode cX4_exchange 11 = .ok (.astore_n 2, 1) := by decide +kernel
theorem dX4_exchange_12 : decode cX4_exchange 12 = .ok (.aload_n 0, 1) := by decide +kernel
theorem dX4_exchange_13 : decode cX4_exchange 13 = .ok (.aload_n 1, 1) := by decide +kernel
theorem dX4_exchange_14 : decode cX4_exchange 14 = .ok (.putfield 12, 3) := by decide +kernel
theorem dX4_exchange_17 : decode cX4_exchange 17 = .ok (.aload_n 2, 1) := by decide +kernel
theorem dX4_exchange_18 : decode cX4_exchange 18 = .ok (.areturn, 1) := by decide +kernel
theorem dX4_start_0 : decode cX4_start 0 = .ok (.aload_n 0, 1) := by decide +kernel
theorem dX4_start_1 : decode cX4_start 1 = .ok (.getfield 12, 3) := by decide +kernel
theorem dX4_start_4 : decode cX4_start 4 = .ok (.invokevirtual 47, 3) := by decide +kernel
theorem dX4_start_7 : decode cX4_start 7 = .ok (.aload_n 0, 1) := by decide +kernel
theorem dX4_start_8 : decode cX4_start 8 = .ok (.iconst 0, 1) := by decide +kernel
theorem dX4_start_9 : decode cX4_start 9 = .ok (.putfield 18, 3) := by decide +kernel
theorem dX4_start_12 : decode cX4_start 12 = .ok (.aload_n 0, 1) := by decide +kernel
theorem dX4_start_13 : decode cX4_start 13 = .ok (.iconst 0, 1) := by decide +kernel
theorem dX4_start_14 : decode cX4_start 14 = .ok (.putfield 22, 3) := by decide +kernel
theorem dX4_start_17 : decode cX4_start 17 = .ok (.aload_n 0, 1) := by decide +kernel
theorem dX4_start_18 : decode cX4_start 18 = .ok (.iconst 0, 1) := by decide +kernel
theorem dX4_start_19 : decode cX4_start 19 = .ok (.putfield 25, 3) := by decide +kernel
theorem dX4_start_22 : decode cX4_start 22 = .ok (.aload_n 0, 1) := by decide +kernel
theorem dX4_start_23 : decode cX4_start 23 = .ok (.iconst 0, 1) := by decide +kernel
theorem dX4_start_24 : decode cX4_start 24 = .ok (.putfield 29, 3) := by decide +kernel
theorem dX4_start_27 : decode cX4_start 27 = .ok (.aload_n 0, 1) := by decide +kernel
theorem dX4_start_28 : decode cX4_start 28 = .ok (.iconst (-1), 1) := by decide +kernel
theorem dX4_start_29 : decode cX4_start 29 = .ok (.putfield 32, 3) := by decide +kernel
theorem dX4_start_32 : decode cX4_start 32 = .ok (.aload_n 0, 1) := by decide +kernel
theorem dX4_start_33 : decode cX4_start 33 = .ok (.getfield 40, 3) := by decide +kernel
theorem dX4_start_36 : decode cX4_start 36 = .ok (.invokevirtual 50, 3) := by decide +kernel
theorem dX4_start_39 : decode cX4_start 39 = .ok (.return_, 1) := by decide +kernel
theorem dX4_isAtEnd_0 : decode cX4_isAtEnd 0 = .ok (.aload_n 0, 1) := by decide +kernel
theorem dX4_isAtEnd_1 : decode cX4_isAtEnd 1 = .ok (.getfield 40, 3) := by decide +kernel
theorem dX4_isAtEnd_4 : decode cX4_isAtEnd 4 = .ok (.getfield 53, 3) := by decide +kernel
theorem dX4_isAtEnd_7 : decode cX4_isAtEnd 7 = .ok (.bipush 21, 2) := by decide +kernel
theorem dX4_isAtEnd_9 : decode cX4_isAtEnd 9 = .ok (.if_icmp .ne 7, 3) := by decide +kernel
theorem dX4_isAtEnd_12 : decode cX4_isAtEnd 12 = .ok (.iconst 1, 1) := by decide +kernel
theorem dX4_isAtEnd_13 : decode cX4_isAtEnd 13 = .ok (.goto 4, 3) := by decide +kernel
theorem dX4_isAtEnd_16 : decode cX4_isAtEnd 16 = .ok (.iconst 0, 1) := by decide +kernel
theorem dX4_isAtEnd_17 : decode cX4_isAtEnd 17 = .ok (.ireturn, 1) := by decide +kernel
theorem dX4_refuse_0 : decode cX4_refuse 0 = .ok (.aload_n 0, 1) := by decide +kernel
theorem dX4_refuse_1 : decode cX4_refuse 1 = .ok (.aload_n 0, 1) := by decide +kernel
theorem dX4_refuse_2 : decode cX4_refuse 2 = .ok (.getfield 40, 3) := by decide +kernel
theorem dX4_refuse_5 : decode cX4_refuse 5 = .ok (.getfield 53, 3) := by decide +kernel
theorem dX4_refuse_8 : decode cX4_refuse 8 = .ok (.bipush 22, 2) := by decide +kernel
theorem dX4_refuse_10 : decode cX4_refuse 10 = .ok (.if_icmp .ne 7, 3) := by decide +kernel
theorem dX4_refuse_13 : decode cX4_refuse 13 = .ok (.iconst 1, 1) := by decide +kernel
theorem dX4_refuse_14 : decode cX4_refuse 14 = .ok (.goto 4, 3) := by decide +kernel
theorem dX4_refuse_17 : decode cX4_refuse 17 = .ok (.iload_n 1, 1) := by decide +kernel
theorem dX4_refuse_18 : decode cX4_refuse 18 = .ok (.putfield 29, 3) := by decide +kernel
theorem dX4_refuse_21 : decode cX4_refuse 21 = .ok (.aload_n 0, 1) := by decide +kernel
theorem dX4_refuse_22 : decode cX4_refuse 22 = .ok (.aload_n 0, 1) := by decide +kernel
theorem dX4_refuse_23 : decode cX4_refuse 23 = .ok (.getfield 40, 3) := by decide +kernel
theorem dX4_refuse_26 : decode cX4_refuse 26 = .ok (.getfield 56, 3) := by decide +kernel
theorem dX4_refuse_29 : decode cX4_refuse 29 = .ok (.putfield 32, 3) := by decide +kernel
theorem dX4_refuse_32 : decode cX4_refuse 32 = .ok (.iconst 0, 1) := by decide +kernel
theorem dX4_refuse_33 : decode cX4_refuse 33 = .ok (.ireturn, 1) := by decide +kernel
theorem dX4_readLine_0 : decode cX4_readLine 0 = .ok (.aload_n 0, 1) := by decide +kernel
theorem dX4_readLine_1 : decode cX4_readLine 1 = .ok (.getfield 40, 3) := by decide +kernel
theorem dX4_readLine_4 : decode cX4_readLine 4 = .ok (.getfield 53, 3) := by decide +kernel
theorem dX4_readLine_7 : decode cX4_readLine 7 = .ok (.tableswitch 100 0 12 #[65, 70, 100, 100, 100, 75, 100, 100, 100, 80, 85, 90, 95], 65) := by decide +kernel
theorem dX4_readLine_72 : decode cX4_readLine 72 = .ok (.aload_n 0, 1) := by decide +kernel
theorem dX4_readLine_73 : decode cX4_readLine 73 = .ok (.invokevirtual 57, 3) := by decide +kernel
theorem dX4_readLine_76 : decode cX4_readLine 76 = .ok (.ireturn, 1) := by decide +kernel
theorem dX4_readLine_77 : decode cX4_readLine 77 = .ok (.aload_n 0, 1) := by decide +kernel
theorem dX4_readLine_78 : decode cX4_readLine 78 = .ok (.invokevirtual 61, 3) := by decide +kernel
theorem dX4_readLine_81 : decode cX4_readLine 81 = .ok (.ireturn, 1) := by decide +kernel
theorem dX4_readLine_82 : decode cX4_readLine 82 = .ok (.aload_n 0, 1) := by decide +kernel
theorem dX4_readLine_83 : decode cX4_readLine 83 = .ok (.invokevirtual 64, 3) := by decide +kernel
theorem dX4_readLine_86 : decode cX4_readLine 86 = .ok (.ireturn, 1) := by decide +kernel
theorem dX4_readLine_87 : decode cX4_readLine 87 = .ok (.aload_n 0, 1) := by decide +kernel
theorem dX4_readLine_88 : decode cX4_readLine 88 = .ok (.invokevirtual 67, 3) := by decide +kernel
theorem dX4_readLine_91 : decode cX4_readLine 91 = .ok (.ireturn, 1) := by decide +kernel
theorem dX4_readLine_92 : decode cX4_readLine 92 = .ok (.aload_n 0, 1) := by decide +kernel
theorem dX4_readLine_93 : decode cX4_readLine 93 = .ok (.invokevirtual 70, 3) := by decide +kernel
theorem dX4_readLine_96 : decode cX4_readLine 96 = .ok (.ireturn, 1) := by decide +kernel
theorem dX4_readLine_97 : decode cX4_readLine 97 = .ok (.aload_n 0, 1) := by decide +kernel
theorem dX4_readLine_98 : decode cX4_readLine 98 = .ok (.invokevirtual 73, 3) := by decide +kernel
theorem dX4_readLine_101 : decode cX4_readLine 101 = .ok (.ireturn, 1) := by decide +kernel
theorem dX4_readLine_102 : decode cX4_readLine 102 = .ok (.aload_n 0, 1) := by decide +kernel
theorem dX4_readLine_103 : decode cX4_readLine 103 = .ok (.invokevirtual 76, 3) := by decide +kernel
theorem dX4_readLine_106 : decode cX4_readLine 106 = .ok (.ireturn, 1) := by decide +kernel
theorem dX4_readLine_107 : decode cX4_readLine 107 = .ok (.aload_n 0, 1) := by decide +kernel
theorem dX4_readLine_108 : decode cX4_readLine 108 = .ok (.iconst 2, 1) := by decide +kernel
theorem dX4_readLine_109 : decode cX4_readLine 109 = .ok (.invokevirtual 79, 3) := by decide +kernel
theorem dX4_readLine_112 : decode cX4_readLine 112 = .ok (.ireturn, 1) := by decide +kernel
theorem dX4_pass_0 : decode cX4_pass 0 = .ok (.aload_n 0, 1) := by decide +kernel
theorem dX4_pass_1 : decode cX4_pass 1 = .ok (.getfield 40, 3) := by decide +kernel
theorem dX4_pass_4 : decode cX4_pass 4 = .ok (.getfield 53, 3) := by decide +kernel
theorem dX4_pass_7 : decode cX4_pass 7 = .ok (.iload_n 1, 1) := by decide +kernel
theorem dX4_pass_8 : decode cX4_pass 8 = .ok (.if_icmp .eq 9, 3) := by decide +kernel
theorem dX4_pass_11 : decode cX4_pass 11 = .ok (.aload_n 0, 1) := by decide +kernel
theorem dX4_pass_12 : decode cX4_pass 12 = .ok (.iconst 2, 1) := by decide +kernel
theorem dX4_pass_13 : decode cX4_pass 13 = .ok (.invokevirtual 79, 3) := by decide +kernel
theorem dX4_pass_16 : decode cX4_pass 16 = .ok (.ireturn, 1) := by decide +kernel
theorem dX4_pass_17 : decode cX4_pass 17 = .ok (.aload_n 0, 1) := by decide +kernel
theorem dX4_pass_18 : decode cX4_pass 18 = .ok (.getfield 40, 3) := by decide +kernel
theorem dX4_pass_21 : decode cX4_pass 21 = .ok (.invokevirtual 83, 3) := by decide +kernel
theorem dX4_pass_24 : decode cX4_pass 24 = .ok (.iconst 1, 1) := by decide +kernel
theorem dX4_pass_25 : decode cX4_pass 25 = .ok (.ireturn, 1) := by decide +kernel
theorem dX4_passNumber_0 : decode cX4_passNumber 0 = .ok (.aload_n 0, 1) := by decide +kernel
theorem dX4_passNumber_1 : decode cX4_passNumber 1 = .ok (.getfield 40, 3) := by decide +kernel
theorem dX4_passNumber_4 : decode cX4_passNumber 4 = .ok (.getfield 53, 3) := by decide +kernel
theorem dX4_passNumber_7 : decode cX4_passNumber 7 = .ok (.bipush 20, 2) := by decide +kernel
theorem dX4_passNumber_9 : decode cX4_passNumber 9 = .ok (.if_icmp .eq 11, 3) := by decide +kernel
theorem dX4_passNumber_12 : decode cX4_passNumber 12 = .ok (.aload_n 0, 1) := by decide +kernel
theorem dX4_passNumber_13 : decode cX4_passNumber 13 = .ok (.iconst 2, 1) := by decide +kernel
theorem dX4_passNumber_14 : decode cX4_passNumber 14 = .ok (.invokevirtual 79, 3) := by decide +kernel
theorem dX4_passNumber_17 : decode cX4_passNumber 17 = .ok (.pop, 1) := by decide +kernel
theorem dX4_passNumber_18 : decode cX4_passNumber 18 = .ok (.iconst (-1), 1) := by decide +kernel
theorem dX4_passNumber_19 : decode cX4_passNumber 19 = .ok (.ireturn, 1) := by decide +kernel
theorem dX4_passNumber_20 : decode cX4_passNumber 20 = .ok (.aload_n 0, 1) := by decide +kernel
theorem dX4_passNumber_21 : decode cX4_passNumber 21 = .ok (.getfield 40, 3) := by decide +kernel
theorem dX4_passNumber_24 : decode cX4_passNumber 24 = .ok (.getfield 86, 3) := by decide +kernel
theorem dX4_passNumber_27 : decode cX4_passNumber 27 = .ok (.istore_n 3, 1) := by decide +kernel
theorem dX4_passNumber_28 : decode cX4_passNumber 28 = .ok (.iload_n 3, 1) := by decide +kernel
theorem dX4_passNumber_29 : decode cX4_passNumber 29 = .ok (.iload_n 1, 1) := by decide +kernel
theorem dX4_passNumber_30 : decode cX4_passNumber 30 = .ok (.if_icmp .lt 8, 3) := by decide +kernel
theorem dX4_passNumber_33 : decode cX4_passNumber 33 = .ok (.iload_n 3, 1) := by decide +kernel
theorem dX4_passNumber_34 : decode cX4_passNumber 34 = .ok (.iload_n 2, 1) := by decide +kernel
theorem dX4_passNumber_35 : decode cX4_passNumber 35 = .ok (.if_icmp .le 11, 3) := by decide +kernel
theorem dX4_passNumber_38 : decode cX4_passNumber 38 = .ok (.aload_n 0, 1) := by decide +kernel
theorem dX4_passNumber_39 : decode cX4_passNumber 39 = .ok (.iconst 4, 1) := by decide +kernel
theorem dX4_passNumber_40 : decode cX4_passNumber 40 = .ok (.invokevirtual 79, 3) := by decide +kernel
theorem dX4_passNumber_43 : decode cX4_passNumber 43 = .ok (.pop, 1) := by decide +kernel
theorem dX4_passNumber_44 : decode cX4_passNumber 44 = .ok (.iconst (-1), 1) := by decide +kernel
theorem dX4_passNumber_45 : decode cX4_passNumber 45 = .ok (.ireturn, 1) := by decide +kernel
theorem dX4_passNumber_46 : decode cX4_passNumber 46 = .ok (.aload_n 0, 1) := by decide +kernel
theorem dX4_passNumber_47 : decode cX4_passNumber 47 = .ok (.getfield 40, 3) := by decide +kernel
theorem dX4_passNumber_50 : decode cX4_passNumber 50 = .ok (.invokevirtual 83, 3) := by decide +kernel
theorem dX4_passNumber_53 : decode cX4_passNumber 53 = .ok (.iload_n 3, 1) := by decide +kernel
theorem dX4_passNumber_54 : decode cX4_passNumber 54 = .ok (.ireturn, 1) := by decide +kernel
theorem dX4_namedFigure_0 : decode cX4_namedFigure 0 = .ok (.aload_n 0, 1) := by decide +kernel
theorem dX4_namedFigure_1 : decode cX4_namedFigure 1 = .ok (.getfield 40, 3) := by decide +kernel
theorem dX4_namedFigure_4 : decode cX4_namedFigure 4 = .ok (.getfield 53, 3) := by decide +kernel
theorem dX4_namedFigure_7 : decode cX4_namedFigure 7 = .ok (.bipush 19, 2) := by decide +kernel
theorem dX4_namedFigure_9 : decode cX4_namedFigure 9 = .ok (.if_icmp .eq 11, 3) := by decide +kernel
theorem dX4_namedFigure_12 : decode cX4_namedFigure 12 = .ok (.aload_n 0, 1) := by decide +kernel
theorem dX4_namedFigure_13 : decode cX4_namedFigure 13 = .ok (.iconst 2, 1) := by decide +kernel
theorem dX4_namedFigure_14 : decode cX4_namedFigure 14 = .ok (.invokevirtual 79, 3) := by decide +kernel
theorem dX4_namedFigure_17 : decode cX4_namedFigure 17 = .ok (.pop, 1) := by decide +kernel
theorem dX4_namedFigure_18 : decode cX4_namedFigure 18 = .ok (.iconst (-1), 1) := by decide +kernel
theorem dX4_namedFigure_19 : decode cX4_namedFigure 19 = .ok (.ireturn, 1) := by decide +kernel
theorem dX4_namedFigure_20 : decode cX4_namedFigure 20 = .ok (.aload_n 0, 1) := by decide +kernel
theorem dX4_namedFigure_21 : decode cX4_namedFigure 21 = .ok (.getfield 12, 3) := by decide +kernel
theorem dX4_namedFigure_24 : decode cX4_namedFigure 24 = .ok (.aload_n 0, 1) := by decide +kernel
theorem dX4_namedFigure_25 : decode cX4_namedFigure 25 = .ok (.getfield 40, 3) := by decide +kernel
theorem dX4_namedFigure_28 : decode cX4_namedFigure 28 = .ok (.getfield 89, 3) := by decide +kernel
theorem dX4_namedFigure_31 : decode cX4_namedFigure 31 = .ok (.invokevirtual 93, 3) := by decide +kernel
theorem dX4_namedFigure_34 : decode cX4_namedFigure 34 = .ok (.istore_n 1, 1) := by decide +kernel
theorem dX4_namedFigure_35 : decode cX4_namedFigure 35 = .ok (.iload_n 1, 1) := by decide +kernel
theorem dX4_namedFigure_36 : decode cX4_namedFigure 36 = .ok (.iconst (-1), 1) := by decide +kernel
theorem dX4_namedFigure_37 : decode cX4_namedFigure 37 = .ok (.if_icmp .ne 9, 3) := by decide +kernel
theorem dX4_namedFigure_40 : decode cX4_namedFigure 40 = .ok (.aload_n 0, 1) := by decide +kernel
theorem dX4_namedFigure_41 : decode cX4_namedFigure 41 = .ok (.iconst 5, 1) := by decide +kernel
theorem dX4_namedFigure_42 : decode cX4_namedFigure 42 = .ok (.invokevirtual 79, 3) := by decide +kernel
theorem dX4_namedFigure_45 : decode cX4_namedFigure 45 = .ok (.pop, 1) := by decide +kernel
theorem dX4_namedFigure_46 : decode cX4_namedFigure 46 = .ok (.iload_n 1, 1) := by decide +kernel
theorem dX4_namedFigure_47 : decode cX4_namedFigure 47 = .ok (.ireturn, 1) := by decide +kernel
theorem dX4_passFigure_0 : decode cX4_passFigure 0 = .ok (.aload_n 0, 1) := by decide +kernel
theorem dX4_passFigure_1 : decode cX4_passFigure 1 = .ok (.invokevirtual 97, 3) := by decide +kernel
theorem dX4_passFigure_4 : decode cX4_passFigure 4 = .ok (.istore_n 1, 1) := by decide +kernel
theorem dX4_passFigure_5 : decode cX4_passFigure 5 = .ok (.iload_n 1, 1) := by decide +kernel
theorem dX4_passFigure_6 : decode cX4_passFigure 6 = .ok (.iconst (-1), 1) := by decide +kernel
theorem dX4_passFigure_7 : decode cX4_passFigure 7 = .ok (.if_icmp .eq 10, 3) := by decide +kernel
theorem dX4_passFigure_10 : decode cX4_passFigure 10 = .ok (.aload_n 0, 1) := by decide +kernel
theorem dX4_passFigure_11 : decode cX4_passFigure 11 = .ok (.getfield 40, 3) := by decide +kernel
theorem dX4_passFigure_14 : decode cX4_passFigure 14 = .ok (.invokevirtual 83, 3) := by decide +kernel
theorem dX4_passFigure_17 : decode cX4_passFigure 17 = .ok (.iload_n 1, 1) := by decide +kernel
theorem dX4_passFigure_18 : decode cX4_passFigure 18 = .ok (.ireturn, 1) := by decide +kernel
theorem dX4_passTribe_0 : decode cX4_passTribe 0 = .ok (.aload_n 0, 1) := by decide +kernel
theorem dX4_passTribe_1 : decode cX4_passTribe 1 = .ok (.getfield 40, 3) := by decide +kernel
theorem dX4_passTribe_4 : decode cX4_passTribe 4 = .ok (.getfield 53, 3) := by decide +kernel
theorem dX4_passTribe_7 : decode cX4_passTribe 7 = .ok (.bipush 19, 2) := by decide +kernel
theorem dX4_passTribe_9 : decode cX4_passTribe 9 = .ok (.if_icmp .eq 11, 3) := by decide +kernel
theorem dX4_passTribe_12 : decode cX4_passTribe 12 = .ok (.aload_n 0, 1) := by decide +kernel
theorem dX4_passTribe_13 : decode cX4_passTribe 13 = .ok (.iconst 2, 1) := by decide +kernel
theorem dX4_passTribe_14 : decode cX4_passTribe 14 = .ok (.invokevirtual 79, 3) := by decide +kernel
theorem dX4_passTribe_17 : decode cX4_passTribe 17 = .ok (.pop, 1) := by decide +kernel
theorem dX4_passTribe_18 : decode cX4_passTribe 18 = .ok (.iconst (-1), 1) := by decide +kernel
theorem dX4_passTribe_19 : decode cX4_passTribe 19 = .ok (.ireturn, 1) := by decide +kernel
theorem dX4_passTribe_20 : decode cX4_passTribe 20 = .ok (.aload_n 0, 1) := by decide +kernel
theorem dX4_passTribe_21 : decode cX4_passTribe 21 = .ok (.getfield 12, 3) := by decide +kernel
theorem dX4_passTribe_24 : decode cX4_passTribe 24 = .ok (.aload_n 0, 1) := by decide +kernel
theorem dX4_passTribe_25 : decode cX4_passTribe 25 = .ok (.getfield 40, 3) := by decide +kernel
theorem dX4_passTribe_28 : decode cX4_passTribe 28 = .ok (.getfield 89, 3) := by decide +kernel
theorem dX4_passTribe_31 : decode cX4_passTribe 31 = .ok (.invokevirtual 101, 3) := by decide +kernel
theorem dX4_passTribe_34 : decode cX4_passTribe 34 = .ok (.istore_n 1, 1) := by decide +kernel
theorem dX4_passTribe_35 : decode cX4_passTribe 35 = .ok (.iload_n 1, 1) := by decide +kernel
theorem dX4_passTribe_36 : decode cX4_passTribe 36 = .ok (.iconst (-1), 1) := by decide +kernel
theorem dX4_passTribe_37 : decode cX4_passTribe 37 = .ok (.if_icmp .ne 11, 3) := by decide +kernel
theorem dX4_passTribe_40 : decode cX4_passTribe 40 = .ok (.aload_n 0, 1) := by decide +kernel
theorem dX4_passTribe_41 : decode cX4_passTribe 41 = .ok (.iconst 5, 1) := by decide +kernel
theorem dX4_passTribe_42 : decode cX4_passTribe 42 = .ok (.invokevirtual 79, 3) := by decide +kernel
theorem dX4_passTribe_45 : decode cX4_passTribe 45 = .ok (.pop, 1) := by decide +kernel
theorem dX4_passTribe_46 : decode cX4_passTribe 46 = .ok (.iconst (-1), 1) := by decide +kernel
theorem dX4_passTribe_47 : decode cX4_passTribe 47 = .ok (.ireturn, 1) := by decide +kernel
theorem dX4_passTribe_48 : decode cX4_passTribe 48 = .ok (.aload_n 0, 1) := by decide +kernel
theorem dX4_passTribe_49 : decode cX4_passTribe 49 = .ok (.getfield 40, 3) := by decide +kernel
theorem dX4_passTribe_52 : decode cX4_passTribe 52 = .ok (.invokevirtual 83, 3) := by decide +kernel
theorem dX4_passTribe_55 : decode cX4_passTribe 55 = .ok (.iload_n 1, 1) := by decide +kernel
theorem dX4_passTribe_56 : decode cX4_passTribe 56 = .ok (.ireturn, 1) := by decide +kernel
theorem dX4_readFigure_0 : decode cX4_readFigure 0 = .ok (.aload_n 0, 1) := by decide +kernel
theorem dX4_readFigure_1 : decode cX4_readFigure 1 = .ok (.getfield 12, 3) := by decide +kernel
theorem dX4_readFigure_4 : decode cX4_readFigure 4 = .ok (.getfield 104, 3) := by decide +kernel
theorem dX4_readFigure_7 : decode cX4_readFigure 7 = .ok (.bipush 8, 2) := by decide +kernel
theorem dX4_readFigure_9 : decode cX4_readFigure 9 = .ok (.if_icmp .lt 9, 3) := by decide +kernel
theorem dX4_readFigure_12 : decode cX4_readFigure 12 = .ok (.aload_n 0, 1) := by decide +kernel
theorem dX4_readFigure_13 : decode cX4_readFigure 13 = .ok (.iconst 2, 1) := by decide +kernel
theorem dX4_readFigure_14 : decode cX4_readFigure 14 = .ok (.invokevirtual 79, 3) := by decide +kernel
theorem dX4_readFigure_17 : decode cX4_readFigure 17 = .ok (.ireturn, 1) := by decide +kernel
theorem dX4_readFigure_18 : decode cX4_readFigure 18 = .ok (.aload_n 0, 1) := by decide +kernel
theorem dX4_readFigure_19 : decode cX4_readFigure 19 = .ok (.getfield 40, 3) := by decide +kernel
theorem dX4_readFigure_22 : decode cX4_readFigure 22 = .ok (.invokevirtual 83, 3) := by decide +kernel
theorem dX4_readFigure_25 : decode cX4_readFigure 25 = .ok (.aload_n 0, 1) := by decide +kernel
theorem dX4_readFigure_26 : decode cX4_readFigure 26 = .ok (.getfield 40, 3) := by decide +kernel
theorem dX4_readFigure_29 : decode cX4_readFigure 29 = .ok (.getfield 53, 3) := by decide +kernel
theorem dX4_readFigure_32 : decode cX4_readFigure 32 = .ok (.bipush 19, 2) := by decide +kernel
theorem dX4_readFigure_34 : decode cX4_readFigure 34 = .ok (.if_icmp .eq 9, 3) := by decide +kernel
theorem dX4_readFigure_37 : decode cX4_readFigure 37 = .ok (.aload_n 0, 1) := by decide +kernel
theorem dX4_readFigure_38 : decode cX4_readFigure 38 = .ok (.iconst 2, 1) := by decide +kernel
theorem dX4_readFigure_39 : decode cX4_readFigure 39 = .ok (.invokevirtual 79, 3) := by decide +kernel
theorem dX4_readFigure_42 : decode cX4_readFigure 42 = .ok (.ireturn, 1) := by decide +kernel
theorem dX4_readFigure_43 : decode cX4_readFigure 43 = .ok (.aload_n 0, 1) := by decide +kernel
theorem dX4_readFigure_44 : decode cX4_readFigure 44 = .ok (.getfield 12, 3) := by decide +kernel
theorem dX4_readFigure_47 : decode cX4_readFigure 47 = .ok (.aload_n 0, 1) := by decide +kernel
theorem dX4_readFigure_48 : decode cX4_readFigure 48 = .ok (.getfield 40, 3) := by decide +kernel
theorem dX4_readFigure_51 : decode cX4_readFigure 51 = .ok (.getfield 89, 3) := by decide +kernel
theorem dX4_readFigure_54 : decode cX4_readFigure 54 = .ok (.invokevirtual 93, 3) := by decide +kernel
theorem dX4_readFigure_57 : decode cX4_readFigure 57 = .ok (.iconst (-1), 1) := by decide +kernel
theorem dX4_readFigure_58 : decode cX4_readFigure 58 = .ok (.if_icmp .eq 9, 3) := by decide +kernel
theorem dX4_readFigure_61 : decode cX4_readFigure 61 = .ok (.aload_n 0, 1) := by decide +kernel
theorem dX4_readFigure_62 : decode cX4_readFigure 62 = .ok (.iconst 3, 1) := by decide +kernel
theorem dX4_readFigure_63 : decode cX4_readFigure 63 = .ok (.invokevirtual 79, 3) := by decide +kernel
theorem dX4_readFigure_66 : decode cX4_readFigure 66 = .ok (.ireturn, 1) := by decide +kernel
theorem dX4_readFigure_67 : decode cX4_readFigure 67 = .ok (.aload_n 0, 1) := by decide +kernel
theorem dX4_readFigure_68 : decode cX4_readFigure 68 = .ok (.getfield 12, 3) := by decide +kernel
theorem dX4_readFigure_71 : decode cX4_readFigure 71 = .ok (.aload_n 0, 1) := by decide +kernel
theorem dX4_readFigure_72 : decode cX4_readFigure 72 = .ok (.getfield 40, 3) := by decide +kernel
theorem dX4_readFigure_75 : decode cX4_readFigure 75 = .ok (.getfield 89, 3) := by decide +kernel
theorem dX4_readFigure_78 : decode cX4_readFigure 78 = .ok (.invokevirtual 107, 3) := by decide +kernel
theorem dX4_readFigure_81 : decode cX4_readFigure 81 = .ok (.aload_n 0, 1) := by decide +kernel
theorem dX4_readFigure_82 : decode cX4_readFigure 82 = .ok (.getfield 40, 3) := by decide +kernel
theorem dX4_readFigure_85 : decode cX4_readFigure 85 = .ok (.invokevirtual 83, 3) := by decide +kernel
theorem dX4_readFigure_88 : decode cX4_readFigure 88 = .ok (.aload_n 0, 1) := by decide +kernel
theorem dX4_readFigure_89 : decode cX4_readFigure 89 = .ok (.bipush 59, 2) := by decide +kernel
theorem dX4_readFigure_91 : decode cX4_readFigure 91 = .ok (.invokevirtual 111, 3) := by decide +kernel
theorem dX4_readFigure_94 : decode cX4_readFigure 94 = .ok (.ireturn, 1) := by decide +kernel
theorem dX4_readTribe_0 : decode cX4_readTribe 0 = .ok (.aload_n 0, 1) := by decide +kernel
theorem dX4_readTribe_1 : decode cX4_readTribe 1 = .ok (.getfield 12, 3) := by decide +kernel
theorem dX4_readTribe_4 : decode cX4_readTribe 4 = .ok (.getfield 114, 3) := by decide +kernel
theorem dX4_readTribe_7 : decode cX4_readTribe 7 = .ok (.iconst 5, 1) := by decide +kernel
theorem dX4_readTribe_8 : decode cX4_readTribe 8 = .ok (.if_icmp .lt 9, 3) := by decide +kernel
theorem dX4_readTribe_11 : decode cX4_readTribe 11 = .ok (.aload_n 0, 1) := by decide +kernel
theorem dX4_readTribe_12 : decode cX4_readTribe 12 = .ok (.iconst 2, 1) := by decide +kernel
theorem dX4_readTribe_13 : decode cX4_readTribe 13 = .ok (.invokevirtual 79, 3) := by decide +kernel
theorem dX4_readTribe_16 : decode cX4_readTribe 16 = .ok (.ireturn, 1) := by decide +kernel
theorem dX4_readTribe_17 : decode cX4_readTribe 17 = .ok (.aload_n 0, 1) := by decide +kernel
theorem dX4_readTribe_18 : decode cX4_readTribe 18 = .ok (.getfield 40, 3) := by decide +kernel
theorem dX4_readTribe_21 : decode cX4_readTribe 21 = .ok (.invokevirtual 83, 3) := by decide +kernel
theorem dX4_readTribe_24 : decode cX4_readTribe 24 = .ok (.aload_n 0, 1) := by decide +kernel
theorem dX4_readTribe_25 : decode cX4_readTribe 25 = .ok (.getfield 40, 3) := by decide +kernel
theorem dX4_readTribe_28 : decode cX4_readTribe 28 = .ok (.getfield 53, 3) := by decide +kernel
theorem dX4_readTribe_31 : decode cX4_readTribe 31 = .ok (.bipush 19, 2) := by decide +kernel
theorem dX4_readTribe_33 : decode cX4_readTribe 33 = .ok (.if_icmp .eq 9, 3) := by decide +kernel
theorem dX4_readTribe_36 : decode cX4_readTribe 36 = .ok (.aload_n 0, 1) := by decide +kernel
theorem dX4_readTribe_37 : decode cX4_readTribe 37 = .ok (.iconst 2, 1) := by decide +kernel
theorem dX4_readTribe_38 : decode cX4_readTribe 38 = .ok (.invokevirtual 79, 3) := by decide +kernel
theorem dX4_readTribe_41 : decode cX4_readTribe 41 = .ok (.ireturn, 1) := by decide +kernel
theorem dX4_readTribe_42 : decode cX4_readTribe 42 = .ok (.aload_n 0, 1) := by decide +kernel
theorem dX4_readTribe_43 : decode cX4_readTribe 43 = .ok (.getfield 12, 3) := by decide +kernel
theorem dX4_readTribe_46 : decode cX4_readTribe 46 = .ok (.aload_n 0, 1) := by decide +kernel
theorem dX4_readTribe_47 : decode cX4_readTribe 47 = .ok (.getfield 40, 3) := by decide +kernel
theorem dX4_readTribe_50 : decode cX4_readTribe 50 = .ok (.getfield 89, 3) := by decide +kernel
theorem dX4_readTribe_53 : decode cX4_readTribe 53 = .ok (.invokevirtual 101, 3) := by decide +kernel
theorem dX4_readTribe_56 : decode cX4_readTribe 56 = .ok (.iconst (-1), 1) := by decide +kernel
theorem dX4_readTribe_57 : decode cX4_readTribe 57 = .ok (.if_icmp .eq 9, 3) := by decide +kernel
theorem dX4_readTribe_60 : decode cX4_readTribe 60 = .ok (.aload_n 0, 1) := by decide +kernel
theorem dX4_readTribe_61 : decode cX4_readTribe 61 = .ok (.iconst 3, 1) := by decide +kernel
theorem dX4_readTribe_62 : decode cX4_readTribe 62 = .ok (.invokevirtual 79, 3) := by decide +kernel
theorem dX4_readTribe_65 : decode cX4_readTribe 65 = .ok (.ireturn, 1) := by decide +kernel
theorem dX4_readTribe_66 : decode cX4_readTribe 66 = .ok (.aload_n 0, 1) := by decide +kernel
theorem dX4_readTribe_67 : decode cX4_readTribe 67 = .ok (.getfield 40, 3) := by decide +kernel
theorem dX4_readTribe_70 : decode cX4_readTribe 70 = .ok (.getfield 89, 3) := by decide +kernel
theorem dX4_readTribe_73 : decode cX4_readTribe 73 = .ok (.lstore_n 1, 1) := by decide +kernel
theorem dX4_readTribe_74 : decode cX4_readTribe 74 = .ok (.aload_n 0, 1) := by decide +kernel
theorem dX4_readTribe_75 : decode cX4_readTribe 75 = .ok (.getfield 40, 3) := by decide +kernel
theorem dX4_readTribe_78 : decode cX4_readTribe 78 = .ok (.invokevirtual 83, 3) := by decide +kernel
theorem dX4_readTribe_81 : decode cX4_readTribe 81 = .ok (.aload_n 0, 1) := by decide +kernel
theorem dX4_readTribe_82 : decode cX4_readTribe 82 = .ok (.iconst 2, 1) := by decide +kernel
theorem dX4_readTribe_83 : decode cX4_readTribe 83 = .ok (.invokevirtual 111, 3) := by decide +kernel
theorem dX4_readTribe_86 : decode cX4_readTribe 86 = .ok (.ifCond .ne 5, 3) := by decide +kernel
theorem dX4_readTribe_89 : decode cX4_readTribe 89 = .ok (.iconst 0, 1) := by decide +kernel
theorem dX4_readTribe_90 : decode cX4_readTribe 90 = .ok (.ireturn, 1) := by decide +kernel
theorem dX4_readTribe_91 : decode cX4_readTribe 91 = .ok (.aload_n 0, 1) := by decide +kernel
theorem dX4_readTribe_92 : decode cX4_readTribe 92 = .ok (.iconst 0, 1) := by decide +kernel
theorem dX4_readTribe_93 : decode cX4_readTribe 93 = .ok (.bipush 9, 2) := by decide +kernel
theorem dX4_readTribe_95 : decode cX4_readTribe 95 = .ok (.invokevirtual 117, 3) := by decide +kernel
theorem dX4_readTribe_98 : decode cX4_readTribe 98 = .ok (.istore_n 3, 1) := by decide +kernel
theorem dX4_readTribe_99 : decode cX4_readTribe 99 = .ok (.iload_n 3, 1) := by decide +kernel
theorem dX4_readTribe_100 : decode cX4_readTribe 100 = .ok (.iconst (-1), 1) := by decide +kernel
theorem dX4_readTribe_101 : decode cX4_readTribe 101 = .ok (.if_icmp .ne 7, 3) := by decide +kernel
theorem dX4_readTribe_104 : decode cX4_readTribe 104 = .ok (.iconst (-1), 1) := by decide +kernel
theorem dX4_readTribe_105 : decode cX4_readTribe 105 = .ok (.goto 7, 3) := by decide +kernel
theorem dX4_readTribe_108 : decode cX4_readTribe 108 = .ok (.aload_n 0, 1) := by decide +kernel
theorem dX4_readTribe_109 : decode cX4_readTribe 109 = .ok (.invokevirtual 121, 3) := by decide +kernel
theorem dX4_readTribe_112 : decode cX4_readTribe 112 = .ok (.istore 4, 2) := by decide +kernel
theorem dX4_readTribe_114 : decode cX4_readTribe 114 = .ok (.iload 4, 2) := by decide +kernel
theorem dX4_readTribe_116 : decode cX4_readTribe 116 = .ok (.iconst (-1), 1) := by decide +kernel
theorem dX4_readTribe_117 : decode cX4_readTribe 117 = .ok (.if_icmp .ne 5, 3) := by decide +kernel
theorem dX4_readTribe_120 : decode cX4_readTribe 120 = .ok (.iconst 0, 1) := by decide +kernel
theorem dX4_readTribe_121 : decode cX4_readTribe 121 = .ok (.ireturn, 1) := by decide +kernel
theorem dX4_readTribe_122 : decode cX4_readTribe 122 = .ok (.aload_n 0, 1) := by decide +kernel
theorem dX4_readTribe_123 : decode cX4_readTribe 123 = .ok (.getfield 40, 3) := by decide +kernel
theorem dX4_readTribe_126 : decode cX4_readTribe 126 = .ok (.getfield 53, 3) := by decide +kernel
theorem dX4_readTribe_129 : decode cX4_readTribe 129 = .ok (.iconst 4, 1) := by decide +kernel
theorem dX4_readTribe_130 : decode cX4_readTribe 130 = .ok (.if_icmp .ne 7, 3) := by decide +kernel
theorem dX4_readTribe_133 : decode cX4_readTribe 133 = .ok (.iconst 1, 1) := by decide +kernel
theorem dX4_readTribe_134 : decode cX4_readTribe 134 = .ok (.goto 4, 3) := by decide +kernel
theorem dX4_readTribe_137 : decode cX4_readTribe 137 = .ok (.iconst 0, 1) := by decide +kernel
theorem dX4_readTribe_138 : decode cX4_readTribe 138 = .ok (.istore 5, 2) := by decide +kernel
theorem dX4_readTribe_140 : decode cX4_readTribe 140 = .ok (.iload 5, 2) := by decide +kernel
theorem dX4_readTribe_142 : decode cX4_readTribe 142 = .ok (.ifCond .eq 10, 3) := by decide +kernel
theorem dX4_readTribe_145 : decode cX4_readTribe 145 = .ok (.aload_n 0, 1) := by decide +kernel
theorem dX4_readTribe_146 : decode cX4_readTribe 146 = .ok (.getfield 40, 3) := by decide +kernel
theorem dX4_readTribe_149 : decode cX4_readTribe 149 = .ok (.invokevirtual 83, 3) := by decide +kernel
theorem dX4_readTribe_152 : decode cX4_readTribe 152 = .ok (.aload_n 0, 1) := by decide +kernel
theorem dX4_readTribe_153 : decode cX4_readTribe 153 = .ok (.getfield 12, 3) := by decide +kernel
theorem dX4_readTribe_156 : decode cX4_readTribe 156 = .ok (.lload_n 1, 1) := by decide +kernel
theorem dX4_readTribe_157 : decode cX4_readTribe 157 = .ok (.iload_n 3, 1) := by decide +kernel
theorem dX4_readTribe_158 : decode cX4_readTribe 158 = .ok (.iload 4, 2) := by decide +kernel
theorem dX4_readTribe_160 : decode cX4_readTribe 160 = .ok (.iload 5, 2) := by decide +kernel
theorem dX4_readTribe_162 : decode cX4_readTribe 162 = .ok (.invokevirtual 124, 3) := by decide +kernel
theorem dX4_readTribe_165 : decode cX4_readTribe 165 = .ok (.aload_n 0, 1) := by decide +kernel
theorem dX4_readTribe_166 : decode cX4_readTribe 166 = .ok (.bipush 59, 2) := by decide +kernel
theorem dX4_readTribe_168 : decode cX4_readTribe 168 = .ok (.invokevirtual 111, 3) := by decide +kernel
theorem dX4_readTribe_171 : decode cX4_readTribe 171 = .ok (.ireturn, 1) := by decide +kernel
theorem dX4_passStiff_0 : decode cX4_passStiff 0 = .ok (.iconst 0, 1) := by decide +kernel
theorem dX4_passStiff_1 : decode cX4_passStiff 1 = .ok (.istore_n 1, 1) := by decide +kernel
theorem dX4_passStiff_2 : decode cX4_passStiff 2 = .ok (.iconst 0, 1) := by decide +kernel
theorem dX4_passStiff_3 : decode cX4_passStiff 3 = .ok (.istore_n 2, 1) := by decide +kernel
theorem dX4_passStiff_4 : decode cX4_passStiff 4 = .ok (.iload_n 2, 1) := by decide +kernel
theorem dX4_passStiff_5 : decode cX4_passStiff 5 = .ok (.bipush 10, 2) := by decide +kernel
theorem dX4_passStiff_7 : decode cX4_passStiff 7 = .ok (.if_icmp .gt 94, 3) := by decide +kernel
theorem dX4_passStiff_10 : decode cX4_passStiff 10 = .ok (.aload_n 0, 1) := by decide +kernel
theorem dX4_passStiff_11 : decode cX4_passStiff 11 = .ok (.getfield 40, 3) := by decide +kernel
theorem dX4_passStiff_14 : decode cX4_passStiff 14 = .ok (.getfield 53, 3) := by decide +kernel
theorem dX4_passStiff_17 : decode cX4_passStiff 17 = .ok (.iconst 3, 1) := by decide +kernel
theorem dX4_passStiff_18 : decode cX4_passStiff 18 = .ok (.if_icmp .ne 83, 3) := by decide +kernel
theorem dX4_passStiff_21 : decode cX4_passStiff 21 = .ok (.aload_n 0, 1) := by decide +kernel
theorem dX4_passStiff_22 : decode cX4_passStiff 22 = .ok (.getfield 40, 3) := by decide +kernel
theorem dX4_passStiff_25 : decode cX4_passStiff 25 = .ok (.invokevirtual 83, 3) := by decide +kernel
theorem dX4_passStiff_28 : decode cX4_passStiff 28 = .ok (.aload_n 0, 1) := by decide +kernel
theorem dX4_passStiff_29 : decode cX4_passStiff 29 = .ok (.getfield 40, 3) := by decide +kernel
theorem dX4_passStiff_32 : decode cX4_passStiff 32 = .ok (.getfield 53, 3) := by decide +kernel
theorem dX4_passStiff_35 : decode cX4_passStiff 35 = .ok (.bipush 20, 2) := by decide +kernel
theorem dX4_passStiff_37 : decode cX4_passStiff 37 = .ok (.if_icmp .ne 37, 3) := by decide +kernel
theorem dX4_passStiff_40 : decode cX4_passStiff 40 = .ok (.aload_n 0, 1) := by decide +kernel
theorem dX4_passStiff_41 : decode cX4_passStiff 41 = .ok (.getfield 40, 3) := by decide +kernel
theorem dX4_passStiff_44 : decode cX4_passStiff 44 = .ok (.getfield 86, 3) := by decide +kernel
theorem dX4_passStiff_47 : decode cX4_passStiff 47 = .ok (.bipush 10, 2) := by decide +kernel
theorem dX4_passStiff_49 : decode cX4_passStiff 49 = .ok (.if_icmp .ge 25, 3) := by decide +kernel
theorem dX4_passStiff_52 : decode cX4_passStiff 52 = .ok (.iload_n 1, 1) := by decide +kernel
theorem dX4_passStiff_53 : decode cX4_passStiff 53 = .ok (.aload_n 0, 1) := by decide +kernel
theorem dX4_passStiff_54 : decode cX4_passStiff 54 = .ok (.getfield 40, 3) := by decide +kernel
theorem dX4_passStiff_57 : decode cX4_passStiff 57 = .ok (.getfield 86, 3) := by decide +kernel
theorem dX4_passStiff_60 : decode cX4_passStiff 60 = .ok (.ishr, 1) := by decide +kernel
theorem dX4_passStiff_61 : decode cX4_passStiff 61 = .ok (.iconst 1, 1) := by decide +kernel
theorem dX4_passStiff_62 : decode cX4_passStiff 62 = .ok (.iand, 1) := by decide +kernel
theorem dX4_passStiff_63 : decode cX4_passStiff 63 = .ok (.ifCond .eq 11, 3) := by decide +kernel
theorem dX4_passStiff_66 : decode cX4_passStiff 66 = .ok (.aload_n 0, 1) := by decide +kernel
theorem dX4_passStiff_67 : decode cX4_passStiff 67 = .ok (.iconst 3, 1) := by decide +kernel
theorem dX4_passStiff_68 : decode cX4_passStiff 68 = .ok (.invokevirtual 79, 3) := by decide +kernel
theorem dX4_passStiff_71 : decode cX4_passStiff 71 = .ok (.pop, 1) := by decide +kernel
theorem dX4_passStiff_72 : decode cX4_passStiff 72 = .ok (.iconst (-1), 1) := by decide +kernel
theorem dX4_passStiff_73 : decode cX4_passStiff 73 = .ok (.ireturn, 1) := by decide +kernel
theorem dX4_passStiff_74 : decode cX4_passStiff 74 = .ok (.aload_n 0, 1) := by decide +kernel
theorem dX4_passStiff_75 : decode cX4_passStiff 75 = .ok (.iconst 0, 1) := by decide +kernel
theorem dX4_passStiff_76 : decode cX4_passStiff 76 = .ok (.bipush 9, 2) := by decide +kernel
theorem dX4_passStiff_78 : decode cX4_passStiff 78 = .ok (.invokevirtual 117, 3) := by decide +kernel
theorem dX4_passStiff_81 : decode cX4_passStiff 81 = .ok (.istore_n 3, 1) := by decide +kernel
theorem dX4_passStiff_82 : decode cX4_passStiff 82 = .ok (.iload_n 3, 1) := by decide +kernel
theorem dX4_passStiff_83 : decode cX4_passStiff 83 = .ok (.iconst (-1), 1) := by decide +kernel
theorem dX4_passStiff_84 : decode cX4_passStiff 84 = .ok (.if_icmp .ne 5, 3) := by decide +kernel
theorem dX4_passStiff_87 : decode cX4_passStiff 87 = .ok (.iconst (-1), 1) := by decide +kernel
theorem dX4_passStiff_88 : decode cX4_passStiff 88 = .ok (.ireturn, 1) := by decide +kernel
theorem dX4_passStiff_89 : decode cX4_passStiff 89 = .ok (.iload_n 1, 1) := by decide +kernel
theorem dX4_passStiff_90 : decode cX4_passStiff 90 = .ok (.iconst 1, 1) := by decide +kernel
theorem dX4_passStiff_91 : decode cX4_passStiff 91 = .ok (.iload_n 3, 1) := by decide +kernel
theorem dX4_passStiff_92 : decode cX4_passStiff 92 = .ok (.ishl, 1) := by decide +kernel
theorem dX4_passStiff_93 : decode cX4_passStiff 93 = .ok (.ior, 1) := by decide +kernel
theorem dX4_passStiff_94 : decode cX4_passStiff 94 = .ok (.istore_n 1, 1) := by decide +kernel
theorem dX4_passStiff_95 : decode cX4_passStiff 95 = .ok (.iinc 2 1, 3) := by decide +kernel
theorem dX4_passStiff_98 : decode cX4_passStiff 98 = .ok (.goto (-94), 3) := by decide +kernel
theorem dX4_passStiff_101 : decode cX4_passStiff 101 = .ok (.iload_n 1, 1) := by decide +kernel
theorem dX4_passStiff_102 : decode cX4_passStiff 102 = .ok (.ireturn, 1) := by decide +kernel
theorem dX4_readMove_0 : decode cX4_readMove 0 = .ok (.aload_n 0, 1) := by decide +kernel
theorem dX4_readMove_1 : decode cX4_readMove 1 = .ok (.getfield 12, 3) := by decide +kernel
theorem dX4_readMove_4 : decode cX4_readMove 4 = .ok (.getfield 128, 3) := by decide +kernel
theorem dX4_readMove_7 : decode cX4_readMove 7 = .ok (.bipush 16, 2) := by decide +kernel
theorem dX4_readMove_9 : decode cX4_readMove 9 = .ok (.if_icmp .lt 9, 3) := by decide +kernel
theorem dX4_readMove_12 : decode cX4_readMove 12 = .ok (.aload_n 0, 1) := by decide +kernel
theorem dX4_readMove_13 : decode cX4_readMove 13 = .ok (.iconst 2, 1) := by decide +kernel
theorem dX4_readMove_14 : decode cX4_readMove 14 = .ok (.invokevirtual 79, 3) := by decide +kernel
theorem dX4_readMove_17 : decode cX4_readMove 17 = .ok (.ireturn, 1) := by decide +kernel
theorem dX4_readMove_18 : decode cX4_readMove 18 = .ok (.aload_n 0, 1) := by decide +kernel
theorem dX4_readMove_19 : decode cX4_readMove 19 = .ok (.getfield 40, 3) := by decide +kernel
theorem dX4_readMove_22 : decode cX4_readMove 22 = .ok (.invokevirtual 83, 3) := by decide +kernel
theorem dX4_readMove_25 : decode cX4_readMove 25 = .ok (.aload_n 0, 1) := by decide +kernel
theorem dX4_readMove_26 : decode cX4_readMove 26 = .ok (.invokevirtual 131, 3) := by decide +kernel
theorem dX4_readMove_29 : decode cX4_readMove 29 = .ok (.istore_n 1, 1) := by decide +kernel
theorem dX4_readMove_30 : decode cX4_readMove 30 = .ok (.iload_n 1, 1) := by decide +kernel
theorem dX4_readMove_31 : decode cX4_readMove 31 = .ok (.iconst (-1), 1) := by decide +kernel
theorem dX4_readMove_32 : decode cX4_readMove 32 = .ok (.if_icmp .ne 7, 3) := by decide +kernel
theorem dX4_readMove_35 : decode cX4_readMove 35 = .ok (.iconst (-1), 1) := by decide +kernel
theorem dX4_readMove_36 : decode cX4_readMove 36 = .ok (.goto 7, 3) := by decide +kernel
theorem dX4_readMove_39 : decode cX4_readMove 39 = .ok (.aload_n 0, 1) := by decide +kernel
theorem dX4_readMove_40 : decode cX4_readMove 40 = .ok (.invokevirtual 131, 3) := by decide +kernel
theorem dX4_readMove_43 : decode cX4_readMove 43 = .ok (.istore_n 2, 1) := by decide +kernel
theorem dX4_readMove_44 : decode cX4_readMove 44 = .ok (.iload_n 2, 1) := by decide +kernel
theorem dX4_readMove_45 : decode cX4_readMove 45 = .ok (.iconst (-1), 1) := by decide +kernel
theorem dX4_readMove_46 : decode cX4_readMove 46 = .ok (.if_icmp .eq 12, 3) := by decide +kernel
theorem dX4_readMove_49 : decode cX4_readMove 49 = .ok (.aload_n 0, 1) := by decide +kernel
theorem dX4_readMove_50 : decode cX4_readMove 50 = .ok (.bipush 6, 2) := by decide +kernel
theorem dX4_readMove_52 : decode cX4_readMove 52 = .ok (.invokevirtual 111, 3) := by decide +kernel
theorem dX4_readMove_55 : decode cX4_readMove 55 = .ok (.ifCond .ne 5, 3) := by decide +kernel
theorem dX4_readMove_58 : decode cX4_readMove 58 = .ok (.iconst 0, 1) := by decide +kernel
theorem dX4_readMove_59 : decode cX4_readMove 59 = .ok (.ireturn, 1) := by decide +kernel
theorem dX4_readMove_60 : decode cX4_readMove 60 = .ok (.aload_n 0, 1) := by decide +kernel
theorem dX4_readMove_61 : decode cX4_readMove 61 = .ok (.iconst 0, 1) := by decide +kernel
theorem dX4_readMove_62 : decode cX4_readMove 62 = .ok (.bipush 9, 2) := by decide +kernel
theorem dX4_readMove_64 : decode cX4_readMove 64 = .ok (.invokevirtual 117, 3) := by decide +kernel
theorem dX4_readMove_67 : decode cX4_readMove 67 = .ok (.istore_n 3, 1) := by decide +kernel
theorem dX4_readMove_68 : decode cX4_readMove 68 = .ok (.iload_n 3, 1) := by decide +kernel
theorem dX4_readMove_69 : decode cX4_readMove 69 = .ok (.iconst (-1), 1) := by decide +kernel
theorem dX4_readMove_70 : decode cX4_readMove 70 = .ok (.if_icmp .eq 12, 3) := by decide +kernel
theorem dX4_readMove_73 : decode cX4_readMove 73 = .ok (.aload_n 0, 1) := by decide +kernel
theorem dX4_readMove_74 : decode cX4_readMove 74 = .ok (.bipush 7, 2) := by decide +kernel
theorem dX4_readMove_76 : decode cX4_readMove 76 = .ok (.invokevirtual 111, 3) := by decide +kernel
theorem dX4_readMove_79 : decode cX4_readMove 79 = .ok (.ifCond .ne 5, 3) := by decide +kernel
theorem dX4_readMove_82 : decode cX4_readMove 82 = .ok (.iconst 0, 1) := by decide +kernel
theorem dX4_readMove_83 : decode cX4_readMove 83 = .ok (.ireturn, 1) := by decide +kernel
theorem dX4_readMove_84 : decode cX4_readMove 84 = .ok (.aload_n 0, 1) := by decide +kernel
theorem dX4_readMove_85 : decode cX4_readMove 85 = .ok (.iconst 0, 1) := by decide +kernel
theorem dX4_readMove_86 : decode cX4_readMove 86 = .ok (.bipush 9, 2) := by decide +kernel
theorem dX4_readMove_88 : decode cX4_readMove 88 = .ok (.invokevirtual 117, 3) := by decide +kernel
theorem dX4_readMove_91 : decode cX4_readMove 91 = .ok (.istore 4, 2) := by decide +kernel
theorem dX4_readMove_93 : decode cX4_readMove 93 = .ok (.iload 4, 2) := by decide +kernel
theorem dX4_readMove_95 : decode cX4_readMove 95 = .ok (.iconst (-1), 1) := by decide +kernel
theorem dX4_readMove_96 : decode cX4_readMove 96 = .ok (.if_icmp .ne 5, 3) := by decide +kernel
theorem dX4_readMove_99 : decode cX4_readMove 99 = .ok (.iconst 0, 1) := by decide +kernel
theorem dX4_readMove_100 : decode cX4_readMove 100 = .ok (.ireturn, 1) := by decide +kernel
theorem dX4_readMove_101 : decode cX4_readMove 101 = .ok (.iconst (-1), 1) := by decide +kernel
theorem dX4_readMove_102 : decode cX4_readMove 102 = .ok (.istore 5, 2) := by decide +kernel
theorem dX4_readMove_104 : decode cX4_readMove 104 = .ok (.aload_n 0, 1) := by decide +kernel
theorem dX4_readMove_105 : decode cX4_readMove 105 = .ok (.getfield 40, 3) := by decide +kernel
theorem dX4_readMove_108 : decode cX4_readMove 108 = .ok (.getfield 53, 3) := by decide +kernel
theorem dX4_readMove_111 : decode cX4_readMove 111 = .ok (.bipush 8, 2) := by decide +kernel
theorem dX4_readMove_113 : decode cX4_readMove 113 = .ok (.if_icmp .ne 24, 3) := by decide +kernel
theorem dX4_readMove_116 : decode cX4_readMove 116 = .ok (.aload_n 0, 1) := by decide +kernel
theorem dX4_readMove_117 : decode cX4_readMove 117 = .ok (.getfield 40, 3) := by decide +kernel
theorem dX4_readMove_120 : decode cX4_readMove 120 = .ok (.invokevirtual 83, 3) := by decide +kernel
theorem dX4_readMove_123 : decode cX4_readMove 123 = .ok (.aload_n 0, 1) := by decide +kernel
theorem dX4_readMove_124 : decode cX4_readMove 124 = .ok (.invokevirtual 131, 3) := by decide +kernel
theorem dX4_readMove_127 : decode cX4_readMove 127 = .ok (.istore 5, 2) := by decide +kernel
theorem dX4_readMove_129 : decode cX4_readMove 129 = .ok (.iload 5, 2) := by decide +kernel
theorem dX4_readMove_131 : decode cX4_readMove 131 = .ok (.iconst (-1), 1) := by decide +kernel
theorem dX4_readMove_132 : decode cX4_readMove 132 = .ok (.if_icmp .ne 5, 3) := by decide +kernel
theorem dX4_readMove_135 : decode cX4_readMove 135 = .ok (.iconst 0, 1) := by decide +kernel
theorem dX4_readMove_136 : decode cX4_readMove 136 = .ok (.ireturn, 1) := by decide +kernel
theorem dX4_readMove_137 : decode cX4_readMove 137 = .ok (.aload_n 0, 1) := by decide +kernel
theorem dX4_readMove_138 : decode cX4_readMove 138 = .ok (.getfield 12, 3) := by decide +kernel
theorem dX4_readMove_141 : decode cX4_readMove 141 = .ok (.iload_n 1, 1) := by decide +kernel
theorem dX4_readMove_142 : decode cX4_readMove 142 = .ok (.iload_n 2, 1) := by decide +kernel
theorem dX4_readMove_143 : decode cX4_readMove 143 = .ok (.iload_n 3, 1) := by decide +kernel
theorem dX4_readMove_144 : decode cX4_readMove 144 = .ok (.iload 4, 2) := by decide +kernel
theorem dX4_readMove_146 : decode cX4_readMove 146 = .ok (.iload 5, 2) := by decide +kernel
theorem dX4_readMove_148 : decode cX4_readMove 148 = .ok (.invokevirtual 134, 3) := by decide +kernel
theorem dX4_readMove_151 : decode cX4_readMove 151 = .ok (.aload_n 0, 1) := by decide +kernel
theorem dX4_readMove_152 : decode cX4_readMove 152 = .ok (.bipush 59, 2) := by decide +kernel
theorem dX4_readMove_154 : decode cX4_readMove 154 = .ok (.invokevirtual 111, 3) := by decide +kernel
theorem dX4_readMove_157 : decode cX4_readMove 157 = .ok (.ireturn, 1) := by decide +kernel
theorem dX4_readWorth_0 : decode cX4_readWorth 0 = .ok (.aload_n 0, 1) := by decide +kernel
theorem dX4_readWorth_1 : decode cX4_readWorth 1 = .ok (.getfield 40, 3) := by decide +kernel
theorem dX4_readWorth_4 : decode cX4_readWorth 4 = .ok (.invokevirtual 83, 3) := by decide +kernel
theorem dX4_readWorth_7 : decode cX4_readWorth 7 = .ok (.aload_n 0, 1) := by decide +kernel
theorem dX4_readWorth_8 : decode cX4_readWorth 8 = .ok (.invokevirtual 138, 3) := by decide +kernel
theorem dX4_readWorth_11 : decode cX4_readWorth 11 = .ok (.istore_n 1, 1) := by decide +kernel
theorem dX4_readWorth_12 : decode cX4_readWorth 12 = .ok (.iload_n 1, 1) := by decide +kernel
theorem dX4_readWorth_13 : decode cX4_readWorth 13 = .ok (.iconst (-1), 1) := by decide +kernel
theorem dX4_readWorth_14 : decode cX4_readWorth 14 = .ok (.if_icmp .ne 7, 3) := by decide +kernel
theorem dX4_readWorth_17 : decode cX4_readWorth 17 = .ok (.iconst (-1), 1) := by decide +kernel
theorem dX4_readWorth_18 : decode cX4_readWorth 18 = .ok (.goto 7, 3) := by decide +kernel
theorem dX4_readWorth_21 : decode cX4_readWorth 21 = .ok (.aload_n 0, 1) := by decide +kernel
theorem dX4_readWorth_22 : decode cX4_readWorth 22 = .ok (.invokevirtual 97, 3) := by decide +kernel
theorem dX4_readWorth_25 : decode cX4_readWorth 25 = .ok (.istore_n 2, 1) := by decide +kernel
theorem dX4_readWorth_26 : decode cX4_readWorth 26 = .ok (.iload_n 2, 1) := by decide +kernel
theorem dX4_readWorth_27 : decode cX4_readWorth 27 = .ok (.iconst (-1), 1) := by decide +kernel
theorem dX4_readWorth_28 : decode cX4_readWorth 28 = .ok (.if_icmp .ne 5, 3) := by decide +kernel
theorem dX4_readWorth_31 : decode cX4_readWorth 31 = .ok (.iconst 0, 1) := by decide +kernel
theorem dX4_readWorth_32 : decode cX4_readWorth 32 = .ok (.ireturn, 1) := by decide +kernel
theorem dX4_readWorth_33 : decode cX4_readWorth 33 = .ok (.aload_n 0, 1) := by decide +kernel
theorem dX4_readWorth_34 : decode cX4_readWorth 34 = .ok (.getfield 12, 3) := by decide +kernel
theorem dX4_readWorth_37 : decode cX4_readWorth 37 = .ok (.iload_n 1, 1) := by decide +kernel
theorem dX4_readWorth_38 : decode cX4_readWorth 38 = .ok (.iload_n 2, 1) := by decide +kernel
theorem dX4_readWorth_39 : decode cX4_readWorth 39 = .ok (.invokevirtual 141, 3) := by decide +kernel
theorem dX4_readWorth_42 : decode cX4_readWorth 42 = .ok (.ifCond .eq 9, 3) := by decide +kernel
theorem dX4_readWorth_45 : decode cX4_readWorth 45 = .ok (.aload_n 0, 1) := by decide +kernel
theorem dX4_readWorth_46 : decode cX4_readWorth 46 = .ok (.iconst 3, 1) := by decide +kernel
theorem dX4_readWorth_47 : decode cX4_readWorth 47 = .ok (.invokevirtual 79, 3) := by decide +kernel
theorem dX4_readWorth_50 : decode cX4_readWorth 50 = .ok (.ireturn, 1) := by decide +kernel
theorem dX4_readWorth_51 : decode cX4_readWorth 51 = .ok (.aload_n 0, 1) := by decide +kernel
theorem dX4_readWorth_52 : decode cX4_readWorth 52 = .ok (.getfield 40, 3) := by decide +kernel
theorem dX4_readWorth_55 : decode cX4_readWorth 55 = .ok (.invokevirtual 83, 3) := by decide +kernel
theorem dX4_readWorth_58 : decode cX4_readWorth 58 = .ok (.aload_n 0, 1) := by decide +kernel
theorem dX4_readWorth_59 : decode cX4_readWorth 59 = .ok (.iconst 0, 1) := by decide +kernel
theorem dX4_readWorth_60 : decode cX4_readWorth 60 = .ok (.bipush 99, 2) := by decide +kernel
theorem dX4_readWorth_62 : decode cX4_readWorth 62 = .ok (.invokevirtual 117, 3) := by decide +kernel
theorem dX4_readWorth_65 : decode cX4_readWorth 65 = .ok (.istore_n 3, 1) := by decide +kernel
theorem dX4_readWorth_66 : decode cX4_readWorth 66 = .ok (.iload_n 3, 1) := by decide +kernel
theorem dX4_readWorth_67 : decode cX4_readWorth 67 = .ok (.iconst (-1), 1) := by decide +kernel
theorem dX4_readWorth_68 : decode cX4_readWorth 68 = .ok (.if_icmp .ne 5, 3) := by decide +kernel
theorem dX4_readWorth_71 : decode cX4_readWorth 71 = .ok (.iconst 0, 1) := by decide +kernel
theorem dX4_readWorth_72 : decode cX4_readWorth 72 = .ok (.ireturn, 1) := by decide +kernel
theorem dX4_readWorth_73 : decode cX4_readWorth 73 = .ok (.aload_n 0, 1) := by decide +kernel
theorem dX4_readWorth_74 : decode cX4_readWorth 74 = .ok (.getfield 12, 3) := by decide +kernel
theorem dX4_readWorth_77 : decode cX4_readWorth 77 = .ok (.iload_n 1, 1) := by decide +kernel
theorem dX4_readWorth_78 : decode cX4_readWorth 78 = .ok (.iload_n 2, 1) := by decide +kernel
theorem dX4_readWorth_79 : decode cX4_readWorth 79 = .ok (.iload_n 3, 1) := by decide +kernel
theorem dX4_readWorth_80 : decode cX4_readWorth 80 = .ok (.invokevirtual 145, 3) := by decide +kernel
theorem dX4_readWorth_83 : decode cX4_readWorth 83 = .ok (.aload_n 0, 1) := by decide +kernel
theorem dX4_readWorth_84 : decode cX4_readWorth 84 = .ok (.bipush 59, 2) := by decide +kernel
theorem dX4_readWorth_86 : decode cX4_readWorth 86 = .ok (.invokevirtual 111, 3) := by decide +kernel
theorem dX4_readWorth_89 : decode cX4_readWorth 89 = .ok (.ireturn, 1) := by decide +kernel
theorem dX4_readCord_0 : decode cX4_readCord 0 = .ok (.aload_n 0, 1) := by decide +kernel
theorem dX4_readCord_1 : decode cX4_readCord 1 = .ok (.getfield 18, 3) := by decide +kernel
theorem dX4_readCord_4 : decode cX4_readCord 4 = .ok (.ifCond .eq 9, 3) := by decide +kernel
theorem dX4_readCord_7 : decode cX4_readCord 7 = .ok (.aload_n 0, 1) := by decide +kernel
theorem dX4_readCord_8 : decode cX4_readCord 8 = .ok (.iconst 2, 1) := by decide +kernel
theorem dX4_readCord_9 : decode cX4_readCord 9 = .ok (.invokevirtual 79, 3) := by decide +kernel
theorem dX4_readCord_12 : decode cX4_readCord 12 = .ok (.ireturn, 1) := by decide +kernel
theorem dX4_readCord_13 : decode cX4_readCord 13 = .ok (.aload_n 0, 1) := by decide +kernel
theorem dX4_readCord_14 : decode cX4_readCord 14 = .ok (.iconst 1, 1) := by decide +kernel
theorem dX4_readCord_15 : decode cX4_readCord 15 = .ok (.putfield 18, 3) := by decide +kernel
theorem dX4_readCord_18 : decode cX4_readCord 18 = .ok (.aload_n 0, 1) := by decide +kernel
theorem dX4_readCord_19 : decode cX4_readCord 19 = .ok (.getfield 40, 3) := by decide +kernel
theorem dX4_readCord_22 : decode cX4_readCord 22 = .ok (.invokevirtual 83, 3) := by decide +kernel
theorem dX4_readCord_25 : decode cX4_readCord 25 = .ok (.aload_n 0, 1) := by decide +kernel
theorem dX4_readCord_26 : decode cX4_readCord 26 = .ok (.iconst 1, 1) := by decide +kernel
theorem dX4_readCord_27 : decode cX4_readCord 27 = .ok (.bipush 99, 2) := by decide +kernel
theorem dX4_readCord_29 : decode cX4_readCord 29 = .ok (.invokevirtual 117, 3) := by decide +kernel
theorem dX4_readCord_32 : decode cX4_readCord 32 = .ok (.istore_n 1, 1) := by decide +kernel
theorem dX4_readCord_33 : decode cX4_readCord 33 = .ok (.iload_n 1, 1) := by decide +kernel
theorem dX4_readCord_34 : decode cX4_readCord 34 = .ok (.iconst (-1), 1) := by decide +kernel
theorem dX4_readCord_35 : decode cX4_readCord 35 = .ok (.if_icmp .ne 5, 3) := by decide +kernel
theorem dX4_readCord_38 : decode cX4_readCord 38 = .ok (.iconst 0, 1) := by decide +kernel
theorem dX4_readCord_39 : decode cX4_readCord 39 = .ok (.ireturn, 1) := by decide +kernel
theorem dX4_readCord_40 : decode cX4_readCord 40 = .ok (.aload_n 0, 1) := by decide +kernel
theorem dX4_readCord_41 : decode cX4_readCord 41 = .ok (.getfield 12, 3) := by decide +kernel
theorem dX4_readCord_44 : decode cX4_readCord 44 = .ok (.iload_n 1, 1) := by decide +kernel
theorem dX4_readCord_45 : decode cX4_readCord 45 = .ok (.putfield 149, 3) := by decide +kernel
theorem dX4_readCord_48 : decode cX4_readCord 48 = .ok (.aload_n 0, 1) := by decide +kernel
theorem dX4_readCord_49 : decode cX4_readCord 49 = .ok (.bipush 59, 2) := by decide +kernel
theorem dX4_readCord_51 : decode cX4_readCord 51 = .ok (.invokevirtual 111, 3) := by decide +kernel
theorem dX4_readCord_54 : decode cX4_readCord 54 = .ok (.ireturn, 1) := by decide +kernel
theorem dX4_readDraw_0 : decode cX4_readDraw 0 = .ok (.aload_n 0, 1) := by decide +kernel
theorem dX4_readDraw_1 : decode cX4_readDraw 1 = .ok (.getfield 22, 3) := by decide +kernel
theorem dX4_readDraw_4 : decode cX4_readDraw 4 = .ok (.ifCond .eq 9, 3) := by decide +kernel
theorem dX4_readDraw_7 : decode cX4_readDraw 7 = .ok (.aload_n 0, 1) := by decide +kernel
theorem dX4_readDraw_8 : decode cX4_readDraw 8 = .ok (.iconst 2, 1) := by decide +kernel
theorem dX4_readDraw_9 : decode cX4_readDraw 9 = .ok (.invokevirtual 79, 3) := by decide +kernel
theorem dX4_readDraw_12 : decode cX4_readDraw 12 = .ok (.ireturn, 1) := by decide +kernel
theorem dX4_readDraw_13 : decode cX4_readDraw 13 = .ok (.aload_n 0, 1) := by decide +kernel
theorem dX4_readDraw_14 : decode cX4_readDraw 14 = .ok (.iconst 1, 1) := by decide +kernel
theorem dX4_readDraw_15 : decode cX4_readDraw 15 = .ok (.putfield 22, 3) := by decide +kernel
theorem dX4_readDraw_18 : decode cX4_readDraw 18 = .ok (.aload_n 0, 1) := by decide +kernel
theorem dX4_readDraw_19 : decode cX4_readDraw 19 = .ok (.getfield 40, 3) := by decide +kernel
theorem dX4_readDraw_22 : decode cX4_readDraw 22 = .ok (.invokevirtual 83, 3) := by decide +kernel
theorem dX4_readDraw_25 : decode cX4_readDraw 25 = .ok (.aload_n 0, 1) := by decide +kernel
theorem dX4_readDraw_26 : decode cX4_readDraw 26 = .ok (.iconst 0, 1) := by decide +kernel
theorem dX4_readDraw_27 : decode cX4_readDraw 27 = .ok (.sipush 999, 3) := by decide +kernel
theorem dX4_readDraw_30 : decode cX4_readDraw 30 = .ok (.invokevirtual 117, 3) := by decide +kernel
theorem dX4_readDraw_33 : decode cX4_readDraw 33 = .ok (.istore_n 1, 1) := by decide +kernel
theorem dX4_readDraw_34 : decode cX4_readDraw 34 = .ok (.iload_n 1, 1) := by decide +kernel
theorem dX4_readDraw_35 : decode cX4_readDraw 35 = .ok (.iconst (-1), 1) := by decide +kernel
theorem dX4_readDraw_36 : decode cX4_readDraw 36 = .ok (.if_icmp .ne 5, 3) := by decide +kernel
theorem dX4_readDraw_39 : decode cX4_readDraw 39 = .ok (.iconst 0, 1) := by decide +kernel
theorem dX4_readDraw_40 : decode cX4_readDraw 40 = .ok (.ireturn, 1) := by decide +kernel
theorem dX4_readDraw_41 : decode cX4_readDraw 41 = .ok (.aload_n 0, 1) := by decide +kernel
theorem dX4_readDraw_42 : decode cX4_readDraw 42 = .ok (.getfield 12, 3) := by decide +kernel
theorem dX4_readDraw_45 : decode cX4_readDraw 45 = .ok (.iload_n 1, 1) := by decide +kernel
theorem dX4_readDraw_46 : decode cX4_readDraw 46 = .ok (.putfield 152, 3) := by decide +kernel
theorem dX4_readDraw_49 : decode cX4_readDraw 49 = .ok (.aload_n 0, 1) := by decide +kernel
theorem dX4_readDraw_50 : decode cX4_readDraw 50 = .ok (.bipush 59, 2) := by decide +kernel
theorem dX4_readDraw_52 : decode cX4_readDraw 52 = .ok (.invokevirtual 111, 3) := by decide +kernel
theorem dX4_readDraw_55 : decode cX4_readDraw 55 = .ok (.ireturn, 1) := by decide +kernel
theorem dX4_readSlip_0 : decode cX4_readSlip 0 = .ok (.aload_n 0, 1) := by decide +kernel
theorem dX4_readSlip_1 : decode cX4_readSlip 1 = .ok (.getfield 12, 3) := by decide +kernel
theorem dX4_readSlip_4 : decode cX4_readSlip 4 = .ok (.getfield 155, 3) := by decide +kernel
theorem dX4_readSlip_7 : decode cX4_readSlip 7 = .ok (.invokevirtual 159, 3) := by decide +kernel
theorem dX4_readSlip_10 : decode cX4_readSlip 10 = .ok (.ifCond .eq 9, 3) := by decide +kernel
theorem dX4_readSlip_13 : decode cX4_readSlip 13 = .ok (.aload_n 0, 1) := by decide +kernel
theorem dX4_readSlip_14 : decode cX4_readSlip 14 = .ok (.iconst 2, 1) := by decide +kernel
theorem dX4_readSlip_15 : decode cX4_readSlip 15 = .ok (.invokevirtual 79, 3) := by decide +kernel
theorem dX4_readSlip_18 : decode cX4_readSlip 18 = .ok (.ireturn, 1) := by decide +kernel
theorem dX4_readSlip_19 : decode cX4_readSlip 19 = .ok (.aload_n 0, 1) := by decide +kernel
theorem dX4_readSlip_20 : decode cX4_readSlip 20 = .ok (.getfield 40, 3) := by decide +kernel
theorem dX4_readSlip_23 : decode cX4_readSlip 23 = .ok (.invokevirtual 83, 3) := by decide +kernel
theorem dX4_readSlip_26 : decode cX4_readSlip 26 = .ok (.aload_n 0, 1) := by decide +kernel
theorem dX4_readSlip_27 : decode cX4_readSlip 27 = .ok (.invokevirtual 164, 3) := by decide +kernel
theorem dX4_readSlip_30 : decode cX4_readSlip 30 = .ok (.ifCond .eq 16, 3) := by decide +kernel
theorem dX4_readSlip_33 : decode cX4_readSlip 33 = .ok (.aload_n 0, 1) := by decide +kernel
theorem dX4_readSlip_34 : decode cX4_readSlip 34 = .ok (.bipush 59, 2) := by decide +kernel
theorem dX4_readSlip_36 : decode cX4_readSlip 36 = .ok (.invokevirtual 111, 3) := by decide +kernel
theorem dX4_readSlip_39 : decode cX4_readSlip 39 = .ok (.ifCond .eq 7, 3) := by decide +kernel
theorem dX4_readSlip_42 : decode cX4_readSlip 42 = .ok (.iconst 1, 1) := by decide +kernel
theorem dX4_readSlip_43 : decode cX4_readSlip 43 = .ok (.goto 4, 3) := by decide +kernel
theorem dX4_readSlip_46 : decode cX4_readSlip 46 = .ok (.iconst 0, 1) := by decide +kernel
theorem dX4_readSlip_47 : decode cX4_readSlip 47 = .ok (.ireturn, 1) := by decide +kernel
theorem dX4_readOr_0 : decode cX4_readOr 0 = .ok (.aload_n 0, 1) := by decide +kernel
theorem dX4_readOr_1 : decode cX4_readOr 1 = .ok (.invokevirtual 167, 3) := by decide +kernel
theorem dX4_readOr_4 : decode cX4_readOr 4 = .ok (.ifCond .ne 5, 3) := by decide +kernel
theorem dX4_readOr_7 : decode cX4_readOr 7 = .ok (.iconst 0, 1) := by decide +kernel
theorem dX4_readOr_8 : decode cX4_readOr 8 = .ok (.ireturn, 1) := by decide +kernel
theorem dX4_readOr_9 : decode cX4_readOr 9 = .ok (.iconst 0, 1) := by decide +kernel
theorem dX4_readOr_10 : decode cX4_readOr 10 = .ok (.istore_n 1, 1) := by decide +kernel
theorem dX4_readOr_11 : decode cX4_readOr 11 = .ok (.iload_n 1, 1) := by decide +kernel
theorem dX4_readOr_12 : decode cX4_readOr 12 = .ok (.bipush 30, 2) := by decide +kernel
theorem dX4_readOr_14 : decode cX4_readOr 14 = .ok (.if_icmp .ge 49, 3) := by decide +kernel
theorem dX4_readOr_17 : decode cX4_readOr 17 = .ok (.aload_n 0, 1) := by decide +kernel
theorem dX4_readOr_18 : decode cX4_readOr 18 = .ok (.getfield 40, 3) := by decide +kernel
theorem dX4_readOr_21 : decode cX4_readOr 21 = .ok (.getfield 53, 3) := by decide +kernel
theorem dX4_readOr_24 : decode cX4_readOr 24 = .ok (.bipush 13, 2) := by decide +kernel
theorem dX4_readOr_26 : decode cX4_readOr 26 = .ok (.if_icmp .ne 37, 3) := by decide +kernel
theorem dX4_readOr_29 : decode cX4_readOr 29 = .ok (.aload_n 0, 1) := by decide +kernel
theorem dX4_readOr_30 : decode cX4_readOr 30 = .ok (.getfield 40, 3) := by decide +kernel
theorem dX4_readOr_33 : decode cX4_readOr 33 = .ok (.invokevirtual 83, 3) := by decide +kernel
theorem dX4_readOr_36 : decode cX4_readOr 36 = .ok (.aload_n 0, 1) := by decide +kernel
theorem dX4_readOr_37 : decode cX4_readOr 37 = .ok (.invokevirtual 167, 3) := by decide +kernel
theorem dX4_readOr_40 : decode cX4_readOr 40 = .ok (.ifCond .ne 5, 3) := by decide +kernel
theorem dX4_readOr_43 : decode cX4_readOr 43 = .ok (.iconst 0, 1) := by decide +kernel
theorem dX4_readOr_44 : decode cX4_readOr 44 = .ok (.ireturn, 1) := by decide +kernel
theorem dX4_readOr_45 : decode cX4_readOr 45 = .ok (.aload_n 0, 1) := by decide +kernel
theorem dX4_readOr_46 : decode cX4_readOr 46 = .ok (.getfield 12, 3) := by decide +kernel
theorem dX4_readOr_49 : decode cX4_readOr 49 = .ok (.getfield 155, 3) := by decide +kernel
theorem dX4_readOr_52 : decode cX4_readOr 52 = .ok (.bipush 13, 2) := by decide +kernel
theorem dX4_readOr_54 : decode cX4_readOr 54 = .ok (.invokevirtual 170, 3) := by decide +kernel
theorem dX4_readOr_57 : decode cX4_readOr 57 = .ok (.iinc 1 1, 3) := by decide +kernel
theorem dX4_readOr_60 : decode cX4_readOr 60 = .ok (.goto (-49), 3) := by decide +kernel
theorem dX4_readOr_63 : decode cX4_readOr 63 = .ok (.iconst 1, 1) := by decide +kernel
theorem dX4_readOr_64 : decode cX4_readOr 64 = .ok (.ireturn, 1) := by decide +kernel
theorem dX4_readAnd_0 : decode cX4_readAnd 0 = .ok (.aload_n 0, 1) := by decide +kernel
theorem dX4_readAnd_1 : decode cX4_readAnd 1 = .ok (.invokevirtual 174, 3) := by decide +kernel
theorem dX4_readAnd_4 : decode cX4_readAnd 4 = .ok (.ifCond .ne 5, 3) := by decide +kernel
theorem dX4_readAnd_7 : decode cX4_readAnd 7 = .ok (.iconst 0, 1) := by decide +kernel
theorem dX4_readAnd_8 : decode cX4_readAnd 8 = .ok (.ireturn, 1) := by decide +kernel
theorem dX4_readAnd_9 : decode cX4_readAnd 9 = .ok (.iconst 0, 1) := by decide +kernel
theorem dX4_readAnd_10 : decode cX4_readAnd 10 = .ok (.istore_n 1, 1) := by decide +kernel
theorem dX4_readAnd_11 : decode cX4_readAnd 11 = .ok (.iload_n 1, 1) := by decide +kernel
theorem dX4_readAnd_12 : decode cX4_readAnd 12 = .ok (.bipush 30, 2) := by decide +kernel
theorem dX4_readAnd_14 : decode cX4_readAnd 14 = .ok (.if_icmp .ge 49, 3) := by decide +kernel
theorem dX4_readAnd_17 : decode cX4_readAnd 17 = .ok (.aload_n 0, 1) := by decide +kernel
theorem dX4_readAnd_18 : decode cX4_readAnd 18 = .ok (.getfield 40, 3) := by decide +kernel
theorem dX4_readAnd_21 : decode cX4_readAnd 21 = .ok (.getfield 53, 3) := by decide +kernel
theorem dX4_readAnd_24 : decode cX4_readAnd 24 = .ok (.bipush 14, 2) := by decide +kernel
theorem dX4_readAnd_26 : decode cX4_readAnd 26 = .ok (.if_icmp .ne 37, 3) := by decide +kernel
theorem dX4_readAnd_29 : decode cX4_readAnd 29 = .ok (.aload_n 0, 1) := by decide +kernel
theorem dX4_readAnd_30 : decode cX4_readAnd 30 = .ok (.getfield 40, 3) := by decide +kernel
theorem dX4_readAnd_33 : decode cX4_readAnd 33 = .ok (.invokevirtual 83, 3) := by decide +kernel
theorem dX4_readAnd_36 : decode cX4_readAnd 36 = .ok (.aload_n 0, 1) := by decide +kernel
theorem dX4_readAnd_37 : decode cX4_readAnd 37 = .ok (.invokevirtual 174, 3) := by decide +kernel
theorem dX4_readAnd_40 : decode cX4_readAnd 40 = .ok (.ifCond .ne 5, 3) := by decide +kernel
theorem dX4_readAnd_43 : decode cX4_readAnd 43 = .ok (.iconst 0, 1) := by decide +kernel
theorem dX4_readAnd_44 : decode cX4_readAnd 44 = .ok (.ireturn, 1) := by decide +kernel
theorem dX4_readAnd_45 : decode cX4_readAnd 45 = .ok (.aload_n 0, 1) := by decide +kernel
theorem dX4_readAnd_46 : decode cX4_readAnd 46 = .ok (.getfield 12, 3) := by decide +kernel
theorem dX4_readAnd_49 : decode cX4_readAnd 49 = .ok (.getfield 155, 3) := by decide +kernel
theorem dX4_readAnd_52 : decode cX4_readAnd 52 = .ok (.bipush 14, 2) := by decide +kernel
theorem dX4_readAnd_54 : decode cX4_readAnd 54 = .ok (.invokevirtual 170, 3) := by decide +kernel
theorem dX4_readAnd_57 : decode cX4_readAnd 57 = .ok (.iinc 1 1, 3) := by decide +kernel
theorem dX4_readAnd_60 : decode cX4_readAnd 60 = .ok (.goto (-49), 3) := by decide +kernel
theorem dX4_readAnd_63 : decode cX4_readAnd 63 = .ok (.iconst 1, 1) := by decide +kernel
theorem dX4_readAnd_64 : decode cX4_readAnd 64 = .ok (.ireturn, 1) := by decide +kernel
theorem dX4_readOne_0 : decode cX4_readOne 0 = .ok (.aload_n 0, 1) := by decide +kernel
theorem dX4_readOne_1 : decode cX4_readOne 1 = .ok (.getfield 40, 3) := by decide +kernel
theorem dX4_readOne_4 : decode cX4_readOne 4 = .ok (.getfield 53, 3) := by decide +kernel
theorem dX4_readOne_7 : decode cX4_readOne 7 = .ok (.bipush 15, 2) := by decide +kernel
theorem dX4_readOne_9 : decode cX4_readOne 9 = .ok (.if_icmp .ne 8, 3) := by decide +kernel
theorem dX4_readOne_12 : decode cX4_readOne 12 = .ok (.aload_n 0, 1) := by decide +kernel
theorem dX4_readOne_13 : decode cX4_readOne 13 = .ok (.invokevirtual 177, 3) := by decide +kernel
theorem dX4_readOne_16 : decode cX4_readOne 16 = .ok (.ireturn, 1) := by decide +kernel
theorem dX4_readOne_17 : decode cX4_readOne 17 = .ok (.aload_n 0, 1) := by decide +kernel
theorem dX4_readOne_18 : decode cX4_readOne 18 = .ok (.invokevirtual 180, 3) := by decide +kernel
theorem dX4_readOne_21 : decode cX4_readOne 21 = .ok (.ifCond .ne 5, 3) := by decide +kernel
theorem dX4_readOne_24 : decode cX4_readOne 24 = .ok (.iconst 0, 1) := by decide +kernel
theorem dX4_readOne_25 : decode cX4_readOne 25 = .ok (.ireturn, 1) := by decide +kernel
theorem dX4_readOne_26 : decode cX4_readOne 26 = .ok (.aload_n 0, 1) := by decide +kernel
theorem dX4_readOne_27 : decode cX4_readOne 27 = .ok (.getfield 40, 3) := by decide +kernel
theorem dX4_readOne_30 : decode cX4_readOne 30 = .ok (.getfield 53, 3) := by decide +kernel
theorem dX4_readOne_33 : decode cX4_readOne 33 = .ok (.istore_n 1, 1) := by decide +kernel
theorem dX4_readOne_34 : decode cX4_readOne 34 = .ok (.iload_n 1, 1) := by decide +kernel
theorem dX4_readOne_35 : decode cX4_readOne 35 = .ok (.bipush 60, 2) := by decide +kernel
theorem dX4_readOne_37 : decode cX4_readOne 37 = .ok (.if_icmp .eq 17, 3) := by decide +kernel
theorem dX4_readOne_40 : decode cX4_readOne 40 = .ok (.iload_n 1, 1) := by decide +kernel
theorem dX4_readOne_41 : decode cX4_readOne 41 = .ok (.bipush 62, 2) := by decide +kernel
theorem dX4_readOne_43 : decode cX4_readOne 43 = .ok (.if_icmp .eq 11, 3) := by decide +kernel
theorem dX4_readOne_46 : decode cX4_readOne 46 = .ok (.iload_n 1, 1) := by decide +kernel
theorem dX4_readOne_47 : decode cX4_readOne 47 = .ok (.bipush 61, 2) := by decide +kernel
theorem dX4_readOne_49 : decode cX4_readOne 49 = .ok (.if_icmp .eq 5, 3) := by decide +kernel
theorem dX4_readOne_52 : decode cX4_readOne 52 = .ok (.iconst 1, 1) := by decide +kernel
theorem dX4_readOne_53 : decode cX4_readOne 53 = .ok (.ireturn, 1) := by decide +kernel
theorem dX4_readOne_54 : decode cX4_readOne 54 = .ok (.aload_n 0, 1) := by decide +kernel
theorem dX4_readOne_55 : decode cX4_readOne 55 = .ok (.getfield 40, 3) := by decide +kernel
theorem dX4_readOne_58 : decode cX4_readOne 58 = .ok (.invokevirtual 83, 3) := by decide +kernel
theorem dX4_readOne_61 : decode cX4_readOne 61 = .ok (.aload_n 0, 1) := by decide +kernel
theorem dX4_readOne_62 : decode cX4_readOne 62 = .ok (.invokevirtual 180, 3) := by decide +kernel
theorem dX4_readOne_65 : decode cX4_readOne 65 = .ok (.ifCond .ne 5, 3) := by decide +kernel
theorem dX4_readOne_68 : decode cX4_readOne 68 = .ok (.iconst 0, 1) := by decide +kernel
theorem dX4_readOne_69 : decode cX4_readOne 69 = .ok (.ireturn, 1) := by decide +kernel
theorem dX4_readOne_70 : decode cX4_readOne 70 = .ok (.aload_n 0, 1) := by decide +kernel
theorem dX4_readOne_71 : decode cX4_readOne 71 = .ok (.getfield 12, 3) := by decide +kernel
theorem dX4_readOne_74 : decode cX4_readOne 74 = .ok (.getfield 155, 3) := by decide +kernel
theorem dX4_readOne_77 : decode cX4_readOne 77 = .ok (.iload_n 1, 1) := by decide +kernel
theorem dX4_readOne_78 : decode cX4_readOne 78 = .ok (.invokevirtual 170, 3) := by decide +kernel
theorem dX4_readOne_81 : decode cX4_readOne 81 = .ok (.iconst 1, 1) := by decide +kernel
theorem dX4_readOne_82 : decode cX4_readOne 82 = .ok (.ireturn, 1) := by decide +kernel
theorem dX4_readNot_0 : decode cX4_readNot 0 = .ok (.aload_n 0, 1) := by decide +kernel
theorem dX4_readNot_1 : decode cX4_readNot 1 = .ok (.getfield 25, 3) := by decide +kernel
theorem dX4_readNot_4 : decode cX4_readNot 4 = .ok (.bipush 6, 2) := by decide +kernel
theorem dX4_readNot_6 : decode cX4_readNot 6 = .ok (.if_icmp .le 9, 3) := by decide +kernel
theorem dX4_readNot_9 : decode cX4_readNot 9 = .ok (.aload_n 0, 1) := by decide +kernel
theorem dX4_readNot_10 : decode cX4_readNot 10 = .ok (.iconst 2, 1) := by decide +kernel
theorem dX4_readNot_11 : decode cX4_readNot 11 = .ok (.invokevirtual 79, 3) := by decide +kernel
theorem dX4_readNot_14 : decode cX4_readNot 14 = .ok (.ireturn, 1) := by decide +kernel
theorem dX4_readNot_15 : decode cX4_readNot 15 = .ok (.aload_n 0, 1) := by decide +kernel
theorem dX4_readNot_16 : decode cX4_readNot 16 = .ok (.dup, 1) := by decide +kernel
theorem dX4_readNot_17 : decode cX4_readNot 17 = .ok (.getfield 25, 3) := by decide +kernel
theorem dX4_readNot_20 : decode cX4_readNot 20 = .ok (.iconst 1, 1) := by decide +kernel
theorem dX4_readNot_21 : decode cX4_readNot 21 = .ok (.iadd, 1) := by decide +kernel
theorem dX4_readNot_22 : decode cX4_readNot 22 = .ok (.putfield 25, 3) := by decide +kernel
theorem dX4_readNot_25 : decode cX4_readNot 25 = .ok (.aload_n 0, 1) := by decide +kernel
theorem dX4_readNot_26 : decode cX4_readNot 26 = .ok (.getfield 40, 3) := by decide +kernel
theorem dX4_readNot_29 : decode cX4_readNot 29 = .ok (.invokevirtual 83, 3) := by decide +kernel
theorem dX4_readNot_32 : decode cX4_readNot 32 = .ok (.aload_n 0, 1) := by decide +kernel
theorem dX4_readNot_33 : decode cX4_readNot 33 = .ok (.invokevirtual 174, 3) := by decide +kernel
theorem dX4_readNot_36 : decode cX4_readNot 36 = .ok (.ifCond .ne 5, 3) := by decide +kernel
theorem dX4_readNot_39 : decode cX4_readNot 39 = .ok (.iconst 0, 1) := by decide +kernel
theorem dX4_readNot_40 : decode cX4_readNot 40 = .ok (.ireturn, 1) := by decide +kernel
theorem dX4_readNot_41 : decode cX4_readNot 41 = .ok (.aload_n 0, 1) := by decide +kernel
theorem dX4_readNot_42 : decode cX4_readNot 42 = .ok (.dup, 1) := by decide +kernel
theorem dX4_readNot_43 : decode cX4_readNot 43 = .ok (.getfield 25, 3) := by decide +kernel
theorem dX4_readNot_46 : decode cX4_readNot 46 = .ok (.iconst 1, 1) := by decide +kernel
theorem dX4_readNot_47 : decode cX4_readNot 47 = .ok (.isub, 1) := by decide +kernel
theorem dX4_readNot_48 : decode cX4_readNot 48 = .ok (.putfield 25, 3) := by decide +kernel
theorem dX4_readNot_51 : decode cX4_readNot 51 = .ok (.aload_n 0, 1) := by decide +kernel
theorem dX4_readNot_52 : decode cX4_readNot 52 = .ok (.getfield 12, 3) := by decide +kernel
theorem dX4_readNot_55 : decode cX4_readNot 55 = .ok (.getfield 155, 3) := by decide +kernel
theorem dX4_readNot_58 : decode cX4_readNot 58 = .ok (.bipush 15, 2) := by decide +kernel
theorem dX4_readNot_60 : decode cX4_readNot 60 = .ok (.invokevirtual 170, 3) := by decide +kernel
theorem dX4_readNot_63 : decode cX4_readNot 63 = .ok (.iconst 1, 1) := by decide +kernel
theorem dX4_readNot_64 : decode cX4_readNot 64 = .ok (.ireturn, 1) := by decide +kernel
theorem dX4_readSum_0 : decode cX4_readSum 0 = .ok (.aload_n 0, 1) := by decide +kernel
theorem dX4_readSum_1 : decode cX4_readSum 1 = .ok (.invokevirtual 183, 3) := by decide +kernel
theorem dX4_readSum_4 : decode cX4_readSum 4 = .ok (.ifCond .ne 5, 3) := by decide +kernel
theorem dX4_readSum_7 : decode cX4_readSum 7 = .ok (.iconst 0, 1) := by decide +kernel
theorem dX4_readSum_8 : decode cX4_readSum 8 = .ok (.ireturn, 1) := by decide +kernel
theorem dX4_readSum_9 : decode cX4_readSum 9 = .ok (.iconst 0, 1) := by decide +kernel
theorem dX4_readSum_10 : decode cX4_readSum 10 = .ok (.istore_n 1, 1) := by decide +kernel
theorem dX4_readSum_11 : decode cX4_readSum 11 = .ok (.iload_n 1, 1) := by decide +kernel
theorem dX4_readSum_12 : decode cX4_readSum 12 = .ok (.bipush 30, 2) := by decide +kernel
theorem dX4_readSum_14 : decode cX4_readSum 14 = .ok (.if_icmp .ge 68, 3) := by decide +kernel
theorem dX4_readSum_17 : decode cX4_readSum 17 = .ok (.aload_n 0, 1) := by decide +kernel
theorem dX4_readSum_18 : decode cX4_readSum 18 = .ok (.getfield 40, 3) := by decide +kernel
theorem dX4_readSum_21 : decode cX4_readSum 21 = .ok (.getfield 53, 3) := by decide +kernel
theorem dX4_readSum_24 : decode cX4_readSum 24 = .ok (.bipush 43, 2) := by decide +kernel
theorem dX4_readSum_26 : decode cX4_readSum 26 = .ok (.if_icmp .eq 15, 3) := by decide +kernel
theorem dX4_readSum_29 : decode cX4_readSum 29 = .ok (.aload_n 0, 1) := by decide +kernel
theorem dX4_readSum_30 : decode cX4_readSum 30 = .ok (.getfield 40, 3) := by decide +kernel
theorem dX4_readSum_33 : decode cX4_readSum 33 = .ok (.getfield 53, 3) := by decide +kernel
theorem dX4_readSum_36 : decode cX4_readSum 36 = .ok (.bipush 45, 2) := by decide +kernel
theorem dX4_readSum_38 : decode cX4_readSum 38 = .ok (.if_icmp .ne 44, 3) := by decide +kernel
theorem dX4_readSum_41 : decode cX4_readSum 41 = .ok (.aload_n 0, 1) := by decide +kernel
theorem dX4_readSum_42 : decode cX4_readSum 42 = .ok (.getfield 40, 3) := by decide +kernel
theorem dX4_readSum_45 : decode cX4_readSum 45 = .ok (.getfield 53, 3) := by decide +kernel
theorem dX4_readSum_48 : decode cX4_readSum 48 = .ok (.istore_n 2, 1) := by decide +kernel
theorem dX4_readSum_49 : decode cX4_readSum 49 = .ok (.aload_n 0, 1) := by decide +kernel
theorem dX4_readSum_50 : decode cX4_readSum 50 = .ok (.getfield 40, 3) := by decide +kernel
theorem dX4_readSum_53 : decode cX4_readSum 53 = .ok (.invokevirtual 83, 3) := by decide +kernel
theorem dX4_readSum_56 : decode cX4_readSum 56 = .ok (.aload_n 0, 1) := by decide +kernel
theorem dX4_readSum_57 : decode cX4_readSum 57 = .ok (.invokevirtual 183, 3) := by decide +kernel
theorem dX4_readSum_60 : decode cX4_readSum 60 = .ok (.ifCond .ne 5, 3) := by decide +kernel
theorem dX4_readSum_63 : decode cX4_readSum 63 = .ok (.iconst 0, 1) := by decide +kernel
theorem dX4_readSum_64 : decode cX4_readSum 64 = .ok (.ireturn, 1) := by decide +kernel
theorem dX4_readSum_65 : decode cX4_readSum 65 = .ok (.aload_n 0, 1) := by decide +kernel
theorem dX4_readSum_66 : decode cX4_readSum 66 = .ok (.getfield 12, 3) := by decide +kernel
theorem dX4_readSum_69 : decode cX4_readSum 69 = .ok (.getfield 155, 3) := by decide +kernel
theorem dX4_readSum_72 : decode cX4_readSum 72 = .ok (.iload_n 2, 1) := by decide +kernel
