theorem dX11_isSign_21 : decode cX11_isSign 21 = .ok (.if_icmp .eq 45, 3) := by decide +kernel
theorem dX11_isSign_24 : decode cX11_isSign 24 = .ok (.iload_n 0, 1) := by decide +kernel
theorem dX11_isSign_25 : decode cX11_isSign 25 = .ok (.bipush 62, 2) := by decide +kernel
theorem dX11_isSign_27 : decode cX11_isSign 27 = .ok (.if_icmp .eq 39, 3) := by decide +kernel
theorem dX11_isSign_30 : decode cX11_isSign 30 = .ok (.iload_n 0, 1) := by decide +kernel
theorem dX11_isSign_31 : decode cX11_isSign 31 = .ok (.bipush 61, 2) := by decide +kernel
theorem dX11_isSign_33 : decode cX11_isSign 33 = .ok (.if_icmp .eq 33, 3) := by decide +kernel
theorem dX11_isSign_36 : decode cX11_isSign 36 = .ok (.iload_n 0, 1) := by decide +kernel
theorem dX11_isSign_37 : decode cX11_isSign 37 = .ok (.bipush 43, 2) := by decide +kernel
theorem dX11_isSign_39 : decode cX11_isSign 39 = .ok (.if_icmp .eq 27, 3) := by decide +kernel
theorem dX11_isSign_42 : decode cX11_isSign 42 = .ok (.iload_n 0, 1) := by decide +kernel
theorem dX11_isSign_43 : decode cX11_isSign 43 = .ok (.bipush 45, 2) := by decide +kernel
theorem dX11_isSign_45 : decode cX11_isSign 45 = .ok (.if_icmp .eq 21, 3) := by decide +kernel
theorem dX11_isSign_48 : decode cX11_isSign 48 = .ok (.iload_n 0, 1) := by decide +kernel
theorem dX11_isSign_49 : decode cX11_isSign 49 = .ok (.bipush 42, 2) := by decide +kernel
theorem dX11_isSign_51 : decode cX11_isSign 51 = .ok (.if_icmp .eq 15, 3) := by decide +kernel
theorem dX11_isSign_54 : decode cX11_isSign 54 = .ok (.iload_n 0, 1) := by decide +kernel
theorem dX11_isSign_55 : decode cX11_isSign 55 = .ok (.bipush 47, 2) := by decide +kernel
theorem dX11_isSign_57 : decode cX11_isSign 57 = .ok (.if_icmp .eq 9, 3) := by decide +kernel
theorem dX11_isSign_60 : decode cX11_isSign 60 = .ok (.iload_n 0, 1) := by decide +kernel
theorem dX11_isSign_61 : decode cX11_isSign 61 = .ok (.bipush 37, 2) := by decide +kernel
theorem dX11_isSign_63 : decode cX11_isSign 63 = .ok (.if_icmp .ne 7, 3) := by decide +kernel
theorem dX11_isSign_66 : decode cX11_isSign 66 = .ok (.iconst 1, 1) := by decide +kernel
theorem dX11_isSign_67 : decode cX11_isSign 67 = .ok (.goto 4, 3) := by decide +kernel
theorem dX11_isSign_70 : decode cX11_isSign 70 = .ok (.iconst 0, 1) := by decide +kernel
theorem dX11_isSign_71 : decode cX11_isSign 71 = .ok (.ireturn, 1) := by decide +kernel
theorem dX11_token_0 : decode cX11_token 0 = .ok (.aload_n 0, 1) := by decide +kernel
theorem dX11_token_1 : decode cX11_token 1 = .ok (.iconst 0, 1) := by decide +kernel
theorem dX11_token_2 : decode cX11_token 2 = .ok (.invokevirtual 170, 3) := by decide +kernel
theorem dX11_token_5 : decode cX11_token 5 = .ok (.bipush 32, 2) := by decide +kernel
theorem dX11_token_7 : decode cX11_token 7 = .ok (.if_icmp .eq 13, 3) := by decide +kernel
theorem dX11_token_10 : decode cX11_token 10 = .ok (.aload_n 0, 1) := by decide +kernel
theorem dX11_token_11 : decode cX11_token 11 = .ok (.iconst 0, 1) := by decide +kernel
theorem dX11_token_12 : decode cX11_token 12 = .ok (.invokevirtual 170, 3) := by decide +kernel
theorem dX11_token_15 : decode cX11_token 15 = .ok (.bipush 10, 2) := by decide +kernel
theorem dX11_token_17 : decode cX11_token 17 = .ok (.if_icmp .ne 16, 3) := by decide +kernel
theorem dX11_token_20 : decode cX11_token 20 = .ok (.aload_n 0, 1) := by decide +kernel
theorem dX11_token_21 : decode cX11_token 21 = .ok (.dup, 1) := by decide +kernel
theorem dX11_token_22 : decode cX11_token 22 = .ok (.getfield 164, 3) := by decide +kernel
theorem dX11_token_25 : decode cX11_token 25 = .ok (.iconst 1, 1) := by decide +kernel
theorem dX11_token_26 : decode cX11_token 26 = .ok (.iadd, 1) := by decide +kernel
theorem dX11_token_27 : decode cX11_token 27 = .ok (.putfield 164, 3) := by decide +kernel
theorem dX11_token_30 : decode cX11_token 30 = .ok (.goto (-30), 3) := by decide +kernel
theorem dX11_token_33 : decode cX11_token 33 = .ok (.aload_n 0, 1) := by decide +kernel
theorem dX11_token_34 : decode cX11_token 34 = .ok (.aload_n 0, 1) := by decide +kernel
theorem dX11_token_35 : decode cX11_token 35 = .ok (.getfield 164, 3) := by decide +kernel
theorem dX11_token_38 : decode cX11_token 38 = .ok (.putfield 174, 3) := by decide +kernel
theorem dX11_token_41 : decode cX11_token 41 = .ok (.aload_n 0, 1) := by decide +kernel
theorem dX11_token_42 : decode cX11_token 42 = .ok (.iconst 0, 1) := by decide +kernel
theorem dX11_token_43 : decode cX11_token 43 = .ok (.invokevirtual 170, 3) := by decide +kernel
theorem dX11_token_46 : decode cX11_token 46 = .ok (.istore_n 1, 1) := by decide +kernel
theorem dX11_token_47 : decode cX11_token 47 = .ok (.iconst 0, 1) := by decide +kernel
theorem dX11_token_48 : decode cX11_token 48 = .ok (.istore_n 2, 1) := by decide +kernel
theorem dX11_token_49 : decode cX11_token 49 = .ok (.aload_n 0, 1) := by decide +kernel
theorem dX11_token_50 : decode cX11_token 50 = .ok (.lconst 0, 1) := by decide +kernel
theorem dX11_token_51 : decode cX11_token 51 = .ok (.putfield 177, 3) := by decide +kernel
theorem dX11_token_54 : decode cX11_token 54 = .ok (.aload_n 0, 1) := by decide +kernel
theorem dX11_token_55 : decode cX11_token 55 = .ok (.iconst 0, 1) := by decide +kernel
theorem dX11_token_56 : decode cX11_token 56 = .ok (.putfield 181, 3) := by decide +kernel
theorem dX11_token_59 : decode cX11_token 59 = .ok (.iload_n 1, 1) := by decide +kernel
theorem dX11_token_60 : decode cX11_token 60 = .ok (.ifCond .ge 11, 3) := by decide +kernel
theorem dX11_token_63 : decode cX11_token 63 = .ok (.aload_n 0, 1) := by decide +kernel
theorem dX11_token_64 : decode cX11_token 64 = .ok (.iconst 0, 1) := by decide +kernel
theorem dX11_token_65 : decode cX11_token 65 = .ok (.putfield 184, 3) := by decide +kernel
theorem dX11_token_68 : decode cX11_token 68 = .ok (.goto 164, 3) := by decide +kernel
theorem dX11_token_71 : decode cX11_token 71 = .ok (.iload_n 1, 1) := by decide +kernel
theorem dX11_token_72 : decode cX11_token 72 = .ok (.invokestatic 187, 3) := by decide +kernel
theorem dX11_token_75 : decode cX11_token 75 = .ok (.ifCond .eq 62, 3) := by decide +kernel
theorem dX11_token_78 : decode cX11_token 78 = .ok (.aload_n 0, 1) := by decide +kernel
theorem dX11_token_79 : decode cX11_token 79 = .ok (.iload_n 2, 1) := by decide +kernel
theorem dX11_token_80 : decode cX11_token 80 = .ok (.invokevirtual 170, 3) := by decide +kernel
theorem dX11_token_83 : decode cX11_token 83 = .ok (.invokestatic 187, 3) := by decide +kernel
theorem dX11_token_86 : decode cX11_token 86 = .ok (.ifCond .eq 33, 3) := by decide +kernel
theorem dX11_token_89 : decode cX11_token 89 = .ok (.iload_n 2, 1) := by decide +kernel
theorem dX11_token_90 : decode cX11_token 90 = .ok (.bipush 8, 2) := by decide +kernel
theorem dX11_token_92 : decode cX11_token 92 = .ok (.if_icmp .ge 21, 3) := by decide +kernel
theorem dX11_token_95 : decode cX11_token 95 = .ok (.aload_n 0, 1) := by decide +kernel
theorem dX11_token_96 : decode cX11_token 96 = .ok (.aload_n 0, 1) := by decide +kernel
theorem dX11_token_97 : decode cX11_token 97 = .ok (.getfield 177, 3) := by decide +kernel
theorem dX11_token_100 : decode cX11_token 100 = .ok (.bipush 8, 2) := by decide +kernel
theorem dX11_token_102 : decode cX11_token 102 = .ok (.lshl, 1) := by decide +kernel
theorem dX11_token_103 : decode cX11_token 103 = .ok (.aload_n 0, 1) := by decide +kernel
theorem dX11_token_104 : decode cX11_token 104 = .ok (.iload_n 2, 1) := by decide +kernel
theorem dX11_token_105 : decode cX11_token 105 = .ok (.invokevirtual 170, 3) := by decide +kernel
theorem dX11_token_108 : decode cX11_token 108 = .ok (.i2l, 1) := by decide +kernel
theorem dX11_token_109 : decode cX11_token 109 = .ok (.lor, 1) := by decide +kernel
theorem dX11_token_110 : decode cX11_token 110 = .ok (.putfield 177, 3) := by decide +kernel
theorem dX11_token_113 : decode cX11_token 113 = .ok (.iinc 2 1, 3) := by decide +kernel
theorem dX11_token_116 : decode cX11_token 116 = .ok (.goto (-38), 3) := by decide +kernel
theorem dX11_token_119 : decode cX11_token 119 = .ok (.aload_n 0, 1) := by decide +kernel
theorem dX11_token_120 : decode cX11_token 120 = .ok (.iload_n 2, 1) := by decide +kernel
theorem dX11_token_121 : decode cX11_token 121 = .ok (.bipush 8, 2) := by decide +kernel
theorem dX11_token_123 : decode cX11_token 123 = .ok (.if_icmp .le 7, 3) := by decide +kernel
theorem dX11_token_126 : decode cX11_token 126 = .ok (.iconst 3, 1) := by decide +kernel
theorem dX11_token_127 : decode cX11_token 127 = .ok (.goto 4, 3) := by decide +kernel
theorem dX11_token_130 : decode cX11_token 130 = .ok (.iconst 1, 1) := by decide +kernel
theorem dX11_token_131 : decode cX11_token 131 = .ok (.putfield 184, 3) := by decide +kernel
theorem dX11_token_134 : decode cX11_token 134 = .ok (.goto 98, 3) := by decide +kernel
theorem dX11_token_137 : decode cX11_token 137 = .ok (.iload_n 1, 1) := by decide +kernel
theorem dX11_token_138 : decode cX11_token 138 = .ok (.invokestatic 191, 3) := by decide +kernel
theorem dX11_token_141 : decode cX11_token 141 = .ok (.ifCond .eq 73, 3) := by decide +kernel
theorem dX11_token_144 : decode cX11_token 144 = .ok (.aload_n 0, 1) := by decide +kernel
theorem dX11_token_145 : decode cX11_token 145 = .ok (.iload_n 2, 1) := by decide +kernel
theorem dX11_token_146 : decode cX11_token 146 = .ok (.invokevirtual 170, 3) := by decide +kernel
theorem dX11_token_149 : decode cX11_token 149 = .ok (.invokestatic 191, 3) := by decide +kernel
theorem dX11_token_152 : decode cX11_token 152 = .ok (.ifCond .eq 34, 3) := by decide +kernel
theorem dX11_token_155 : decode cX11_token 155 = .ok (.iload_n 2, 1) := by decide +kernel
theorem dX11_token_156 : decode cX11_token 156 = .ok (.iconst 4, 1) := by decide +kernel
theorem dX11_token_157 : decode cX11_token 157 = .ok (.if_icmp .ge 23, 3) := by decide +kernel
theorem dX11_token_160 : decode cX11_token 160 = .ok (.aload_n 0, 1) := by decide +kernel
theorem dX11_token_161 : decode cX11_token 161 = .ok (.bipush 10, 2) := by decide +kernel
theorem dX11_token_163 : decode cX11_token 163 = .ok (.aload_n 0, 1) := by decide +kernel
theorem dX11_token_164 : decode cX11_token 164 = .ok (.getfield 181, 3) := by decide +kernel
theorem dX11_token_167 : decode cX11_token 167 = .ok (.imul, 1) := by decide +kernel
theorem dX11_token_168 : decode cX11_token 168 = .ok (.aload_n 0, 1) := by decide +kernel
theorem dX11_token_169 : decode cX11_token 169 = .ok (.iload_n 2, 1) := by decide +kernel
theorem dX11_token_170 : decode cX11_token 170 = .ok (.invokevirtual 170, 3) := by decide +kernel
theorem dX11_token_173 : decode cX11_token 173 = .ok (.iadd, 1) := by decide +kernel
theorem dX11_token_174 : decode cX11_token 174 = .ok (.bipush 48, 2) := by decide +kernel
theorem dX11_token_176 : decode cX11_token 176 = .ok (.isub, 1) := by decide +kernel
theorem dX11_token_177 : decode cX11_token 177 = .ok (.putfield 181, 3) := by decide +kernel
theorem dX11_token_180 : decode cX11_token 180 = .ok (.iinc 2 1, 3) := by decide +kernel
theorem dX11_token_183 : decode cX11_token 183 = .ok (.goto (-39), 3) := by decide +kernel
theorem dX11_token_186 : decode cX11_token 186 = .ok (.aload_n 0, 1) := by decide +kernel
theorem dX11_token_187 : decode cX11_token 187 = .ok (.iload_n 2, 1) := by decide +kernel
theorem dX11_token_188 : decode cX11_token 188 = .ok (.iconst 4, 1) := by decide +kernel
theorem dX11_token_189 : decode cX11_token 189 = .ok (.if_icmp .gt 14, 3) := by decide +kernel
theorem dX11_token_192 : decode cX11_token 192 = .ok (.aload_n 0, 1) := by decide +kernel
theorem dX11_token_193 : decode cX11_token 193 = .ok (.iload_n 2, 1) := by decide +kernel
theorem dX11_token_194 : decode cX11_token 194 = .ok (.invokevirtual 170, 3) := by decide +kernel
theorem dX11_token_197 : decode cX11_token 197 = .ok (.invokestatic 187, 3) := by decide +kernel
theorem dX11_token_200 : decode cX11_token 200 = .ok (.ifCond .eq 7, 3) := by decide +kernel
theorem dX11_token_203 : decode cX11_token 203 = .ok (.iconst 3, 1) := by decide +kernel
theorem dX11_token_204 : decode cX11_token 204 = .ok (.goto 4, 3) := by decide +kernel
theorem dX11_token_207 : decode cX11_token 207 = .ok (.iconst 2, 1) := by decide +kernel
theorem dX11_token_208 : decode cX11_token 208 = .ok (.putfield 184, 3) := by decide +kernel
theorem dX11_token_211 : decode cX11_token 211 = .ok (.goto 21, 3) := by decide +kernel
theorem dX11_token_214 : decode cX11_token 214 = .ok (.iconst 1, 1) := by decide +kernel
theorem dX11_token_215 : decode cX11_token 215 = .ok (.istore_n 2, 1) := by decide +kernel
theorem dX11_token_216 : decode cX11_token 216 = .ok (.aload_n 0, 1) := by decide +kernel
theorem dX11_token_217 : decode cX11_token 217 = .ok (.iload_n 1, 1) := by decide +kernel
theorem dX11_token_218 : decode cX11_token 218 = .ok (.invokestatic 194, 3) := by decide +kernel
theorem dX11_token_221 : decode cX11_token 221 = .ok (.ifCond .eq 7, 3) := by decide +kernel
theorem dX11_token_224 : decode cX11_token 224 = .ok (.iload_n 1, 1) := by decide +kernel
theorem dX11_token_225 : decode cX11_token 225 = .ok (.goto 4, 3) := by decide +kernel
theorem dX11_token_228 : decode cX11_token 228 = .ok (.iconst 3, 1) := by decide +kernel
theorem dX11_token_229 : decode cX11_token 229 = .ok (.putfield 184, 3) := by decide +kernel
theorem dX11_token_232 : decode cX11_token 232 = .ok (.aload_n 0, 1) := by decide +kernel
theorem dX11_token_233 : decode cX11_token 233 = .ok (.getfield 184, 3) := by decide +kernel
theorem dX11_token_236 : decode cX11_token 236 = .ok (.iconst 3, 1) := by decide +kernel
theorem dX11_token_237 : decode cX11_token 237 = .ok (.if_icmp .eq 13, 3) := by decide +kernel
theorem dX11_token_240 : decode cX11_token 240 = .ok (.aload_n 0, 1) := by decide +kernel
theorem dX11_token_241 : decode cX11_token 241 = .ok (.dup, 1) := by decide +kernel
theorem dX11_token_242 : decode cX11_token 242 = .ok (.getfield 164, 3) := by decide +kernel
theorem dX11_token_245 : decode cX11_token 245 = .ok (.iload_n 2, 1) := by decide +kernel
theorem dX11_token_246 : decode cX11_token 246 = .ok (.iadd, 1) := by decide +kernel
theorem dX11_token_247 : decode cX11_token 247 = .ok (.putfield 164, 3) := by decide +kernel
theorem dX11_token_250 : decode cX11_token 250 = .ok (.return_, 1) := by decide +kernel
theorem dX11_wrong_0 : decode cX11_wrong 0 = .ok (.aload_n 0, 1) := by decide +kernel
theorem dX11_wrong_1 : decode cX11_wrong 1 = .ok (.getfield 197, 3) := by decide +kernel
theorem dX11_wrong_4 : decode cX11_wrong 4 = .ok (.ifCond .le 4, 3) := by decide +kernel
theorem dX11_wrong_7 : decode cX11_wrong 7 = .ok (.return_, 1) := by decide +kernel
theorem dX11_wrong_8 : decode cX11_wrong 8 = .ok (.aload_n 0, 1) := by decide +kernel
theorem dX11_wrong_9 : decode cX11_wrong 9 = .ok (.aload_n 0, 1) := by decide +kernel
theorem dX11_wrong_10 : decode cX11_wrong 10 = .ok (.getfield 184, 3) := by decide +kernel
theorem dX11_wrong_13 : decode cX11_wrong 13 = .ok (.iconst 3, 1) := by decide +kernel
theorem dX11_wrong_14 : decode cX11_wrong 14 = .ok (.if_icmp .ne 7, 3) := by decide +kernel
theorem dX11_wrong_17 : decode cX11_wrong 17 = .ok (.iconst 1, 1) := by decide +kernel
theorem dX11_wrong_18 : decode cX11_wrong 18 = .ok (.goto 4, 3) := by decide +kernel
theorem dX11_wrong_21 : decode cX11_wrong 21 = .ok (.iload_n 1, 1) := by decide +kernel
theorem dX11_wrong_22 : decode cX11_wrong 22 = .ok (.putfield 197, 3) := by decide +kernel
theorem dX11_wrong_25 : decode cX11_wrong 25 = .ok (.aload_n 0, 1) := by decide +kernel
theorem dX11_wrong_26 : decode cX11_wrong 26 = .ok (.aload_n 0, 1) := by decide +kernel
theorem dX11_wrong_27 : decode cX11_wrong 27 = .ok (.getfield 174, 3) := by decide +kernel
theorem dX11_wrong_30 : decode cX11_wrong 30 = .ok (.putfield 13, 3) := by decide +kernel
theorem dX11_wrong_33 : decode cX11_wrong 33 = .ok (.return_, 1) := by decide +kernel
theorem dX11_isWord_0 : decode cX11_isWord 0 = .ok (.aload_n 0, 1) := by decide +kernel
theorem dX11_isWord_1 : decode cX11_isWord 1 = .ok (.getfield 184, 3) := by decide +kernel
theorem dX11_isWord_4 : decode cX11_isWord 4 = .ok (.iconst 1, 1) := by decide +kernel
theorem dX11_isWord_5 : decode cX11_isWord 5 = .ok (.if_icmp .ne 16, 3) := by decide +kernel
theorem dX11_isWord_8 : decode cX11_isWord 8 = .ok (.aload_n 0, 1) := by decide +kernel
theorem dX11_isWord_9 : decode cX11_isWord 9 = .ok (.getfield 177, 3) := by decide +kernel
theorem dX11_isWord_12 : decode cX11_isWord 12 = .ok (.lload_n 1, 1) := by decide +kernel
theorem dX11_isWord_13 : decode cX11_isWord 13 = .ok (.lcmp, 1) := by decide +kernel
theorem dX11_isWord_14 : decode cX11_isWord 14 = .ok (.ifCond .ne 7, 3) := by decide +kernel
theorem dX11_isWord_17 : decode cX11_isWord 17 = .ok (.iconst 1, 1) := by decide +kernel
theorem dX11_isWord_18 : decode cX11_isWord 18 = .ok (.goto 4, 3) := by decide +kernel
theorem dX11_isWord_21 : decode cX11_isWord 21 = .ok (.iconst 0, 1) := by decide +kernel
theorem dX11_isWord_22 : decode cX11_isWord 22 = .ok (.ireturn, 1) := by decide +kernel
theorem dX11_isOwn_0 : decode cX11_isOwn 0 = .ok (.aload_n 0, 1) := by decide +kernel
theorem dX11_isOwn_1 : decode cX11_isOwn 1 = .ok (.getfield 177, 3) := by decide +kernel
theorem dX11_isOwn_4 : decode cX11_isOwn 4 = .ok (.ldc2_w 200, 3) := by decide +kernel
theorem dX11_isOwn_7 : decode cX11_isOwn 7 = .ok (.lcmp, 1) := by decide +kernel
theorem dX11_isOwn_8 : decode cX11_isOwn 8 = .ok (.ifCond .eq 201, 3) := by decide +kernel
theorem dX11_isOwn_11 : decode cX11_isOwn 11 = .ok (.aload_n 0, 1) := by decide +kernel
theorem dX11_isOwn_12 : decode cX11_isOwn 12 = .ok (.getfield 177, 3) := by decide +kernel
theorem dX11_isOwn_15 : decode cX11_isOwn 15 = .ok (.ldc2_w 202, 3) := by decide +kernel
theorem dX11_isOwn_18 : decode cX11_isOwn 18 = .ok (.lcmp, 1) := by decide +kernel
theorem dX11_isOwn_19 : decode cX11_isOwn 19 = .ok (.ifCond .eq 190, 3) := by decide +kernel
theorem dX11_isOwn_22 : decode cX11_isOwn 22 = .ok (.aload_n 0, 1) := by decide +kernel
theorem dX11_isOwn_23 : decode cX11_isOwn 23 = .ok (.getfield 177, 3) := by decide +kernel
theorem dX11_isOwn_26 : decode cX11_isOwn 26 = .ok (.ldc2_w 204, 3) := by decide +kernel
theorem dX11_isOwn_29 : decode cX11_isOwn 29 = .ok (.lcmp, 1) := by decide +kernel
theorem dX11_isOwn_30 : decode cX11_isOwn 30 = .ok (.ifCond .eq 179, 3) := by decide +kernel
theorem dX11_isOwn_33 : decode cX11_isOwn 33 = .ok (.aload_n 0, 1) := by decide +kernel
theorem dX11_isOwn_34 : decode cX11_isOwn 34 = .ok (.getfield 177, 3) := by decide +kernel
theorem dX11_isOwn_37 : decode cX11_isOwn 37 = .ok (.ldc2_w 206, 3) := by decide +kernel
theorem dX11_isOwn_40 : decode cX11_isOwn 40 = .ok (.lcmp, 1) := by decide +kernel
theorem dX11_isOwn_41 : decode cX11_isOwn 41 = .ok (.ifCond .eq 168, 3) := by decide +kernel
theorem dX11_isOwn_44 : decode cX11_isOwn 44 = .ok (.aload_n 0, 1) := by decide +kernel
theorem dX11_isOwn_45 : decode cX11_isOwn 45 = .ok (.getfield 177, 3) := by decide +kernel
theorem dX11_isOwn_48 : decode cX11_isOwn 48 = .ok (.ldc2_w 208, 3) := by decide +kernel
theorem dX11_isOwn_51 : decode cX11_isOwn 51 = .ok (.lcmp, 1) := by decide +kernel
theorem dX11_isOwn_52 : decode cX11_isOwn 52 = .ok (.ifCond .eq 157, 3) := by decide +kernel
theorem dX11_isOwn_55 : decode cX11_isOwn 55 = .ok (.aload_n 0, 1) := by decide +kernel
theorem dX11_isOwn_56 : decode cX11_isOwn 56 = .ok (.getfield 177, 3) := by decide +kernel
theorem dX11_isOwn_59 : decode cX11_isOwn 59 = .ok (.ldc2_w 210, 3) := by decide +kernel
theorem dX11_isOwn_62 : decode cX11_isOwn 62 = .ok (.lcmp, 1) := by decide +kernel
theorem dX11_isOwn_63 : decode cX11_isOwn 63 = .ok (.ifCond .eq 146, 3) := by decide +kernel
theorem dX11_isOwn_66 : decode cX11_isOwn 66 = .ok (.aload_n 0, 1) := by decide +kernel
theorem dX11_isOwn_67 : decode cX11_isOwn 67 = .ok (.getfield 177, 3) := by decide +kernel
theorem dX11_isOwn_70 : decode cX11_isOwn 70 = .ok (.ldc2_w 212, 3) := by decide +kernel
theorem dX11_isOwn_73 : decode cX11_isOwn 73 = .ok (.lcmp, 1) := by decide +kernel
theorem dX11_isOwn_74 : decode cX11_isOwn 74 = .ok (.ifCond .eq 135, 3) := by decide +kernel
theorem dX11_isOwn_77 : decode cX11_isOwn 77 = .ok (.aload_n 0, 1) := by decide +kernel
theorem dX11_isOwn_78 : decode cX11_isOwn 78 = .ok (.getfield 177, 3) := by decide +kernel
theorem dX11_isOwn_81 : decode cX11_isOwn 81 = .ok (.ldc2_w 214, 3) := by decide +kernel
theorem dX11_isOwn_84 : decode cX11_isOwn 84 = .ok (.lcmp, 1) := by decide +kernel
theorem dX11_isOwn_85 : decode cX11_isOwn 85 = .ok (.ifCond .eq 124, 3) := by decide +kernel
theorem dX11_isOwn_88 : decode cX11_isOwn 88 = .ok (.aload_n 0, 1) := by decide +kernel
theorem dX11_isOwn_89 : decode cX11_isOwn 89 = .ok (.getfield 177, 3) := by decide +kernel
theorem dX11_isOwn_92 : decode cX11_isOwn 92 = .ok (.ldc2_w 216, 3) := by decide +kernel
theorem dX11_isOwn_95 : decode cX11_isOwn 95 = .ok (.lcmp, 1) := by decide +kernel
theorem dX11_isOwn_96 : decode cX11_isOwn 96 = .ok (.ifCond .eq 113, 3) := by decide +kernel
theorem dX11_isOwn_99 : decode cX11_isOwn 99 = .ok (.aload_n 0, 1) := by decide +kernel
theorem dX11_isOwn_100 : decode cX11_isOwn 100 = .ok (.getfield 177, 3) := by decide +kernel
theorem dX11_isOwn_103 : decode cX11_isOwn 103 = .ok (.ldc2_w 218, 3) := by decide +kernel
theorem dX11_isOwn_106 : decode cX11_isOwn 106 = .ok (.lcmp, 1) := by decide +kernel
theorem dX11_isOwn_107 : decode cX11_isOwn 107 = .ok (.ifCond .eq 102, 3) := by decide +kernel
theorem dX11_isOwn_110 : decode cX11_isOwn 110 = .ok (.aload_n 0, 1) := by decide +kernel
theorem dX11_isOwn_111 : decode cX11_isOwn 111 = .ok (.getfield 177, 3) := by decide +kernel
theorem dX11_isOwn_114 : decode cX11_isOwn 114 = .ok (.ldc2_w 220, 3) := by decide +kernel
theorem dX11_isOwn_117 : decode cX11_isOwn 117 = .ok (.lcmp, 1) := by decide +kernel
theorem dX11_isOwn_118 : decode cX11_isOwn 118 = .ok (.ifCond .eq 91, 3) := by decide +kernel
theorem dX11_isOwn_121 : decode cX11_isOwn 121 = .ok (.aload_n 0, 1) := by decide +kernel
theorem dX11_isOwn_122 : decode cX11_isOwn 122 = .ok (.getfield 177, 3) := by decide +kernel
theorem dX11_isOwn_125 : decode cX11_isOwn 125 = .ok (.ldc2_w 222, 3) := by decide +kernel
theorem dX11_isOwn_128 : decode cX11_isOwn 128 = .ok (.lcmp, 1) := by decide +kernel
theorem dX11_isOwn_129 : decode cX11_isOwn 129 = .ok (.ifCond .eq 80, 3) := by decide +kernel
theorem dX11_isOwn_132 : decode cX11_isOwn 132 = .ok (.aload_n 0, 1) := by decide +kernel
theorem dX11_isOwn_133 : decode cX11_isOwn 133 = .ok (.getfield 177, 3) := by decide +kernel
theorem dX11_isOwn_136 : decode cX11_isOwn 136 = .ok (.ldc2_w 224, 3) := by decide +kernel
theorem dX11_isOwn_139 : decode cX11_isOwn 139 = .ok (.lcmp, 1) := by decide +kernel
theorem dX11_isOwn_140 : decode cX11_isOwn 140 = .ok (.ifCond .eq 69, 3) := by decide +kernel
theorem dX11_isOwn_143 : decode cX11_isOwn 143 = .ok (.aload_n 0, 1) := by decide +kernel
theorem dX11_isOwn_144 : decode cX11_isOwn 144 = .ok (.getfield 177, 3) := by decide +kernel
theorem dX11_isOwn_147 : decode cX11_isOwn 147 = .ok (.ldc2_w 226, 3) := by decide +kernel
theorem dX11_isOwn_150 : decode cX11_isOwn 150 = .ok (.lcmp, 1) := by decide +kernel
theorem dX11_isOwn_151 : decode cX11_isOwn 151 = .ok (.ifCond .eq 58, 3) := by decide +kernel
theorem dX11_isOwn_154 : decode cX11_isOwn 154 = .ok (.aload_n 0, 1) := by decide +kernel
theorem dX11_isOwn_155 : decode cX11_isOwn 155 = .ok (.getfield 177, 3) := by decide +kernel
theorem dX11_isOwn_158 : decode cX11_isOwn 158 = .ok (.ldc2_w 228, 3) := by decide +kernel
theorem dX11_isOwn_161 : decode cX11_isOwn 161 = .ok (.lcmp, 1) := by decide +kernel
theorem dX11_isOwn_162 : decode cX11_isOwn 162 = .ok (.ifCond .eq 47, 3) := by decide +kernel
theorem dX11_isOwn_165 : decode cX11_isOwn 165 = .ok (.aload_n 0, 1) := by decide +kernel
theorem dX11_isOwn_166 : decode cX11_isOwn 166 = .ok (.getfield 177, 3) := by decide +kernel
theorem dX11_isOwn_169 : decode cX11_isOwn 169 = .ok (.ldc2_w 230, 3) := by decide +kernel
theorem dX11_isOwn_172 : decode cX11_isOwn 172 = .ok (.lcmp, 1) := by decide +kernel
theorem dX11_isOwn_173 : decode cX11_isOwn 173 = .ok (.ifCond .eq 36, 3) := by decide +kernel
theorem dX11_isOwn_176 : decode cX11_isOwn 176 = .ok (.aload_n 0, 1) := by decide +kernel
theorem dX11_isOwn_177 : decode cX11_isOwn 177 = .ok (.getfield 177, 3) := by decide +kernel
theorem dX11_isOwn_180 : decode cX11_isOwn 180 = .ok (.ldc2_w 232, 3) := by decide +kernel
theorem dX11_isOwn_183 : decode cX11_isOwn 183 = .ok (.lcmp, 1) := by decide +kernel
theorem dX11_isOwn_184 : decode cX11_isOwn 184 = .ok (.ifCond .eq 25, 3) := by decide +kernel
theorem dX11_isOwn_187 : decode cX11_isOwn 187 = .ok (.aload_n 0, 1) := by decide +kernel
theorem dX11_isOwn_188 : decode cX11_isOwn 188 = .ok (.getfield 177, 3) := by decide +kernel
theorem dX11_isOwn_191 : decode cX11_isOwn 191 = .ok (.ldc2_w 234, 3) := by decide +kernel
theorem dX11_isOwn_194 : decode cX11_isOwn 194 = .ok (.lcmp, 1) := by decide +kernel
theorem dX11_isOwn_195 : decode cX11_isOwn 195 = .ok (.ifCond .eq 14, 3) := by decide +kernel
theorem dX11_isOwn_198 : decode cX11_isOwn 198 = .ok (.aload_n 0, 1) := by decide +kernel
theorem dX11_isOwn_199 : decode cX11_isOwn 199 = .ok (.getfield 177, 3) := by decide +kernel
theorem dX11_isOwn_202 : decode cX11_isOwn 202 = .ok (.ldc2_w 236, 3) := by decide +kernel
theorem dX11_isOwn_205 : decode cX11_isOwn 205 = .ok (.lcmp, 1) := by decide +kernel
theorem dX11_isOwn_206 : decode cX11_isOwn 206 = .ok (.ifCond .ne 7, 3) := by decide +kernel
theorem dX11_isOwn_209 : decode cX11_isOwn 209 = .ok (.iconst 1, 1) := by decide +kernel
theorem dX11_isOwn_210 : decode cX11_isOwn 210 = .ok (.goto 4, 3) := by decide +kernel
theorem dX11_isOwn_213 : decode cX11_isOwn 213 = .ok (.iconst 0, 1) := by decide +kernel
theorem dX11_isOwn_214 : decode cX11_isOwn 214 = .ok (.ireturn, 1) := by decide +kernel
theorem dX11_isName_0 : decode cX11_isName 0 = .ok (.aload_n 0, 1) := by decide +kernel
theorem dX11_isName_1 : decode cX11_isName 1 = .ok (.getfield 184, 3) := by decide +kernel
theorem dX11_isName_4 : decode cX11_isName 4 = .ok (.iconst 1, 1) := by decide +kernel
theorem dX11_isName_5 : decode cX11_isName 5 = .ok (.if_icmp .ne 14, 3) := by decide +kernel
theorem dX11_isName_8 : decode cX11_isName 8 = .ok (.aload_n 0, 1) := by decide +kernel
theorem dX11_isName_9 : decode cX11_isName 9 = .ok (.invokevirtual 238, 3) := by decide +kernel
theorem dX11_isName_12 : decode cX11_isName 12 = .ok (.ifCond .ne 7, 3) := by decide +kernel
theorem dX11_isName_15 : decode cX11_isName 15 = .ok (.iconst 1, 1) := by decide +kernel
theorem dX11_isName_16 : decode cX11_isName 16 = .ok (.goto 4, 3) := by decide +kernel
theorem dX11_isName_19 : decode cX11_isName 19 = .ok (.iconst 0, 1) := by decide +kernel
theorem dX11_isName_20 : decode cX11_isName 20 = .ok (.ireturn, 1) := by decide +kernel
theorem dX11_want_0 : decode cX11_want 0 = .ok (.aload_n 0, 1) := by decide +kernel
theorem dX11_want_1 : decode cX11_want 1 = .ok (.getfield 197, 3) := by decide +kernel
theorem dX11_want_4 : decode cX11_want 4 = .ok (.ifCond .le 4, 3) := by decide +kernel
theorem dX11_want_7 : decode cX11_want 7 = .ok (.return_, 1) := by decide +kernel
theorem dX11_want_8 : decode cX11_want 8 = .ok (.aload_n 0, 1) := by decide +kernel
theorem dX11_want_9 : decode cX11_want 9 = .ok (.lload_n 1, 1) := by decide +kernel
theorem dX11_want_10 : decode cX11_want 10 = .ok (.invokevirtual 242, 3) := by decide +kernel
theorem dX11_want_13 : decode cX11_want 13 = .ok (.ifCond .ne 11, 3) := by decide +kernel
theorem dX11_want_16 : decode cX11_want 16 = .ok (.aload_n 0, 1) := by decide +kernel
theorem dX11_want_17 : decode cX11_want 17 = .ok (.iconst 2, 1) := by decide +kernel
theorem dX11_want_18 : decode cX11_want 18 = .ok (.invokevirtual 246, 3) := by decide +kernel
theorem dX11_want_21 : decode cX11_want 21 = .ok (.goto 7, 3) := by decide +kernel
theorem dX11_want_24 : decode cX11_want 24 = .ok (.aload_n 0, 1) := by decide +kernel
theorem dX11_want_25 : decode cX11_want 25 = .ok (.invokevirtual 249, 3) := by decide +kernel
theorem dX11_want_28 : decode cX11_want 28 = .ok (.return_, 1) := by decide +kernel
theorem dX11_toldNumber_0 : decode cX11_toldNumber 0 = .ok (.aload_n 0, 1) := by decide +kernel
theorem dX11_toldNumber_1 : decode cX11_toldNumber 1 = .ok (.getfield 197, 3) := by decide +kernel
theorem dX11_toldNumber_4 : decode cX11_toldNumber 4 = .ok (.ifCond .le 5, 3) := by decide +kernel
theorem dX11_toldNumber_7 : decode cX11_toldNumber 7 = .ok (.iconst 0, 1) := by decide +kernel
theorem dX11_toldNumber_8 : decode cX11_toldNumber 8 = .ok (.ireturn, 1) := by decide +kernel
theorem dX11_toldNumber_9 : decode cX11_toldNumber 9 = .ok (.aload_n 0, 1) := by decide +kernel
theorem dX11_toldNumber_10 : decode cX11_toldNumber 10 = .ok (.getfield 184, 3) := by decide +kernel
theorem dX11_toldNumber_13 : decode cX11_toldNumber 13 = .ok (.iconst 2, 1) := by decide +kernel
theorem dX11_toldNumber_14 : decode cX11_toldNumber 14 = .ok (.if_icmp .eq 11, 3) := by decide +kernel
theorem dX11_toldNumber_17 : decode cX11_toldNumber 17 = .ok (.aload_n 0, 1) := by decide +kernel
theorem dX11_toldNumber_18 : decode cX11_toldNumber 18 = .ok (.iconst 2, 1) := by decide +kernel
theorem dX11_toldNumber_19 : decode cX11_toldNumber 19 = .ok (.invokevirtual 246, 3) := by decide +kernel
theorem dX11_toldNumber_22 : decode cX11_toldNumber 22 = .ok (.goto 24, 3) := by decide +kernel
theorem dX11_toldNumber_25 : decode cX11_toldNumber 25 = .ok (.aload_n 0, 1) := by decide +kernel
theorem dX11_toldNumber_26 : decode cX11_toldNumber 26 = .ok (.getfield 181, 3) := by decide +kernel
theorem dX11_toldNumber_29 : decode cX11_toldNumber 29 = .ok (.iload_n 1, 1) := by decide +kernel
theorem dX11_toldNumber_30 : decode cX11_toldNumber 30 = .ok (.if_icmp .lt 11, 3) := by decide +kernel
theorem dX11_toldNumber_33 : decode cX11_toldNumber 33 = .ok (.aload_n 0, 1) := by decide +kernel
theorem dX11_toldNumber_34 : decode cX11_toldNumber 34 = .ok (.getfield 181, 3) := by decide +kernel
theorem dX11_toldNumber_37 : decode cX11_toldNumber 37 = .ok (.iload_n 2, 1) := by decide +kernel
theorem dX11_toldNumber_38 : decode cX11_toldNumber 38 = .ok (.if_icmp .le 8, 3) := by decide +kernel
theorem dX11_toldNumber_41 : decode cX11_toldNumber 41 = .ok (.aload_n 0, 1) := by decide +kernel
theorem dX11_toldNumber_42 : decode cX11_toldNumber 42 = .ok (.iconst 4, 1) := by decide +kernel
theorem dX11_toldNumber_43 : decode cX11_toldNumber 43 = .ok (.invokevirtual 246, 3) := by decide +kernel
theorem dX11_toldNumber_46 : decode cX11_toldNumber 46 = .ok (.aload_n 0, 1) := by decide +kernel
theorem dX11_toldNumber_47 : decode cX11_toldNumber 47 = .ok (.getfield 181, 3) := by decide +kernel
theorem dX11_toldNumber_50 : decode cX11_toldNumber 50 = .ok (.istore_n 3, 1) := by decide +kernel
theorem dX11_toldNumber_51 : decode cX11_toldNumber 51 = .ok (.aload_n 0, 1) := by decide +kernel
theorem dX11_toldNumber_52 : decode cX11_toldNumber 52 = .ok (.getfield 197, 3) := by decide +kernel
theorem dX11_toldNumber_55 : decode cX11_toldNumber 55 = .ok (.ifCond .ne 7, 3) := by decide +kernel
theorem dX11_toldNumber_58 : decode cX11_toldNumber 58 = .ok (.aload_n 0, 1) := by decide +kernel
theorem dX11_toldNumber_59 : decode cX11_toldNumber 59 = .ok (.invokevirtual 249, 3) := by decide +kernel
theorem dX11_toldNumber_62 : decode cX11_toldNumber 62 = .ok (.iload_n 3, 1) := by decide +kernel
theorem dX11_toldNumber_63 : decode cX11_toldNumber 63 = .ok (.ireturn, 1) := by decide +kernel
theorem dX11_told_0 : decode cX11_told 0 = .ok (.aload_n 0, 1) := by decide +kernel
theorem dX11_told_1 : decode cX11_told 1 = .ok (.lload_n 1, 1) := by decide +kernel
theorem dX11_told_2 : decode cX11_told 2 = .ok (.invokevirtual 252, 3) := by decide +kernel
theorem dX11_told_5 : decode cX11_told 5 = .ok (.aload_n 0, 1) := by decide +kernel
theorem dX11_told_6 : decode cX11_told 6 = .ok (.iload_n 3, 1) := by decide +kernel
theorem dX11_told_7 : decode cX11_told 7 = .ok (.iload 4, 2) := by decide +kernel
theorem dX11_told_9 : decode cX11_told 9 = .ok (.invokevirtual 256, 3) := by decide +kernel
theorem dX11_told_12 : decode cX11_told 12 = .ok (.ireturn, 1) := by decide +kernel
theorem dX11_takes_0 : decode cX11_takes 0 = .ok (.aload_n 0, 1) := by decide +kernel
theorem dX11_takes_1 : decode cX11_takes 1 = .ok (.getfield 197, 3) := by decide +kernel
theorem dX11_takes_4 : decode cX11_takes 4 = .ok (.ifCond .ne 15, 3) := by decide +kernel
theorem dX11_takes_7 : decode cX11_takes 7 = .ok (.aload_n 0, 1) := by decide +kernel
theorem dX11_takes_8 : decode cX11_takes 8 = .ok (.lload_n 1, 1) := by decide +kernel
theorem dX11_takes_9 : decode cX11_takes 9 = .ok (.invokevirtual 242, 3) := by decide +kernel
theorem dX11_takes_12 : decode cX11_takes 12 = .ok (.ifCond .eq 7, 3) := by decide +kernel
theorem dX11_takes_15 : decode cX11_takes 15 = .ok (.iconst 1, 1) := by decide +kernel
theorem dX11_takes_16 : decode cX11_takes 16 = .ok (.goto 4, 3) := by decide +kernel
theorem dX11_takes_19 : decode cX11_takes 19 = .ok (.iconst 0, 1) := by decide +kernel
theorem dX11_takes_20 : decode cX11_takes 20 = .ok (.istore_n 3, 1) := by decide +kernel
theorem dX11_takes_21 : decode cX11_takes 21 = .ok (.iload_n 3, 1) := by decide +kernel
theorem dX11_takes_22 : decode cX11_takes 22 = .ok (.ifCond .eq 7, 3) := by decide +kernel
theorem dX11_takes_25 : decode cX11_takes 25 = .ok (.aload_n 0, 1) := by decide +kernel
theorem dX11_takes_26 : decode cX11_takes 26 = .ok (.invokevirtual 249, 3) := by decide +kernel
theorem dX11_takes_29 : decode cX11_takes 29 = .ok (.iload_n 3, 1) := by decide +kernel
theorem dX11_takes_30 : decode cX11_takes 30 = .ok (.ireturn, 1) := by decide +kernel
theorem dX11_find_0 : decode cX11_find 0 = .ok (.iconst (-1), 1) := by decide +kernel
theorem dX11_find_1 : decode cX11_find 1 = .ok (.istore_n 3, 1) := by decide +kernel
theorem dX11_find_2 : decode cX11_find 2 = .ok (.iconst 0, 1) := by decide +kernel
theorem dX11_find_3 : decode cX11_find 3 = .ok (.istore 4, 2) := by decide +kernel
theorem dX11_find_5 : decode cX11_find 5 = .ok (.iload 4, 2) := by decide +kernel
theorem dX11_find_7 : decode cX11_find 7 = .ok (.iload_n 2, 1) := by decide +kernel
theorem dX11_find_8 : decode cX11_find 8 = .ok (.if_icmp .ge 33, 3) := by decide +kernel
theorem dX11_find_11 : decode cX11_find 11 = .ok (.aload_n 0, 1) := by decide +kernel
theorem dX11_find_12 : decode cX11_find 12 = .ok (.getfield 17, 3) := by decide +kernel
theorem dX11_find_15 : decode cX11_find 15 = .ok (.iload_n 1, 1) := by decide +kernel
theorem dX11_find_16 : decode cX11_find 16 = .ok (.iload 4, 2) := by decide +kernel
theorem dX11_find_18 : decode cX11_find 18 = .ok (.iadd, 1) := by decide +kernel
theorem dX11_find_19 : decode cX11_find 19 = .ok (.laload, 1) := by decide +kernel
theorem dX11_find_20 : decode cX11_find 20 = .ok (.aload_n 0, 1) := by decide +kernel
theorem dX11_find_21 : decode cX11_find 21 = .ok (.getfield 177, 3) := by decide +kernel
theorem dX11_find_24 : decode cX11_find 24 = .ok (.lcmp, 1) := by decide +kernel
theorem dX11_find_25 : decode cX11_find 25 = .ok (.ifCond .ne 8, 3) := by decide +kernel
theorem dX11_find_28 : decode cX11_find 28 = .ok (.iload 4, 2) := by decide +kernel
theorem dX11_find_30 : decode cX11_find 30 = .ok (.goto 4, 3) := by decide +kernel
theorem dX11_find_33 : decode cX11_find 33 = .ok (.iload_n 3, 1) := by decide +kernel
theorem dX11_find_34 : decode cX11_find 34 = .ok (.istore_n 3, 1) := by decide +kernel
theorem dX11_find_35 : decode cX11_find 35 = .ok (.iinc 4 1, 3) := by decide +kernel
theorem dX11_find_38 : decode cX11_find 38 = .ok (.goto (-33), 3) := by decide +kernel
theorem dX11_find_41 : decode cX11_find 41 = .ok (.iload_n 3, 1) := by decide +kernel
theorem dX11_find_42 : decode cX11_find 42 = .ok (.ireturn, 1) := by decide +kernel
theorem dX11_newName_0 : decode cX11_newName 0 = .ok (.aload_n 0, 1) := by decide +kernel
theorem dX11_newName_1 : decode cX11_newName 1 = .ok (.invokevirtual 249, 3) := by decide +kernel
theorem dX11_newName_4 : decode cX11_newName 4 = .ok (.aload_n 0, 1) := by decide +kernel
theorem dX11_newName_5 : decode cX11_newName 5 = .ok (.invokevirtual 260, 3) := by decide +kernel
theorem dX11_newName_8 : decode cX11_newName 8 = .ok (.ifCond .ne 11, 3) := by decide +kernel
theorem dX11_newName_11 : decode cX11_newName 11 = .ok (.aload_n 0, 1) := by decide +kernel
theorem dX11_newName_12 : decode cX11_newName 12 = .ok (.iconst 2, 1) := by decide +kernel
theorem dX11_newName_13 : decode cX11_newName 13 = .ok (.invokevirtual 246, 3) := by decide +kernel
theorem dX11_newName_16 : decode cX11_newName 16 = .ok (.goto 17, 3) := by decide +kernel
theorem dX11_newName_19 : decode cX11_newName 19 = .ok (.aload_n 0, 1) := by decide +kernel
theorem dX11_newName_20 : decode cX11_newName 20 = .ok (.iload_n 1, 1) := by decide +kernel
theorem dX11_newName_21 : decode cX11_newName 21 = .ok (.iload_n 2, 1) := by decide +kernel
theorem dX11_newName_22 : decode cX11_newName 22 = .ok (.invokevirtual 263, 3) := by decide +kernel
theorem dX11_newName_25 : decode cX11_newName 25 = .ok (.ifCond .lt 8, 3) := by decide +kernel
theorem dX11_newName_28 : decode cX11_newName 28 = .ok (.aload_n 0, 1) := by decide +kernel
theorem dX11_newName_29 : decode cX11_newName 29 = .ok (.iconst 3, 1) := by decide +kernel
theorem dX11_newName_30 : decode cX11_newName 30 = .ok (.invokevirtual 246, 3) := by decide +kernel
theorem dX11_newName_33 : decode cX11_newName 33 = .ok (.aload_n 0, 1) := by decide +kernel
theorem dX11_newName_34 : decode cX11_newName 34 = .ok (.getfield 197, 3) := by decide +kernel
theorem dX11_newName_37 : decode cX11_newName 37 = .ok (.ifCond .le 4, 3) := by decide +kernel
theorem dX11_newName_40 : decode cX11_newName 40 = .ok (.return_, 1) := by decide +kernel
theorem dX11_newName_41 : decode cX11_newName 41 = .ok (.aload_n 0, 1) := by decide +kernel
theorem dX11_newName_42 : decode cX11_newName 42 = .ok (.getfield 17, 3) := by decide +kernel
theorem dX11_newName_45 : decode cX11_newName 45 = .ok (.iload_n 1, 1) := by decide +kernel
theorem dX11_newName_46 : decode cX11_newName 46 = .ok (.iload_n 2, 1) := by decide +kernel
theorem dX11_newName_47 : decode cX11_newName 47 = .ok (.iadd, 1) := by decide +kernel
theorem dX11_newName_48 : decode cX11_newName 48 = .ok (.aload_n 0, 1) := by decide +kernel
theorem dX11_newName_49 : decode cX11_newName 49 = .ok (.getfield 177, 3) := by decide +kernel
theorem dX11_newName_52 : decode cX11_newName 52 = .ok (.lastore, 1) := by decide +kernel
theorem dX11_newName_53 : decode cX11_newName 53 = .ok (.aload_n 0, 1) := by decide +kernel
theorem dX11_newName_54 : decode cX11_newName 54 = .ok (.invokevirtual 249, 3) := by decide +kernel
theorem dX11_newName_57 : decode cX11_newName 57 = .ok (.return_, 1) := by decide +kernel
theorem dX11_oldName_0 : decode cX11_oldName 0 = .ok (.aload_n 0, 1) := by decide +kernel
theorem dX11_oldName_1 : decode cX11_oldName 1 = .ok (.getfield 197, 3) := by decide +kernel
theorem dX11_oldName_4 : decode cX11_oldName 4 = .ok (.ifCond .le 5, 3) := by decide +kernel
theorem dX11_oldName_7 : decode cX11_oldName 7 = .ok (.iconst 0, 1) := by decide +kernel
theorem dX11_oldName_8 : decode cX11_oldName 8 = .ok (.ireturn, 1) := by decide +kernel
theorem dX11_oldName_9 : decode cX11_oldName 9 = .ok (.aload_n 0, 1) := by decide +kernel
theorem dX11_oldName_10 : decode cX11_oldName 10 = .ok (.invokevirtual 260, 3) := by decide +kernel
theorem dX11_oldName_13 : decode cX11_oldName 13 = .ok (.ifCond .ne 11, 3) := by decide +kernel
theorem dX11_oldName_16 : decode cX11_oldName 16 = .ok (.aload_n 0, 1) := by decide +kernel
theorem dX11_oldName_17 : decode cX11_oldName 17 = .ok (.iconst 2, 1) := by decide +kernel
theorem dX11_oldName_18 : decode cX11_oldName 18 = .ok (.invokevirtual 246, 3) := by decide +kernel
theorem dX11_oldName_21 : decode cX11_oldName 21 = .ok (.goto 17, 3) := by decide +kernel
theorem dX11_oldName_24 : decode cX11_oldName 24 = .ok (.aload_n 0, 1) := by decide +kernel
theorem dX11_oldName_25 : decode cX11_oldName 25 = .ok (.iload_n 1, 1) := by decide +kernel
theorem dX11_oldName_26 : decode cX11_oldName 26 = .ok (.iload_n 2, 1) := by decide +kernel
theorem dX11_oldName_27 : decode cX11_oldName 27 = .ok (.invokevirtual 263, 3) := by decide +kernel
theorem dX11_oldName_30 : decode cX11_oldName 30 = .ok (.ifCond .ge 8, 3) := by decide +kernel
theorem dX11_oldName_33 : decode cX11_oldName 33 = .ok (.aload_n 0, 1) := by decide +kernel
theorem dX11_oldName_34 : decode cX11_oldName 34 = .ok (.iconst 5, 1) := by decide +kernel
theorem dX11_oldName_35 : decode cX11_oldName 35 = .ok (.invokevirtual 246, 3) := by decide +kernel
theorem dX11_oldName_38 : decode cX11_oldName 38 = .ok (.aload_n 0, 1) := by decide +kernel
theorem dX11_oldName_39 : decode cX11_oldName 39 = .ok (.getfield 197, 3) := by decide +kernel
theorem dX11_oldName_42 : decode cX11_oldName 42 = .ok (.ifCond .le 7, 3) := by decide +kernel
theorem dX11_oldName_45 : decode cX11_oldName 45 = .ok (.iconst 0, 1) := by decide +kernel
theorem dX11_oldName_46 : decode cX11_oldName 46 = .ok (.goto 9, 3) := by decide +kernel
theorem dX11_oldName_49 : decode cX11_oldName 49 = .ok (.aload_n 0, 1) := by decide +kernel
theorem dX11_oldName_50 : decode cX11_oldName 50 = .ok (.iload_n 1, 1) := by decide +kernel
theorem dX11_oldName_51 : decode cX11_oldName 51 = .ok (.iload_n 2, 1) := by decide +kernel
theorem dX11_oldName_52 : decode cX11_oldName 52 = .ok (.invokevirtual 263, 3) := by decide +kernel
theorem dX11_oldName_55 : decode cX11_oldName 55 = .ok (.ireturn, 1) := by decide +kernel
theorem dX11_figure_0 : decode cX11_figure 0 = .ok (.aload_n 0, 1) := by decide +kernel
theorem dX11_figure_1 : decode cX11_figure 1 = .ok (.iconst 0, 1) := by decide +kernel
theorem dX11_figure_2 : decode cX11_figure 2 = .ok (.aload_n 0, 1) := by decide +kernel
theorem dX11_figure_3 : decode cX11_figure 3 = .ok (.getfield 266, 3) := by decide +kernel
theorem dX11_figure_6 : decode cX11_figure 6 = .ok (.invokevirtual 269, 3) := by decide +kernel
theorem dX11_figure_9 : decode cX11_figure 9 = .ok (.istore_n 1, 1) := by decide +kernel
theorem dX11_figure_10 : decode cX11_figure 10 = .ok (.aload_n 0, 1) := by decide +kernel
theorem dX11_figure_11 : decode cX11_figure 11 = .ok (.getfield 197, 3) := by decide +kernel
theorem dX11_figure_14 : decode cX11_figure 14 = .ok (.ifCond .ne 7, 3) := by decide +kernel
theorem dX11_figure_17 : decode cX11_figure 17 = .ok (.aload_n 0, 1) := by decide +kernel
theorem dX11_figure_18 : decode cX11_figure 18 = .ok (.invokevirtual 249, 3) := by decide +kernel
theorem dX11_figure_21 : decode cX11_figure 21 = .ok (.iload_n 1, 1) := by decide +kernel
theorem dX11_figure_22 : decode cX11_figure 22 = .ok (.ireturn, 1) := by decide +kernel
theorem dX11_add_0 : decode cX11_add 0 = .ok (.aload_n 0, 1) := by decide +kernel
theorem dX11_add_1 : decode cX11_add 1 = .ok (.getfield 21, 3) := by decide +kernel
theorem dX11_add_4 : decode cX11_add 4 = .ok (.aload_n 0, 1) := by decide +kernel
theorem dX11_add_5 : decode cX11_add 5 = .ok (.getfield 272, 3) := by decide +kernel
theorem dX11_add_8 : decode cX11_add 8 = .ok (.iload_n 1, 1) := by decide +kernel
theorem dX11_add_9 : decode cX11_add 9 = .ok (.iastore, 1) := by decide +kernel
theorem dX11_add_10 : decode cX11_add 10 = .ok (.aload_n 0, 1) := by decide +kernel
theorem dX11_add_11 : decode cX11_add 11 = .ok (.getfield 24, 3) := by decide +kernel
theorem dX11_add_14 : decode cX11_add 14 = .ok (.aload_n 0, 1) := by decide +kernel
theorem dX11_add_15 : decode cX11_add 15 = .ok (.getfield 272, 3) := by decide +kernel
theorem dX11_add_18 : decode cX11_add 18 = .ok (.iload_n 2, 1) := by decide +kernel
theorem dX11_add_19 : decode cX11_add 19 = .ok (.iastore, 1) := by decide +kernel
theorem dX11_add_20 : decode cX11_add 20 = .ok (.aload_n 0, 1) := by decide +kernel
theorem dX11_add_21 : decode cX11_add 21 = .ok (.dup, 1) := by decide +kernel
theorem dX11_add_22 : decode cX11_add 22 = .ok (.getfield 272, 3) := by decide +kernel
theorem dX11_add_25 : decode cX11_add 25 = .ok (.iconst 1, 1) := by decide +kernel
theorem dX11_add_26 : decode cX11_add 26 = .ok (.iadd, 1) := by decide +kernel
theorem dX11_add_27 : decode cX11_add 27 = .ok (.putfield 272, 3) := by decide +kernel
theorem dX11_add_30 : decode cX11_add 30 = .ok (.return_, 1) := by decide +kernel
theorem dX11_tight_0 : decode cX11_tight 0 = .ok (.iload_n 0, 1) := by decide +kernel
theorem dX11_tight_1 : decode cX11_tight 1 = .ok (.lookupswitch 85 #[(21, 79), (38, 77), (43, 83), (45, 83), (60, 81), (61, 81), (62, 81), (124, 75)], 75) := by decide +kernel
theorem dX11_tight_76 : decode cX11_tight 76 = .ok (.iconst 1, 1) := by decide +kernel
theorem dX11_tight_77 : decode cX11_tight 77 = .ok (.ireturn, 1) := by decide +kernel
theorem dX11_tight_78 : decode cX11_tight 78 = .ok (.iconst 2, 1) := by decide +kernel
theorem dX11_tight_79 : decode cX11_tight 79 = .ok (.ireturn, 1) := by decide +kernel
theorem dX11_tight_80 : decode cX11_tight 80 = .ok (.iconst 3, 1) := by decide +kernel
theorem dX11_tight_81 : decode cX11_tight 81 = .ok (.ireturn, 1) := by decide +kernel
theorem dX11_tight_82 : decode cX11_tight 82 = .ok (.iconst 4, 1) := by decide +kernel
theorem dX11_tight_83 : decode cX11_tight 83 = .ok (.ireturn, 1) := by decide +kernel
theorem dX11_tight_84 : decode cX11_tight 84 = .ok (.iconst 5, 1) := by decide +kernel
theorem dX11_tight_85 : decode cX11_tight 85 = .ok (.ireturn, 1) := by decide +kernel
theorem dX11_tight_86 : decode cX11_tight 86 = .ok (.bipush 6, 2) := by decide +kernel
theorem dX11_tight_88 : decode cX11_tight 88 = .ok (.ireturn, 1) := by decide +kernel
theorem dX11_close_0 : decode cX11_close 0 = .ok (.aload_n 0, 1) := by decide +kernel
theorem dX11_close_1 : decode cX11_close 1 = .ok (.getfield 275, 3) := by decide +kernel
theorem dX11_close_4 : decode cX11_close 4 = .ok (.ifCond .le 97, 3) := by decide +kernel
theorem dX11_close_7 : decode cX11_close 7 = .ok (.aload_n 0, 1) := by decide +kernel
theorem dX11_close_8 : decode cX11_close 8 = .ok (.getfield 33, 3) := by decide +kernel
theorem dX11_close_11 : decode cX11_close 11 = .ok (.aload_n 0, 1) := by decide +kernel
theorem dX11_close_12 : decode cX11_close 12 = .ok (.getfield 275, 3) := by decide +kernel
theorem dX11_close_15 : decode cX11_close 15 = .ok (.iconst 1, 1) := by decide +kernel
theorem dX11_close_16 : decode cX11_close 16 = .ok (.isub, 1) := by decide +kernel
theorem dX11_close_17 : decode cX11_close 17 = .ok (.iaload, 1) := by decide +kernel
theorem dX11_close_18 : decode cX11_close 18 = .ok (.bipush 20, 2) := by decide +kernel
theorem dX11_close_20 : decode cX11_close 20 = .ok (.if_icmp .eq 81, 3) := by decide +kernel
theorem dX11_close_23 : decode cX11_close 23 = .ok (.aload_n 0, 1) := by decide +kernel
theorem dX11_close_24 : decode cX11_close 24 = .ok (.getfield 33, 3) := by decide +kernel
theorem dX11_close_27 : decode cX11_close 27 = .ok (.aload_n 0, 1) := by decide +kernel
theorem dX11_close_28 : decode cX11_close 28 = .ok (.getfield 275, 3) := by decide +kernel
theorem dX11_close_31 : decode cX11_close 31 = .ok (.iconst 1, 1) := by decide +kernel
theorem dX11_close_32 : decode cX11_close 32 = .ok (.isub, 1) := by decide +kernel
theorem dX11_close_33 : decode cX11_close 33 = .ok (.iaload, 1) := by decide +kernel
theorem dX11_close_34 : decode cX11_close 34 = .ok (.invokestatic 278, 3) := by decide +kernel
theorem dX11_close_37 : decode cX11_close 37 = .ok (.iload_n 1, 1) := by decide +kernel
theorem dX11_close_38 : decode cX11_close 38 = .ok (.if_icmp .lt 63, 3) := by decide +kernel
theorem dX11_close_41 : decode cX11_close 41 = .ok (.aload_n 0, 1) := by decide +kernel
theorem dX11_close_42 : decode cX11_close 42 = .ok (.dup, 1) := by decide +kernel
theorem dX11_close_43 : decode cX11_close 43 = .ok (.getfield 275, 3) := by decide +kernel
theorem dX11_close_46 : decode cX11_close 46 = .ok (.iconst 1, 1) := by decide +kernel
theorem dX11_close_47 : decode cX11_close 47 = .ok (.isub, 1) := by decide +kernel
theorem dX11_close_48 : decode cX11_close 48 = .ok (.putfield 275, 3) := by decide +kernel
theorem dX11_close_51 : decode cX11_close 51 = .ok (.aload_n 0, 1) := by decide +kernel
theorem dX11_close_52 : decode cX11_close 52 = .ok (.getfield 33, 3) := by decide +kernel
theorem dX11_close_55 : decode cX11_close 55 = .ok (.aload_n 0, 1) := by decide +kernel
theorem dX11_close_56 : decode cX11_close 56 = .ok (.getfield 275, 3) := by decide +kernel
theorem dX11_close_59 : decode cX11_close 59 = .ok (.iaload, 1) := by decide +kernel
theorem dX11_close_60 : decode cX11_close 60 = .ok (.bipush 21, 2) := by decide +kernel
theorem dX11_close_62 : decode cX11_close 62 = .ok (.if_icmp .ne 22, 3) := by decide +kernel
theorem dX11_close_65 : decode cX11_close 65 = .ok (.aload_n 0, 1) := by decide +kernel
theorem dX11_close_66 : decode cX11_close 66 = .ok (.iconst 2, 1) := by decide +kernel
theorem dX11_close_67 : decode cX11_close 67 = .ok (.iconst 0, 1) := by decide +kernel
theorem dX11_close_68 : decode cX11_close 68 = .ok (.invokevirtual 281, 3) := by decide +kernel
theorem dX11_close_71 : decode cX11_close 71 = .ok (.aload_n 0, 1) := by decide +kernel
theorem dX11_close_72 : decode cX11_close 72 = .ok (.dup, 1) := by decide +kernel
theorem dX11_close_73 : decode cX11_close 73 = .ok (.getfield 285, 3) := by decide +kernel
theorem dX11_close_76 : decode cX11_close 76 = .ok (.iconst 1, 1) := by decide +kernel
theorem dX11_close_77 : decode cX11_close 77 = .ok (.isub, 1) := by decide +kernel
theorem dX11_close_78 : decode cX11_close 78 = .ok (.putfield 285, 3) := by decide +kernel
theorem dX11_close_81 : decode cX11_close 81 = .ok (.goto (-81), 3) := by decide +kernel
theorem dX11_close_84 : decode cX11_close 84 = .ok (.aload_n 0, 1) := by decide +kernel
theorem dX11_close_85 : decode cX11_close 85 = .ok (.iconst 3, 1) := by decide +kernel
theorem dX11_close_86 : decode cX11_close 86 = .ok (.aload_n 0, 1) := by decide +kernel
theorem dX11_close_87 : decode cX11_close 87 = .ok (.getfield 33, 3) := by decide +kernel
theorem dX11_close_90 : decode cX11_close 90 = .ok (.aload_n 0, 1) := by decide +kernel
theorem dX11_close_91 : decode cX11_close 91 = .ok (.getfield 275, 3) := by decide +kernel
theorem dX11_close_94 : decode cX11_close 94 = .ok (.iaload, 1) := by decide +kernel
theorem dX11_close_95 : decode cX11_close 95 = .ok (.invokevirtual 281, 3) := by decide +kernel
theorem dX11_close_98 : decode cX11_close 98 = .ok (.goto (-98), 3) := by decide +kernel
theorem dX11_close_101 : decode cX11_close 101 = .ok (.return_, 1) := by decide +kernel
theorem dX11_hasRelation_0 : decode cX11_hasRelation 0 = .ok (.aload_n 0, 1) := by decide +kernel
theorem dX11_hasRelation_1 : decode cX11_hasRelation 1 = .ok (.getfield 275, 3) := by decide +kernel
theorem dX11_hasRelation_4 : decode cX11_hasRelation 4 = .ok (.iconst 1, 1) := by decide +kernel
theorem dX11_hasRelation_5 : decode cX11_hasRelation 5 = .ok (.isub, 1) := by decide +kernel
theorem dX11_hasRelation_6 : decode cX11_hasRelation 6 = .ok (.istore_n 1, 1) := by decide +kernel
theorem dX11_hasRelation_7 : decode cX11_hasRelation 7 = .ok (.iload_n 1, 1) := by decide +kernel
theorem dX11_hasRelation_8 : decode cX11_hasRelation 8 = .ok (.ifCond .lt 33, 3) := by decide +kernel
theorem dX11_hasRelation_11 : decode cX11_hasRelation 11 = .ok (.aload_n 0, 1) := by decide +kernel
theorem dX11_hasRelation_12 : decode cX11_hasRelation 12 = .ok (.getfield 33, 3) := by decide +kernel
theorem dX11_hasRelation_15 : decode cX11_hasRelation 15 = .ok (.iload_n 1, 1) := by decide +kernel
theorem dX11_hasRelation_16 : decode cX11_hasRelation 16 = .ok (.iaload, 1) := by decide +kernel
theorem dX11_hasRelation_17 : decode cX11_hasRelation 17 = .ok (.bipush 20, 2) := by decide +kernel
theorem dX11_hasRelation_19 : decode cX11_hasRelation 19 = .ok (.if_icmp .eq 22, 3) := by decide +kernel
theorem dX11_hasRelation_22 : decode cX11_hasRelation 22 = .ok (.aload_n 0, 1) := by decide +kernel
theorem dX11_hasRelation_23 : decode cX11_hasRelation 23 = .ok (.getfield 33, 3) := by decide +kernel
theorem dX11_hasRelation_26 : decode cX11_hasRelation 26 = .ok (.iload_n 1, 1) := by decide +kernel
theorem dX11_hasRelation_27 : decode cX11_hasRelation 27 = .ok (.iaload, 1) := by decide +kernel
theorem dX11_hasRelation_28 : decode cX11_hasRelation 28 = .ok (.invokestatic 278, 3) := by decide +kernel
theorem dX11_hasRelation_31 : decode cX11_hasRelation 31 = .ok (.iconst 4, 1) := by decide +kernel
theorem dX11_hasRelation_32 : decode cX11_hasRelation 32 = .ok (.if_icmp .le 9, 3) := by decide +kernel
theorem dX11_hasRelation_35 : decode cX11_hasRelation 35 = .ok (.iinc 1 (-1), 3) := by decide +kernel
theorem dX11_hasRelation_38 : decode cX11_hasRelation 38 = .ok (.goto (-31), 3) := by decide +kernel
theorem dX11_hasRelation_41 : decode cX11_hasRelation 41 = .ok (.iload_n 1, 1) := by decide +kernel
theorem dX11_hasRelation_42 : decode cX11_hasRelation 42 = .ok (.ifCond .lt 31, 3) := by decide +kernel
theorem dX11_hasRelation_45 : decode cX11_hasRelation 45 = .ok (.aload_n 0, 1) := by decide +kernel
theorem dX11_hasRelation_46 : decode cX11_hasRelation 46 = .ok (.getfield 33, 3) := by decide +kernel
theorem dX11_hasRelation_49 : decode cX11_hasRelation 49 = .ok (.iload_n 1, 1) := by decide +kernel
theorem dX11_hasRelation_50 : decode cX11_hasRelation 50 = .ok (.iaload, 1) := by decide +kernel
theorem dX11_hasRelation_51 : decode cX11_hasRelation 51 = .ok (.bipush 20, 2) := by decide +kernel
theorem dX11_hasRelation_53 : decode cX11_hasRelation 53 = .ok (.if_icmp .eq 20, 3) := by decide +kernel
theorem dX11_hasRelation_56 : decode cX11_hasRelation 56 = .ok (.aload_n 0, 1) := by decide +kernel
theorem dX11_hasRelation_57 : decode cX11_hasRelation 57 = .ok (.getfield 33, 3) := by decide +kernel
theorem dX11_hasRelation_60 : decode cX11_hasRelation 60 = .ok (.iload_n 1, 1) := by decide +kernel
theorem dX11_hasRelation_61 : decode cX11_hasRelation 61 = .ok (.iaload, 1) := by decide +kernel
theorem dX11_hasRelation_62 : decode cX11_hasRelation 62 = .ok (.invokestatic 278, 3) := by decide +kernel
theorem dX11_hasRelation_65 : decode cX11_hasRelation 65 = .ok (.iconst 4, 1) := by decide +kernel
theorem dX11_hasRelation_66 : decode cX11_hasRelation 66 = .ok (.if_icmp .ne 7, 3) := by decide +kernel
theorem dX11_hasRelation_69 : decode cX11_hasRelation 69 = .ok (.iconst 1, 1) := by decide +kernel
theorem dX11_hasRelation_70 : decode cX11_hasRelation 70 = .ok (.goto 4, 3) := by decide +kernel
theorem dX11_hasRelation_73 : decode cX11_hasRelation 73 = .ok (.iconst 0, 1) := by decide +kernel
theorem dX11_hasRelation_74 : decode cX11_hasRelation 74 = .ok (.ireturn, 1) := by decide +kernel
theorem dX11_mayNot_0 : decode cX11_mayNot 0 = .ok (.aload_n 0, 1) := by decide +kernel
theorem dX11_mayNot_1 : decode cX11_mayNot 1 = .ok (.getfield 275, 3) := by decide +kernel
theorem dX11_mayNot_4 : decode cX11_mayNot 4 = .ok (.ifCond .eq 37, 3) := by decide +kernel
theorem dX11_mayNot_7 : decode cX11_mayNot 7 = .ok (.aload_n 0, 1) := by decide +kernel
theorem dX11_mayNot_8 : decode cX11_mayNot 8 = .ok (.getfield 33, 3) := by decide +kernel
theorem dX11_mayNot_11 : decode cX11_mayNot 11 = .ok (.aload_n 0, 1) := by decide +kernel
theorem dX11_mayNot_12 : decode cX11_mayNot 12 = .ok (.getfield 275, 3) := by decide +kernel
theorem dX11_mayNot_15 : decode cX11_mayNot 15 = .ok (.iconst 1, 1) := by decide +kernel
theorem dX11_mayNot_16 : decode cX11_mayNot 16 = .ok (.isub, 1) := by decide +kernel
theorem dX11_mayNot_17 : decode cX11_mayNot 17 = .ok (.iaload, 1) := by decide +kernel
theorem dX11_mayNot_18 : decode cX11_mayNot 18 = .ok (.bipush 20, 2) := by decide +kernel
theorem dX11_mayNot_20 : decode cX11_mayNot 20 = .ok (.if_icmp .eq 21, 3) := by decide +kernel
theorem dX11_mayNot_23 : decode cX11_mayNot 23 = .ok (.aload_n 0, 1) := by decide +kernel
theorem dX11_mayNot_24 : decode cX11_mayNot 24 = .ok (.getfield 33, 3) := by decide +kernel
theorem dX11_mayNot_27 : decode cX11_mayNot 27 = .ok (.aload_n 0, 1) := by decide +kernel
theorem dX11_mayNot_28 : decode cX11_mayNot 28 = .ok (.getfield 275, 3) := by decide +kernel
theorem dX11_mayNot_31 : decode cX11_mayNot 31 = .ok (.iconst 1, 1) := by decide +kernel
theorem dX11_mayNot_32 : decode cX11_mayNot 32 = .ok (.isub, 1) := by decide +kernel
theorem dX11_mayNot_33 : decode cX11_mayNot 33 = .ok (.iaload, 1) := by decide +kernel
theorem dX11_mayNot_34 : decode cX11_mayNot 34 = .ok (.invokestatic 278, 3) := by decide +kernel
theorem dX11_mayNot_37 : decode cX11_mayNot 37 = .ok (.iconst 4, 1) := by decide +kernel
theorem dX11_mayNot_38 : decode cX11_mayNot 38 = .ok (.if_icmp .ge 7, 3) := by decide +kernel
theorem dX11_mayNot_41 : decode cX11_mayNot 41 = .ok (.iconst 1, 1) := by decide +kernel
theorem dX11_mayNot_42 : decode cX11_mayNot 42 = .ok (.goto 4, 3) := by decide +kernel
theorem dX11_mayNot_45 : decode cX11_mayNot 45 = .ok (.iconst 0, 1) := by decide +kernel
theorem dX11_mayNot_46 : decode cX11_mayNot 46 = .ok (.ireturn, 1) := by decide +kernel
theorem dX11_asked_0 : decode cX11_asked 0 = .ok (.aload_n 0, 1) := by decide +kernel
theorem dX11_asked_1 : decode cX11_asked 1 = .ok (.getfield 184, 3) := by decide +kernel
theorem dX11_asked_4 : decode cX11_asked 4 = .ok (.iconst 1, 1) := by decide +kernel
theorem dX11_asked_5 : decode cX11_asked 5 = .ok (.if_icmp .eq 5, 3) := by decide +kernel
theorem dX11_asked_8 : decode cX11_asked 8 = .ok (.iconst (-1), 1) := by decide +kernel
theorem dX11_asked_9 : decode cX11_asked 9 = .ok (.ireturn, 1) := by decide +kernel
theorem dX11_asked_10 : decode cX11_asked 10 = .ok (.aload_n 0, 1) := by decide +kernel
theorem dX11_asked_11 : decode cX11_asked 11 = .ok (.getfield 177, 3) := by decide +kernel
theorem dX11_asked_14 : decode cX11_asked 14 = .ok (.ldc2_w 214, 3) := by decide +kernel
theorem dX11_asked_17 : decode cX11_asked 17 = .ok (.lcmp, 1) := by decide +kernel
theorem dX11_asked_18 : decode cX11_asked 18 = .ok (.ifCond .ne 5, 3) := by decide +kernel
theorem dX11_asked_21 : decode cX11_asked 21 = .ok (.iconst 0, 1) := by decide +kernel
theorem dX11_asked_22 : decode cX11_asked 22 = .ok (.ireturn, 1) := by decide +kernel
theorem dX11_asked_23 : decode cX11_asked 23 = .ok (.aload_n 0, 1) := by decide +kernel
theorem dX11_asked_24 : decode cX11_asked 24 = .ok (.getfield 177, 3) := by decide +kernel
theorem dX11_asked_27 : decode cX11_asked 27 = .ok (.ldc2_w 204, 3) := by decide +kernel
theorem dX11_asked_30 : decode cX11_asked 30 = .ok (.lcmp, 1) := by decide +kernel
theorem dX11_asked_31 : decode cX11_asked 31 = .ok (.ifCond .ne 5, 3) := by decide +kernel
theorem dX11_asked_34 : decode cX11_asked 34 = .ok (.iconst 1, 1) := by decide +kernel
theorem dX11_asked_35 : decode cX11_asked 35 = .ok (.ireturn, 1) := by decide +kernel
theorem dX11_asked_36 : decode cX11_asked 36 = .ok (.aload_n 0, 1) := by decide +kernel
theorem dX11_asked_37 : decode cX11_asked 37 = .ok (.getfield 177, 3) := by decide +kernel
theorem dX11_asked_40 : decode cX11_asked 40 = .ok (.ldc2_w 226, 3) := by decide +kernel
theorem dX11_asked_43 : decode cX11_asked 43 = .ok (.lcmp, 1) := by decide +kernel
theorem dX11_asked_44 : decode cX11_asked 44 = .ok (.ifCond .ne 5, 3) := by decide +kernel
theorem dX11_asked_47 : decode cX11_asked 47 = .ok (.iconst 2, 1) := by decide +kernel
theorem dX11_asked_48 : decode cX11_asked 48 = .ok (.ireturn, 1) := by decide +kernel
theorem dX11_asked_49 : decode cX11_asked 49 = .ok (.aload_n 0, 1) := by decide +kernel
theorem dX11_asked_50 : decode cX11_asked 50 = .ok (.getfield 177, 3) := by decide +kernel
theorem dX11_asked_53 : decode cX11_asked 53 = .ok (.ldc2_w 228, 3) := by decide +kernel
theorem dX11_asked_56 : decode cX11_asked 56 = .ok (.lcmp, 1) := by decide +kernel
theorem dX11_asked_57 : decode cX11_asked 57 = .ok (.ifCond .ne 5, 3) := by decide +kernel
theorem dX11_asked_60 : decode cX11_asked 60 = .ok (.iconst 3, 1) := by decide +kernel
theorem dX11_asked_61 : decode cX11_asked 61 = .ok (.ireturn, 1) := by decide +kernel
theorem dX11_asked_62 : decode cX11_asked 62 = .ok (.aload_n 0, 1) := by decide +kernel
theorem dX11_asked_63 : decode cX11_asked 63 = .ok (.getfield 177, 3) := by decide +kernel
theorem dX11_asked_66 : decode cX11_asked 66 = .ok (.ldc2_w 230, 3) := by decide +kernel
theorem dX11_asked_69 : decode cX11_asked 69 = .ok (.lcmp, 1) := by decide +kernel
theorem dX11_asked_70 : decode cX11_asked 70 = .ok (.ifCond .ne 7, 3) := by decide +kernel
theorem dX11_asked_73 : decode cX11_asked 73 = .ok (.iconst 4, 1) := by decide +kernel
theorem dX11_asked_74 : decode cX11_asked 74 = .ok (.goto 4, 3) := by decide +kernel
theorem dX11_asked_77 : decode cX11_asked 77 = .ok (.iconst (-1), 1) := by decide +kernel
theorem dX11_asked_78 : decode cX11_asked 78 = .ok (.ireturn, 1) := by decide +kernel
theorem dX11_isFull_0 : decode cX11_isFull 0 = .ok (.aload_n 0, 1) := by decide +kernel
theorem dX11_isFull_1 : decode cX11_isFull 1 = .ok (.getfield 288, 3) := by decide +kernel
theorem dX11_isFull_4 : decode cX11_isFull 4 = .ok (.bipush 60, 2) := by decide +kernel
theorem dX11_isFull_6 : decode cX11_isFull 6 = .ok (.if_icmp .eq 12, 3) := by decide +kernel
theorem dX11_isFull_9 : decode cX11_isFull 9 = .ok (.aload_n 0, 1) := by decide +kernel
theorem dX11_isFull_10 : decode cX11_isFull 10 = .ok (.getfield 291, 3) := by decide +kernel
theorem dX11_isFull_13 : decode cX11_isFull 13 = .ok (.bipush 30, 2) := by decide +kernel
theorem dX11_isFull_15 : decode cX11_isFull 15 = .ok (.if_icmp .ne 7, 3) := by decide +kernel
theorem dX11_isFull_18 : decode cX11_isFull 18 = .ok (.iconst 1, 1) := by decide +kernel
theorem dX11_isFull_19 : decode cX11_isFull 19 = .ok (.goto 4, 3) := by decide +kernel
theorem dX11_isFull_22 : decode cX11_isFull 22 = .ok (.iconst 0, 1) := by decide +kernel
theorem dX11_isFull_23 : decode cX11_isFull 23 = .ok (.ireturn, 1) := by decide +kernel
theorem dX11_countUnit_0 : decode cX11_countUnit 0 = .ok (.aload_n 0, 1) := by decide +kernel
theorem dX11_countUnit_1 : decode cX11_countUnit 1 = .ok (.dup, 1) := by decide +kernel
theorem dX11_countUnit_2 : decode cX11_countUnit 2 = .ok (.getfield 288, 3) := by decide +kernel
theorem dX11_countUnit_5 : decode cX11_countUnit 5 = .ok (.iconst 1, 1) := by decide +kernel
theorem dX11_countUnit_6 : decode cX11_countUnit 6 = .ok (.iadd, 1) := by decide +kernel
theorem dX11_countUnit_7 : decode cX11_countUnit 7 = .ok (.putfield 288, 3) := by decide +kernel
theorem dX11_countUnit_10 : decode cX11_countUnit 10 = .ok (.aload_n 0, 1) := by decide +kernel
theorem dX11_countUnit_11 : decode cX11_countUnit 11 = .ok (.dup, 1) := by decide +kernel
theorem dX11_countUnit_12 : decode cX11_countUnit 12 = .ok (.getfield 291, 3) := by decide +kernel
theorem dX11_countUnit_15 : decode cX11_countUnit 15 = .ok (.iconst 1, 1) := by decide +kernel
theorem dX11_countUnit_16 : decode cX11_countUnit 16 = .ok (.iadd, 1) := by decide +kernel
theorem dX11_countUnit_17 : decode cX11_countUnit 17 = .ok (.putfield 291, 3) := by decide +kernel
theorem dX11_countUnit_20 : decode cX11_countUnit 20 = .ok (.return_, 1) := by decide +kernel
theorem dX11_openUp_0 : decode cX11_openUp 0 = .ok (.aload_n 0, 1) := by decide +kernel
theorem dX11_openUp_1 : decode cX11_openUp 1 = .ok (.getfield 33, 3) := by decide +kernel
theorem dX11_openUp_4 : decode cX11_openUp 4 = .ok (.aload_n 0, 1) := by decide +kernel
theorem dX11_openUp_5 : decode cX11_openUp 5 = .ok (.getfield 275, 3) := by decide +kernel
theorem dX11_openUp_8 : decode cX11_openUp 8 = .ok (.iload_n 1, 1) := by decide +kernel
theorem dX11_openUp_9 : decode cX11_openUp 9 = .ok (.iastore, 1) := by decide +kernel
theorem dX11_openUp_10 : decode cX11_openUp 10 = .ok (.aload_n 0, 1) := by decide +kernel
theorem dX11_openUp_11 : decode cX11_openUp 11 = .ok (.dup, 1) := by decide +kernel
theorem dX11_openUp_12 : decode cX11_openUp 12 = .ok (.getfield 275, 3) := by decide +kernel
theorem dX11_openUp_15 : decode cX11_openUp 15 = .ok (.iconst 1, 1) := by decide +kernel
theorem dX11_openUp_16 : decode cX11_openUp 16 = .ok (.iadd, 1) := by decide +kernel
theorem dX11_openUp_17 : decode cX11_openUp 17 = .ok (.putfield 275, 3) := by decide +kernel
theorem dX11_openUp_20 : decode cX11_openUp 20 = .ok (.aload_n 0, 1) := by decide +kernel
theorem dX11_openUp_21 : decode cX11_openUp 21 = .ok (.dup, 1) := by decide +kernel
theorem dX11_openUp_22 : decode cX11_openUp 22 = .ok (.getfield 285, 3) := by decide +kernel
theorem dX11_openUp_25 : decode cX11_openUp 25 = .ok (.iconst 1, 1) := by decide +kernel
theorem dX11_openUp_26 : decode cX11_openUp 26 = .ok (.iadd, 1) := by decide +kernel
theorem dX11_openUp_27 : decode cX11_openUp 27 = .ok (.putfield 285, 3) := by decide +kernel
theorem dX11_openUp_30 : decode cX11_openUp 30 = .ok (.aload_n 0, 1) := by decide +kernel
theorem dX11_openUp_31 : decode cX11_openUp 31 = .ok (.getfield 197, 3) := by decide +kernel
theorem dX11_openUp_34 : decode cX11_openUp 34 = .ok (.ifCond .ne 7, 3) := by decide +kernel
theorem dX11_openUp_37 : decode cX11_openUp 37 = .ok (.aload_n 0, 1) := by decide +kernel
theorem dX11_openUp_38 : decode cX11_openUp 38 = .ok (.invokevirtual 249, 3) := by decide +kernel
theorem dX11_openUp_41 : decode cX11_openUp 41 = .ok (.return_, 1) := by decide +kernel
theorem dX11_unit_0 : decode cX11_unit 0 = .ok (.iconst 1, 1) := by decide +kernel
theorem dX11_unit_1 : decode cX11_unit 1 = .ok (.istore_n 1, 1) := by decide +kernel
theorem dX11_unit_2 : decode cX11_unit 2 = .ok (.iload_n 1, 1) := by decide +kernel
theorem dX11_unit_3 : decode cX11_unit 3 = .ok (.ifCond .eq 98, 3) := by decide +kernel
theorem dX11_unit_6 : decode cX11_unit 6 = .ok (.aload_n 0, 1) := by decide +kernel
theorem dX11_unit_7 : decode cX11_unit 7 = .ok (.getfield 197, 3) := by decide +kernel
theorem dX11_unit_10 : decode cX11_unit 10 = .ok (.ifCond .ne 91, 3) := by decide +kernel
theorem dX11_unit_13 : decode cX11_unit 13 = .ok (.aload_n 0, 1) := by decide +kernel
theorem dX11_unit_14 : decode cX11_unit 14 = .ok (.ldc2_w 236, 3) := by decide +kernel
theorem dX11_unit_17 : decode cX11_unit 17 = .ok (.invokevirtual 242, 3) := by decide +kernel
theorem dX11_unit_20 : decode cX11_unit 20 = .ok (.ifCond .eq 33, 3) := by decide +kernel
theorem dX11_unit_23 : decode cX11_unit 23 = .ok (.aload_n 0, 1) := by decide +kernel
theorem dX11_unit_24 : decode cX11_unit 24 = .ok (.invokevirtual 294, 3) := by decide +kernel
theorem dX11_unit_27 : decode cX11_unit 27 = .ok (.ifCond .eq 26, 3) := by decide +kernel
theorem dX11_unit_30 : decode cX11_unit 30 = .ok (.aload_n 0, 1) := by decide +kernel
theorem dX11_unit_31 : decode cX11_unit 31 = .ok (.getfield 285, 3) := by decide +kernel
theorem dX11_unit_34 : decode cX11_unit 34 = .ok (.bipush 6, 2) := by decide +kernel
theorem dX11_unit_36 : decode cX11_unit 36 = .ok (.if_icmp .le 8, 3) := by decide +kernel
theorem dX11_unit_39 : decode cX11_unit 39 = .ok (.aload_n 0, 1) := by decide +kernel
theorem dX11_unit_40 : decode cX11_unit 40 = .ok (.iconst 2, 1) := by decide +kernel
theorem dX11_unit_41 : decode cX11_unit 41 = .ok (.invokevirtual 246, 3) := by decide +kernel
theorem dX11_unit_44 : decode cX11_unit 44 = .ok (.aload_n 0, 1) := by decide +kernel
theorem dX11_unit_45 : decode cX11_unit 45 = .ok (.bipush 21, 2) := by decide +kernel
theorem dX11_unit_47 : decode cX11_unit 47 = .ok (.invokevirtual 297, 3) := by decide +kernel
theorem dX11_unit_50 : decode cX11_unit 50 = .ok (.goto (-48), 3) := by decide +kernel
theorem dX11_unit_53 : decode cX11_unit 53 = .ok (.aload_n 0, 1) := by decide +kernel
theorem dX11_unit_54 : decode cX11_unit 54 = .ok (.getfield 184, 3) := by decide +kernel
theorem dX11_unit_57 : decode cX11_unit 57 = .ok (.bipush 40, 2) := by decide +kernel
theorem dX11_unit_59 : decode cX11_unit 59 = .ok (.if_icmp .ne 37, 3) := by decide +kernel
theorem dX11_unit_62 : decode cX11_unit 62 = .ok (.aload_n 0, 1) := by decide +kernel
theorem dX11_unit_63 : decode cX11_unit 63 = .ok (.invokevirtual 300, 3) := by decide +kernel
theorem dX11_unit_66 : decode cX11_unit 66 = .ok (.ifCond .ne 12, 3) := by decide +kernel
theorem dX11_unit_69 : decode cX11_unit 69 = .ok (.aload_n 0, 1) := by decide +kernel
theorem dX11_unit_70 : decode cX11_unit 70 = .ok (.getfield 285, 3) := by decide +kernel
theorem dX11_unit_73 : decode cX11_unit 73 = .ok (.bipush 6, 2) := by decide +kernel
theorem dX11_unit_75 : decode cX11_unit 75 = .ok (.if_icmp .le 8, 3) := by decide +kernel
theorem dX11_unit_78 : decode cX11_unit 78 = .ok (.aload_n 0, 1) := by decide +kernel
theorem dX11_unit_79 : decode cX11_unit 79 = .ok (.iconst 2, 1) := by decide +kernel
theorem dX11_unit_80 : decode cX11_unit 80 = .ok (.invokevirtual 246, 3) := by decide +kernel
theorem dX11_unit_83 : decode cX11_unit 83 = .ok (.aload_n 0, 1) := by decide +kernel
theorem dX11_unit_84 : decode cX11_unit 84 = .ok (.invokevirtual 303, 3) := by decide +kernel
theorem dX11_unit_87 : decode cX11_unit 87 = .ok (.aload_n 0, 1) := by decide +kernel
theorem dX11_unit_88 : decode cX11_unit 88 = .ok (.bipush 20, 2) := by decide +kernel
theorem dX11_unit_90 : decode cX11_unit 90 = .ok (.invokevirtual 297, 3) := by decide +kernel
theorem dX11_unit_93 : decode cX11_unit 93 = .ok (.goto (-91), 3) := by decide +kernel
theorem dX11_unit_96 : decode cX11_unit 96 = .ok (.iconst 0, 1) := by decide +kernel
theorem dX11_unit_97 : decode cX11_unit 97 = .ok (.istore_n 1, 1) := by decide +kernel
theorem dX11_unit_98 : decode cX11_unit 98 = .ok (.goto (-96), 3) := by decide +kernel
theorem dX11_unit_101 : decode cX11_unit 101 = .ok (.aload_n 0, 1) := by decide +kernel
theorem dX11_unit_102 : decode cX11_unit 102 = .ok (.getfield 197, 3) := by decide +kernel
theorem dX11_unit_105 : decode cX11_unit 105 = .ok (.ifCond .le 4, 3) := by decide +kernel
theorem dX11_unit_108 : decode cX11_unit 108 = .ok (.return_, 1) := by decide +kernel
theorem dX11_unit_109 : decode cX11_unit 109 = .ok (.aload_n 0, 1) := by decide +kernel
theorem dX11_unit_110 : decode cX11_unit 110 = .ok (.invokevirtual 306, 3) := by decide +kernel
theorem dX11_unit_113 : decode cX11_unit 113 = .ok (.istore_n 2, 1) := by decide +kernel
theorem dX11_unit_114 : decode cX11_unit 114 = .ok (.aload_n 0, 1) := by decide +kernel
theorem dX11_unit_115 : decode cX11_unit 115 = .ok (.getfield 184, 3) := by decide +kernel
theorem dX11_unit_118 : decode cX11_unit 118 = .ok (.iconst 2, 1) := by decide +kernel
theorem dX11_unit_119 : decode cX11_unit 119 = .ok (.if_icmp .eq 7, 3) := by decide +kernel
theorem dX11_unit_122 : decode cX11_unit 122 = .ok (.iload_n 2, 1) := by decide +kernel
theorem dX11_unit_123 : decode cX11_unit 123 = .ok (.ifCond .lt 10, 3) := by decide +kernel
theorem dX11_unit_126 : decode cX11_unit 126 = .ok (.aload_n 0, 1) := by decide +kernel
theorem dX11_unit_127 : decode cX11_unit 127 = .ok (.invokevirtual 300, 3) := by decide +kernel
theorem dX11_unit_130 : decode cX11_unit 130 = .ok (.ifCond .eq 8, 3) := by decide +kernel
theorem dX11_unit_133 : decode cX11_unit 133 = .ok (.aload_n 0, 1) := by decide +kernel
theorem dX11_unit_134 : decode cX11_unit 134 = .ok (.iconst 2, 1) := by decide +kernel
theorem dX11_unit_135 : decode cX11_unit 135 = .ok (.invokevirtual 246, 3) := by decide +kernel
theorem dX11_unit_138 : decode cX11_unit 138 = .ok (.aload_n 0, 1) := by decide +kernel
theorem dX11_unit_139 : decode cX11_unit 139 = .ok (.getfield 197, 3) := by decide +kernel
theorem dX11_unit_142 : decode cX11_unit 142 = .ok (.ifCond .le 4, 3) := by decide +kernel
theorem dX11_unit_145 : decode cX11_unit 145 = .ok (.return_, 1) := by decide +kernel
theorem dX11_unit_146 : decode cX11_unit 146 = .ok (.aload_n 0, 1) := by decide +kernel
theorem dX11_unit_147 : decode cX11_unit 147 = .ok (.invokevirtual 303, 3) := by decide +kernel
theorem dX11_unit_150 : decode cX11_unit 150 = .ok (.aload_n 0, 1) := by decide +kernel
theorem dX11_unit_151 : decode cX11_unit 151 = .ok (.iload_n 2, 1) := by decide +kernel
theorem dX11_unit_152 : decode cX11_unit 152 = .ok (.ifCond .ge 7, 3) := by decide +kernel
theorem dX11_unit_155 : decode cX11_unit 155 = .ok (.iconst 0, 1) := by decide +kernel
theorem dX11_unit_156 : decode cX11_unit 156 = .ok (.goto 4, 3) := by decide +kernel
theorem dX11_unit_159 : decode cX11_unit 159 = .ok (.iconst 1, 1) := by decide +kernel
theorem dX11_unit_160 : decode cX11_unit 160 = .ok (.iload_n 2, 1) := by decide +kernel
theorem dX11_unit_161 : decode cX11_unit 161 = .ok (.ifCond .ge 10, 3) := by decide +kernel
theorem dX11_unit_164 : decode cX11_unit 164 = .ok (.aload_n 0, 1) := by decide +kernel
theorem dX11_unit_165 : decode cX11_unit 165 = .ok (.getfield 181, 3) := by decide +kernel
theorem dX11_unit_168 : decode cX11_unit 168 = .ok (.goto 4, 3) := by decide +kernel
theorem dX11_unit_171 : decode cX11_unit 171 = .ok (.iload_n 2, 1) := by decide +kernel
theorem dX11_unit_172 : decode cX11_unit 172 = .ok (.invokevirtual 281, 3) := by decide +kernel
theorem dX11_unit_175 : decode cX11_unit 175 = .ok (.aload_n 0, 1) := by decide +kernel
theorem dX11_unit_176 : decode cX11_unit 176 = .ok (.invokevirtual 249, 3) := by decide +kernel
theorem dX11_unit_179 : decode cX11_unit 179 = .ok (.return_, 1) := by decide +kernel
theorem dX11_sign_0 : decode cX11_sign 0 = .ok (.aload_n 0, 1) := by decide +kernel
theorem dX11_sign_1 : decode cX11_sign 1 = .ok (.ldc2_w 232, 3) := by decide +kernel
theorem dX11_sign_4 : decode cX11_sign 4 = .ok (.invokevirtual 242, 3) := by decide +kernel
theorem dX11_sign_7 : decode cX11_sign 7 = .ok (.ifCond .eq 6, 3) := by decide +kernel
theorem dX11_sign_10 : decode cX11_sign 10 = .ok (.bipush 38, 2) := by decide +kernel
theorem dX11_sign_12 : decode cX11_sign 12 = .ok (.ireturn, 1) := by decide +kernel
theorem dX11_sign_13 : decode cX11_sign 13 = .ok (.aload_n 0, 1) := by decide +kernel
theorem dX11_sign_14 : decode cX11_sign 14 = .ok (.ldc2_w 234, 3) := by decide +kernel
theorem dX11_sign_17 : decode cX11_sign 17 = .ok (.invokevirtual 242, 3) := by decide +kernel
theorem dX11_sign_20 : decode cX11_sign 20 = .ok (.ifCond .eq 6, 3) := by decide +kernel
theorem dX11_sign_23 : decode cX11_sign 23 = .ok (.bipush 124, 2) := by decide +kernel
theorem dX11_sign_25 : decode cX11_sign 25 = .ok (.ireturn, 1) := by decide +kernel
theorem dX11_sign_26 : decode cX11_sign 26 = .ok (.aload_n 0, 1) := by decide +kernel
theorem dX11_sign_27 : decode cX11_sign 27 = .ok (.getfield 184, 3) := by decide +kernel
theorem dX11_sign_30 : decode cX11_sign 30 = .ok (.bipush 60, 2) := by decide +kernel
theorem dX11_sign_32 : decode cX11_sign 32 = .ok (.if_icmp .eq 66, 3) := by decide +kernel
theorem dX11_sign_35 : decode cX11_sign 35 = .ok (.aload_n 0, 1) := by decide +kernel
theorem dX11_sign_36 : decode cX11_sign 36 = .ok (.getfield 184, 3) := by decide +kernel
theorem dX11_sign_39 : decode cX11_sign 39 = .ok (.bipush 62, 2) := by decide +kernel
theorem dX11_sign_41 : decode cX11_sign 41 = .ok (.if_icmp .eq 57, 3) := by decide +kernel
theorem dX11_sign_44 : decode cX11_sign 44 = .ok (.aload_n 0, 1) := by decide +kernel
theorem dX11_sign_45 : decode cX11_sign 45 = .ok (.getfield 184, 3) := by decide +kernel
theorem dX11_sign_48 : decode cX11_sign 48 = .ok (.bipush 61, 2) := by decide +kernel
theorem dX11_sign_50 : decode cX11_sign 50 = .ok (.if_icmp .eq 48, 3) := by decide +kernel
theorem dX11_sign_53 : decode cX11_sign 53 = .ok (.aload_n 0, 1) := by decide +kernel
theorem dX11_sign_54 : decode cX11_sign 54 = .ok (.getfield 184, 3) := by decide +kernel
theorem dX11_sign_57 : decode cX11_sign 57 = .ok (.bipush 43, 2) := by decide +kernel
theorem dX11_sign_59 : decode cX11_sign 59 = .ok (.if_icmp .eq 39, 3) := by decide +kernel
theorem dX11_sign_62 : decode cX11_sign 62 = .ok (.aload_n 0, 1) := by decide +kernel
theorem dX11_sign_63 : decode cX11_sign 63 = .ok (.getfield 184, 3) := by decide +kernel
theorem dX11_sign_66 : decode cX11_sign 66 = .ok (.bipush 45, 2) := by decide +kernel
theorem dX11_sign_68 : decode cX11_sign 68 = .ok (.if_icmp .eq 30, 3) := by decide +kernel
theorem dX11_sign_71 : decode cX11_sign 71 = .ok (.aload_n 0, 1) := by decide +kernel
theorem dX11_sign_72 : decode cX11_sign 72 = .ok (.getfield 184, 3) := by decide +kernel
theorem dX11_sign_75 : decode cX11_sign 75 = .ok (.bipush 42, 2) := by decide +kernel
theorem dX11_sign_77 : decode cX11_sign 77 = .ok (.if_icmp .eq 21, 3) := by decide +kernel
theorem dX11_sign_80 : decode cX11_sign 80 = .ok (.aload_n 0, 1) := by decide +kernel
theorem dX11_sign_81 : decode cX11_sign 81 = .ok (.getfield 184, 3) := by decide +kernel
theorem dX11_sign_84 : decode cX11_sign 84 = .ok (.bipush 47, 2) := by decide +kernel
theorem dX11_sign_86 : decode cX11_sign 86 = .ok (.if_icmp .eq 12, 3) := by decide +kernel
theorem dX11_sign_89 : decode cX11_sign 89 = .ok (.aload_n 0, 1) := by decide +kernel
theorem dX11_sign_90 : decode cX11_sign 90 = .ok (.getfield 184, 3) := by decide +kernel
theorem dX11_sign_93 : decode cX11_sign 93 = .ok (.bipush 37, 2) := by decide +kernel
theorem dX11_sign_95 : decode cX11_sign 95 = .ok (.if_icmp .ne 10, 3) := by decide +kernel
theorem dX11_sign_98 : decode cX11_sign 98 = .ok (.aload_n 0, 1) := by decide +kernel
theorem dX11_sign_99 : decode cX11_sign 99 = .ok (.getfield 184, 3) := by decide +kernel
theorem dX11_sign_102 : decode cX11_sign 102 = .ok (.goto 4, 3) := by decide +kernel
theorem dX11_sign_105 : decode cX11_sign 105 = .ok (.iconst 0, 1) := by decide +kernel
theorem dX11_sign_106 : decode cX11_sign 106 = .ok (.ireturn, 1) := by decide +kernel
theorem dX11_hasBracket_0 : decode cX11_hasBracket 0 = .ok (.iconst 0, 1) := by decide +kernel
theorem dX11_hasBracket_1 : decode cX11_hasBracket 1 = .ok (.istore_n 1, 1) := by decide +kernel
theorem dX11_hasBracket_2 : decode cX11_hasBracket 2 = .ok (.iconst 0, 1) := by decide +kernel
theorem dX11_hasBracket_3 : decode cX11_hasBracket 3 = .ok (.istore_n 2, 1) := by decide +kernel
theorem dX11_hasBracket_4 : decode cX11_hasBracket 4 = .ok (.iload_n 2, 1) := by decide +kernel
theorem dX11_hasBracket_5 : decode cX11_hasBracket 5 = .ok (.aload_n 0, 1) := by decide +kernel
theorem dX11_hasBracket_6 : decode cX11_hasBracket 6 = .ok (.getfield 275, 3) := by decide +kernel
theorem dX11_hasBracket_9 : decode cX11_hasBracket 9 = .ok (.if_icmp .ge 30, 3) := by decide +kernel
theorem dX11_hasBracket_12 : decode cX11_hasBracket 12 = .ok (.iload_n 1, 1) := by decide +kernel
theorem dX11_hasBracket_13 : decode cX11_hasBracket 13 = .ok (.ifCond .ne 14, 3) := by decide +kernel
theorem dX11_hasBracket_16 : decode cX11_hasBracket 16 = .ok (.aload_n 0, 1) := by decide +kernel
theorem dX11_hasBracket_17 : decode cX11_hasBracket 17 = .ok (.getfield 33, 3) := by decide +kernel
theorem dX11_hasBracket_20 : decode cX11_hasBracket 20 = .ok (.iload_n 2, 1) := by decide +kernel
theorem dX11_hasBracket_21 : decode cX11_hasBracket 21 = .ok (.iaload, 1) := by decide +kernel
theorem dX11_hasBracket_22 : decode cX11_hasBracket 22 = .ok (.bipush 20, 2) := by decide +kernel
theorem dX11_hasBracket_24 : decode cX11_hasBracket 24 = .ok (.if_icmp .ne 7, 3) := by decide +kernel
theorem dX11_hasBracket_27 : decode cX11_hasBracket 27 = .ok (.iconst 1, 1) := by decide +kernel
theorem dX11_hasBracket_28 : decode cX11_hasBracket 28 = .ok (.goto 4, 3) := by decide +kernel
theorem dX11_hasBracket_31 : decode cX11_hasBracket 31 = .ok (.iconst 0, 1) := by decide +kernel
theorem dX11_hasBracket_32 : decode cX11_hasBracket 32 = .ok (.istore_n 1, 1) := by decide +kernel
theorem dX11_hasBracket_33 : decode cX11_hasBracket 33 = .ok (.iinc 2 1, 3) := by decide +kernel
theorem dX11_hasBracket_36 : decode cX11_hasBracket 36 = .ok (.goto (-32), 3) := by decide +kernel
theorem dX11_hasBracket_39 : decode cX11_hasBracket 39 = .ok (.iload_n 1, 1) := by decide +kernel
theorem dX11_hasBracket_40 : decode cX11_hasBracket 40 = .ok (.ireturn, 1) := by decide +kernel
theorem dX11_readSlip_0 : decode cX11_readSlip 0 = .ok (.aload_n 0, 1) := by decide +kernel
theorem dX11_readSlip_1 : decode cX11_readSlip 1 = .ok (.invokevirtual 249, 3) := by decide +kernel
theorem dX11_readSlip_4 : decode cX11_readSlip 4 = .ok (.aload_n 0, 1) := by decide +kernel
theorem dX11_readSlip_5 : decode cX11_readSlip 5 = .ok (.iconst 0, 1) := by decide +kernel
theorem dX11_readSlip_6 : decode cX11_readSlip 6 = .ok (.putfield 272, 3) := by decide +kernel
theorem dX11_readSlip_9 : decode cX11_readSlip 9 = .ok (.aload_n 0, 1) := by decide +kernel
theorem dX11_readSlip_10 : decode cX11_readSlip 10 = .ok (.iconst 0, 1) := by decide +kernel
theorem dX11_readSlip_11 : decode cX11_readSlip 11 = .ok (.putfield 275, 3) := by decide +kernel
theorem dX11_readSlip_14 : decode cX11_readSlip 14 = .ok (.aload_n 0, 1) := by decide +kernel
theorem dX11_readSlip_15 : decode cX11_readSlip 15 = .ok (.iconst 0, 1) := by decide +kernel
theorem dX11_readSlip_16 : decode cX11_readSlip 16 = .ok (.putfield 285, 3) := by decide +kernel
theorem dX11_readSlip_19 : decode cX11_readSlip 19 = .ok (.aload_n 0, 1) := by decide +kernel
theorem dX11_readSlip_20 : decode cX11_readSlip 20 = .ok (.iconst 0, 1) := by decide +kernel
theorem dX11_readSlip_21 : decode cX11_readSlip 21 = .ok (.putfield 291, 3) := by decide +kernel
theorem dX11_readSlip_24 : decode cX11_readSlip 24 = .ok (.aload_n 0, 1) := by decide +kernel
theorem dX11_readSlip_25 : decode cX11_readSlip 25 = .ok (.invokevirtual 310, 3) := by decide +kernel
theorem dX11_readSlip_28 : decode cX11_readSlip 28 = .ok (.iconst 1, 1) := by decide +kernel
theorem dX11_readSlip_29 : decode cX11_readSlip 29 = .ok (.istore_n 1, 1) := by decide +kernel
theorem dX11_readSlip_30 : decode cX11_readSlip 30 = .ok (.iload_n 1, 1) := by decide +kernel
theorem dX11_readSlip_31 : decode cX11_readSlip 31 = .ok (.ifCond .eq 126, 3) := by decide +kernel
theorem dX11_readSlip_34 : decode cX11_readSlip 34 = .ok (.aload_n 0, 1) := by decide +kernel
theorem dX11_readSlip_35 : decode cX11_readSlip 35 = .ok (.getfield 197, 3) := by decide +kernel
theorem dX11_readSlip_38 : decode cX11_readSlip 38 = .ok (.ifCond .ne 119, 3) := by decide +kernel
theorem dX11_readSlip_41 : decode cX11_readSlip 41 = .ok (.aload_n 0, 1) := by decide +kernel
theorem dX11_readSlip_42 : decode cX11_readSlip 42 = .ok (.invokevirtual 313, 3) := by decide +kernel
theorem dX11_readSlip_45 : decode cX11_readSlip 45 = .ok (.istore_n 2, 1) := by decide +kernel
theorem dX11_readSlip_46 : decode cX11_readSlip 46 = .ok (.aload_n 0, 1) := by decide +kernel
theorem dX11_readSlip_47 : decode cX11_readSlip 47 = .ok (.getfield 184, 3) := by decide +kernel
theorem dX11_readSlip_50 : decode cX11_readSlip 50 = .ok (.bipush 41, 2) := by decide +kernel
theorem dX11_readSlip_52 : decode cX11_readSlip 52 = .ok (.if_icmp .ne 42, 3) := by decide +kernel
theorem dX11_readSlip_55 : decode cX11_readSlip 55 = .ok (.aload_n 0, 1) := by decide +kernel
theorem dX11_readSlip_56 : decode cX11_readSlip 56 = .ok (.invokevirtual 316, 3) := by decide +kernel
theorem dX11_readSlip_59 : decode cX11_readSlip 59 = .ok (.ifCond .eq 35, 3) := by decide +kernel
theorem dX11_readSlip_62 : decode cX11_readSlip 62 = .ok (.aload_n 0, 1) := by decide +kernel
theorem dX11_readSlip_63 : decode cX11_readSlip 63 = .ok (.iconst 0, 1) := by decide +kernel
theorem dX11_readSlip_64 : decode cX11_readSlip 64 = .ok (.invokevirtual 319, 3) := by decide +kernel
theorem dX11_readSlip_67 : decode cX11_readSlip 67 = .ok (.aload_n 0, 1) := by decide +kernel
theorem dX11_readSlip_68 : decode cX11_readSlip 68 = .ok (.dup, 1) := by decide +kernel
theorem dX11_readSlip_69 : decode cX11_readSlip 69 = .ok (.getfield 275, 3) := by decide +kernel
theorem dX11_readSlip_72 : decode cX11_readSlip 72 = .ok (.iconst 1, 1) := by decide +kernel
theorem dX11_readSlip_73 : decode cX11_readSlip 73 = .ok (.isub, 1) := by decide +kernel
theorem dX11_readSlip_74 : decode cX11_readSlip 74 = .ok (.putfield 275, 3) := by decide +kernel
theorem dX11_readSlip_77 : decode cX11_readSlip 77 = .ok (.aload_n 0, 1) := by decide +kernel
theorem dX11_readSlip_78 : decode cX11_readSlip 78 = .ok (.dup, 1) := by decide +kernel
theorem dX11_readSlip_79 : decode cX11_readSlip 79 = .ok (.getfield 285, 3) := by decide +kernel
theorem dX11_readSlip_82 : decode cX11_readSlip 82 = .ok (.iconst 1, 1) := by decide +kernel
theorem dX11_readSlip_83 : decode cX11_readSlip 83 = .ok (.isub, 1) := by decide +kernel
theorem dX11_readSlip_84 : decode cX11_readSlip 84 = .ok (.putfield 285, 3) := by decide +kernel
theorem dX11_readSlip_87 : decode cX11_readSlip 87 = .ok (.aload_n 0, 1) := by decide +kernel
theorem dX11_readSlip_88 : decode cX11_readSlip 88 = .ok (.invokevirtual 249, 3) := by decide +kernel
theorem dX11_readSlip_91 : decode cX11_readSlip 91 = .ok (.goto 63, 3) := by decide +kernel
theorem dX11_readSlip_94 : decode cX11_readSlip 94 = .ok (.iload_n 2, 1) := by decide +kernel
theorem dX11_readSlip_95 : decode cX11_readSlip 95 = .ok (.ifCond .eq 57, 3) := by decide +kernel
theorem dX11_readSlip_98 : decode cX11_readSlip 98 = .ok (.iload_n 2, 1) := by decide +kernel
theorem dX11_readSlip_99 : decode cX11_readSlip 99 = .ok (.invokestatic 278, 3) := by decide +kernel
theorem dX11_readSlip_102 : decode cX11_readSlip 102 = .ok (.iconst 4, 1) := by decide +kernel
theorem dX11_readSlip_103 : decode cX11_readSlip 103 = .ok (.if_icmp .ne 10, 3) := by decide +kernel
theorem dX11_readSlip_106 : decode cX11_readSlip 106 = .ok (.aload_n 0, 1) := by decide +kernel
theorem dX11_readSlip_107 : decode cX11_readSlip 107 = .ok (.invokevirtual 322, 3) := by decide +kernel
theorem dX11_readSlip_110 : decode cX11_readSlip 110 = .ok (.ifCond .ne 42, 3) := by decide +kernel
theorem dX11_readSlip_113 : decode cX11_readSlip 113 = .ok (.aload_n 0, 1) := by decide +kernel
theorem dX11_readSlip_114 : decode cX11_readSlip 114 = .ok (.iload_n 2, 1) := by decide +kernel
theorem dX11_readSlip_115 : decode cX11_readSlip 115 = .ok (.invokestatic 278, 3) := by decide +kernel
theorem dX11_readSlip_118 : decode cX11_readSlip 118 = .ok (.invokevirtual 319, 3) := by decide +kernel
theorem dX11_readSlip_121 : decode cX11_readSlip 121 = .ok (.aload_n 0, 1) := by decide +kernel
theorem dX11_readSlip_122 : decode cX11_readSlip 122 = .ok (.getfield 33, 3) := by decide +kernel
theorem dX11_readSlip_125 : decode cX11_readSlip 125 = .ok (.aload_n 0, 1) := by decide +kernel
theorem dX11_readSlip_126 : decode cX11_readSlip 126 = .ok (.getfield 275, 3) := by decide +kernel
theorem dX11_readSlip_129 : decode cX11_readSlip 129 = .ok (.iload_n 2, 1) := by decide +kernel
theorem dX11_readSlip_130 : decode cX11_readSlip 130 = .ok (.iastore, 1) := by decide +kernel
theorem dX11_readSlip_131 : decode cX11_readSlip 131 = .ok (.aload_n 0, 1) := by decide +kernel
theorem dX11_readSlip_132 : decode cX11_readSlip 132 = .ok (.dup, 1) := by decide +kernel
theorem dX11_readSlip_133 : decode cX11_readSlip 133 = .ok (.getfield 275, 3) := by decide +kernel
theorem dX11_readSlip_136 : decode cX11_readSlip 136 = .ok (.iconst 1, 1) := by decide +kernel
theorem dX11_readSlip_137 : decode cX11_readSlip 137 = .ok (.iadd, 1) := by decide +kernel
theorem dX11_readSlip_138 : decode cX11_readSlip 138 = .ok (.putfield 275, 3) := by decide +kernel
theorem dX11_readSlip_141 : decode cX11_readSlip 141 = .ok (.aload_n 0, 1) := by decide +kernel
theorem dX11_readSlip_142 : decode cX11_readSlip 142 = .ok (.invokevirtual 249, 3) := by decide +kernel
theorem dX11_readSlip_145 : decode cX11_readSlip 145 = .ok (.aload_n 0, 1) := by decide +kernel
theorem dX11_readSlip_146 : decode cX11_readSlip 146 = .ok (.invokevirtual 310, 3) := by decide +kernel
theorem dX11_readSlip_149 : decode cX11_readSlip 149 = .ok (.goto 5, 3) := by decide +kernel
theorem dX11_readSlip_152 : decode cX11_readSlip 152 = .ok (.iconst 0, 1) := by decide +kernel
theorem dX11_readSlip_153 : decode cX11_readSlip 153 = .ok (.istore_n 1, 1) := by decide +kernel
theorem dX11_readSlip_154 : decode cX11_readSlip 154 = .ok (.goto (-124), 3) := by decide +kernel
theorem dX11_readSlip_157 : decode cX11_readSlip 157 = .ok (.aload_n 0, 1) := by decide +kernel
theorem dX11_readSlip_158 : decode cX11_readSlip 158 = .ok (.getfield 197, 3) := by decide +kernel
theorem dX11_readSlip_161 : decode cX11_readSlip 161 = .ok (.ifCond .ne 15, 3) := by decide +kernel
theorem dX11_readSlip_164 : decode cX11_readSlip 164 = .ok (.aload_n 0, 1) := by decide +kernel
theorem dX11_readSlip_165 : decode cX11_readSlip 165 = .ok (.invokevirtual 316, 3) := by decide +kernel
theorem dX11_readSlip_168 : decode cX11_readSlip 168 = .ok (.ifCond .eq 8, 3) := by decide +kernel
theorem dX11_readSlip_171 : decode cX11_readSlip 171 = .ok (.aload_n 0, 1) := by decide +kernel
theorem dX11_readSlip_172 : decode cX11_readSlip 172 = .ok (.iconst 2, 1) := by decide +kernel
theorem dX11_readSlip_173 : decode cX11_readSlip 173 = .ok (.invokevirtual 246, 3) := by decide +kernel
theorem dX11_readSlip_176 : decode cX11_readSlip 176 = .ok (.aload_n 0, 1) := by decide +kernel
theorem dX11_readSlip_177 : decode cX11_readSlip 177 = .ok (.getfield 197, 3) := by decide +kernel
theorem dX11_readSlip_180 : decode cX11_readSlip 180 = .ok (.ifCond .ne 8, 3) := by decide +kernel
theorem dX11_readSlip_183 : decode cX11_readSlip 183 = .ok (.aload_n 0, 1) := by decide +kernel
theorem dX11_readSlip_184 : decode cX11_readSlip 184 = .ok (.iconst 0, 1) := by decide +kernel
theorem dX11_readSlip_185 : decode cX11_readSlip 185 = .ok (.invokevirtual 319, 3) := by decide +kernel
theorem dX11_readSlip_188 : decode cX11_readSlip 188 = .ok (.return_, 1) := by decide +kernel
theorem dX11_truth_0 : decode cX11_truth 0 = .ok (.iload_n 0, 1) := by decide +kernel
theorem dX11_truth_1 : decode cX11_truth 1 = .ok (.ifCond .eq 7, 3) := by decide +kernel
theorem dX11_truth_4 : decode cX11_truth 4 = .ok (.iconst 1, 1) := by decide +kernel
theorem dX11_truth_5 : decode cX11_truth 5 = .ok (.goto 4, 3) := by decide +kernel
theorem dX11_truth_8 : decode cX11_truth 8 = .ok (.iconst 0, 1) := by decide +kernel
theorem dX11_truth_9 : decode cX11_truth 9 = .ok (.ireturn, 1) := by decide +kernel
theorem dX11_done_0 : decode cX11_done 0 = .ok (.iload_n 0, 1) := by decide +kernel
theorem dX11_done_1 : decode cX11_done 1 = .ok (.tableswitch 214 37 62 #[143, 197, 214, 214, 214, 127, 119, 214, 123, 214, 131, 214, 214, 214, 214, 214, 214, 214, 214, 214, 214, 214, 214, 155, 183, 169], 119) := by decide +kernel
theorem dX11_done_120 : decode cX11_done 120 = .ok (.iload_n 1, 1) := by decide +kernel
theorem dX11_done_121 : decode cX11_done 121 = .ok (.iload_n 2, 1) := by decide +kernel
theorem dX11_done_122 : decode cX11_done 122 = .ok (.iadd, 1) := by decide +kernel
theorem dX11_done_123 : decode cX11_done 123 = .ok (.ireturn, 1) := by decide +kernel
theorem dX11_done_124 : decode cX11_done 124 = .ok (.iload_n 1, 1) := by decide +kernel
theorem dX11_done_125 : decode cX11_done 125 = .ok (.iload_n 2, 1) := by decide +kernel
theorem dX11_done_126 : decode cX11_done 126 = .ok (.isub, 1) := by decide +kernel
theorem dX11_done_127 : decode cX11_done 127 = .ok (.ireturn, 1) := by decide +kernel
theorem dX11_done_128 : decode cX11_done 128 = .ok (.iload_n 1, 1) := by decide +kernel
theorem dX11_done_129 : decode cX11_done 129 = .ok (.iload_n 2, 1) := by decide +kernel
theorem dX11_done_130 : decode cX11_done 130 = .ok (.imul, 1) := by decide +kernel
theorem dX11_done_131 : decode cX11_done 131 = .ok (.ireturn, 1) := by decide +kernel
theorem dX11_done_132 : decode cX11_done 132 = .ok (.iload_n 2, 1) := by decide +kernel
theorem dX11_done_133 : decode cX11_done 133 = .ok (.ifCond .ne 7, 3) := by decide +kernel
theorem dX11_done_136 : decode cX11_done 136 = .ok (.iconst 0, 1) := by decide +kernel
theorem dX11_done_137 : decode cX11_done 137 = .ok (.goto 6, 3) := by decide +kernel
theorem dX11_done_140 : decode cX11_done 140 = .ok (.iload_n 1, 1) := by decide +kernel
theorem dX11_done_141 : decode cX11_done 141 = .ok (.iload_n 2, 1) := by decide +kernel
theorem dX11_done_142 : decode cX11_done 142 = .ok (.idiv, 1) := by decide +kernel
theorem dX11_done_143 : decode cX11_done 143 = .ok (.ireturn, 1) := by decide +kernel
theorem dX11_done_144 : decode cX11_done 144 = .ok (.iload_n 2, 1) := by decide +kernel
theorem dX11_done_145 : decode cX11_done 145 = .ok (.ifCond .ne 7, 3) := by decide +kernel
theorem dX11_done_148 : decode cX11_done 148 = .ok (.iconst 0, 1) := by decide +kernel
theorem dX11_done_149 : decode cX11_done 149 = .ok (.goto 6, 3) := by decide +kernel
theorem dX11_done_152 : decode cX11_done 152 = .ok (.iload_n 1, 1) := by decide +kernel
theorem dX11_done_153 : decode cX11_done 153 = .ok (.iload_n 2, 1) := by decide +kernel
theorem dX11_done_154 : decode cX11_done 154 = .ok (.irem, 1) := by decide +kernel
theorem dX11_done_155 : decode cX11_done 155 = .ok (.ireturn, 1) := by decide +kernel
theorem dX11_done_156 : decode cX11_done 156 = .ok (.iload_n 1, 1) := by decide +kernel
theorem dX11_done_157 : decode cX11_done 157 = .ok (.iload_n 2, 1) := by decide +kernel
theorem dX11_done_158 : decode cX11_done 158 = .ok (.if_icmp .ge 7, 3) := by decide +kernel
theorem dX11_done_161 : decode cX11_done 161 = .ok (.iconst 1, 1) := by decide +kernel
theorem dX11_done_162 : decode cX11_done 162 = .ok (.goto 4, 3) := by decide +kernel
theorem dX11_done_165 : decode cX11_done 165 = .ok (.iconst 0, 1) := by decide +kernel
theorem dX11_done_166 : decode cX11_done 166 = .ok (.invokestatic 325, 3) := by decide +kernel
theorem dX11_done_169 : decode cX11_done 169 = .ok (.ireturn, 1) := by decide +kernel
theorem dX11_done_170 : decode cX11_done 170 = .ok (.iload_n 1, 1) := by decide +kernel
theorem dX11_done_171 : decode cX11_done 171 = .ok (.iload_n 2, 1) := by decide +kernel
theorem dX11_done_172 : decode cX11_done 172 = .ok (.if_icmp .le 7, 3) := by decide +kernel
theorem dX11_done_175 : decode cX11_done 175 = .ok (.iconst 1, 1) := by decide +kernel
theorem dX11_done_176 : decode cX11_done 176 = .ok (.goto 4, 3) := by decide +kernel
theorem dX11_done_179 : decode cX11_done 179 = .ok (.iconst 0, 1) := by decide +kernel
theorem dX11_done_180 : decode cX11_done 180 = .ok (.invokestatic 325, 3) := by decide +kernel
theorem dX11_done_183 : decode cX11_done 183 = .ok (.ireturn, 1) := by decide +kernel
theorem dX11_done_184 : decode cX11_done 184 = .ok (.iload_n 1, 1) := by decide +kernel
theorem dX11_done_185 : decode cX11_done 185 = .ok (.iload_n 2, 1) := by decide +kernel
theorem dX11_done_186 : decode cX11_done 186 = .ok (.if_icmp .ne 7, 3) := by decide +kernel
theorem dX11_done_189 : decode cX11_done 189 = .ok (.iconst 1, 1) := by decide +kernel
theorem dX11_done_190 : decode cX11_done 190 = .ok (.goto 4, 3) := by decide +kernel
theorem dX11_done_193 : decode cX11_done 193 = .ok (.iconst 0, 1) := by decide +kernel
theorem dX11_done_194 : decode cX11_done 194 = .ok (.invokestatic 325, 3) := by decide +kernel
theorem dX11_done_197 : decode cX11_done 197 = .ok (.ireturn, 1) := by decide +kernel
theorem dX11_done_198 : decode cX11_done 198 = .ok (.iload_n 1, 1) := by decide +kernel
theorem dX11_done_199 : decode cX11_done 199 = .ok (.ifCond .eq 11, 3) := by decide +kernel
theorem dX11_done_202 : decode cX11_done 202 = .ok (.iload_n 2, 1) := by decide +kernel
theorem dX11_done_203 : decode cX11_done 203 = .ok (.ifCond .eq 7, 3) := by decide +kernel
theorem dX11_done_206 : decode cX11_done 206 = .ok (.iconst 1, 1) := by decide +kernel
theorem dX11_done_207 : decode cX11_done 207 = .ok (.goto 4, 3) := by decide +kernel
theorem dX11_done_210 : decode cX11_done 210 = .ok (.iconst 0, 1) := by decide +kernel
theorem dX11_done_211 : decode cX11_done 211 = .ok (.invokestatic 325, 3) := by decide +kernel
theorem dX11_done_214 : decode cX11_done 214 = .ok (.ireturn, 1) := by decide +kernel
theorem dX11_done_215 : decode cX11_done 215 = .ok (.iload_n 1, 1) := by decide +kernel
theorem dX11_done_216 : decode cX11_done 216 = .ok (.ifCond .ne 7, 3) := by decide +kernel
theorem dX11_done_219 : decode cX11_done 219 = .ok (.iload_n 2, 1) := by decide +kernel
theorem dX11_done_220 : decode cX11_done 220 = .ok (.ifCond .eq 7, 3) := by decide +kernel
theorem dX11_done_223 : decode cX11_done 223 = .ok (.iconst 1, 1) := by decide +kernel
theorem dX11_done_224 : decode cX11_done 224 = .ok (.goto 4, 3) := by decide +kernel
theorem dX11_done_227 : decode cX11_done 227 = .ok (.iconst 0, 1) := by decide +kernel
theorem dX11_done_228 : decode cX11_done 228 = .ok (.invokestatic 325, 3) := by decide +kernel
theorem dX11_done_231 : decode cX11_done 231 = .ok (.ireturn, 1) := by decide +kernel
theorem dX11_slipped_0 : decode cX11_slipped 0 = .ok (.iconst 0, 1) := by decide +kernel
theorem dX11_slipped_1 : decode cX11_slipped 1 = .ok (.istore_n 2, 1) := by decide +kernel
theorem dX11_slipped_2 : decode cX11_slipped 2 = .ok (.aload_n 0, 1) := by decide +kernel
theorem dX11_slipped_3 : decode cX11_slipped 3 = .ok (.getfield 36, 3) := by decide +kernel
theorem dX11_slipped_6 : decode cX11_slipped 6 = .ok (.iconst 0, 1) := by decide +kernel
theorem dX11_slipped_7 : decode cX11_slipped 7 = .ok (.iload_n 1, 1) := by decide +kernel
theorem dX11_slipped_8 : decode cX11_slipped 8 = .ok (.iastore, 1) := by decide +kernel
theorem dX11_slipped_9 : decode cX11_slipped 9 = .ok (.iconst 0, 1) := by decide +kernel
theorem dX11_slipped_10 : decode cX11_slipped 10 = .ok (.istore_n 3, 1) := by decide +kernel
theorem dX11_slipped_11 : decode cX11_slipped 11 = .ok (.iload_n 3, 1) := by decide +kernel
theorem dX11_slipped_12 : decode cX11_slipped 12 = .ok (.aload_n 0, 1) := by decide +kernel
theorem dX11_slipped_13 : decode cX11_slipped 13 = .ok (.getfield 329, 3) := by decide +kernel
theorem dX11_slipped_16 : decode cX11_slipped 16 = .ok (.if_icmp .ge 143, 3) := by decide +kernel
theorem dX11_slipped_19 : decode cX11_slipped 19 = .ok (.aload_n 0, 1) := by decide +kernel
theorem dX11_slipped_20 : decode cX11_slipped 20 = .ok (.getfield 27, 3) := by decide +kernel
theorem dX11_slipped_23 : decode cX11_slipped 23 = .ok (.iload_n 3, 1) := by decide +kernel
theorem dX11_slipped_24 : decode cX11_slipped 24 = .ok (.iaload, 1) := by decide +kernel
theorem dX11_slipped_25 : decode cX11_slipped 25 = .ok (.ifCond .eq 13, 3) := by decide +kernel
theorem dX11_slipped_28 : decode cX11_slipped 28 = .ok (.aload_n 0, 1) := by decide +kernel
theorem dX11_slipped_29 : decode cX11_slipped 29 = .ok (.getfield 27, 3) := by decide +kernel
theorem dX11_slipped_32 : decode cX11_slipped 32 = .ok (.iload_n 3, 1) := by decide +kernel
theorem dX11_slipped_33 : decode cX11_slipped 33 = .ok (.iaload, 1) := by decide +kernel
theorem dX11_slipped_34 : decode cX11_slipped 34 = .ok (.iconst 1, 1) := by decide +kernel
theorem dX11_slipped_35 : decode cX11_slipped 35 = .ok (.if_icmp .ne 44, 3) := by decide +kernel
theorem dX11_slipped_38 : decode cX11_slipped 38 = .ok (.aload_n 0, 1) := by decide +kernel
theorem dX11_slipped_39 : decode cX11_slipped 39 = .ok (.getfield 36, 3) := by decide +kernel
theorem dX11_slipped_42 : decode cX11_slipped 42 = .ok (.iload_n 2, 1) := by decide +kernel
theorem dX11_slipped_43 : decode cX11_slipped 43 = .ok (.aload_n 0, 1) := by decide +kernel
theorem dX11_slipped_44 : decode cX11_slipped 44 = .ok (.getfield 27, 3) := by decide +kernel
theorem dX11_slipped_47 : decode cX11_slipped 47 = .ok (.iload_n 3, 1) := by decide +kernel
theorem dX11_slipped_48 : decode cX11_slipped 48 = .ok (.iaload, 1) := by decide +kernel
theorem dX11_slipped_49 : decode cX11_slipped 49 = .ok (.ifCond .ne 12, 3) := by decide +kernel
theorem dX11_slipped_52 : decode cX11_slipped 52 = .ok (.aload_n 0, 1) := by decide +kernel
theorem dX11_slipped_53 : decode cX11_slipped 53 = .ok (.getfield 30, 3) := by decide +kernel
theorem dX11_slipped_56 : decode cX11_slipped 56 = .ok (.iload_n 3, 1) := by decide +kernel
theorem dX11_slipped_57 : decode cX11_slipped 57 = .ok (.iaload, 1) := by decide +kernel
theorem dX11_slipped_58 : decode cX11_slipped 58 = .ok (.goto 14, 3) := by decide +kernel
theorem dX11_slipped_61 : decode cX11_slipped 61 = .ok (.aload_n 0, 1) := by decide +kernel
theorem dX11_slipped_62 : decode cX11_slipped 62 = .ok (.getfield 39, 3) := by decide +kernel
theorem dX11_slipped_65 : decode cX11_slipped 65 = .ok (.aload_n 0, 1) := by decide +kernel
theorem dX11_slipped_66 : decode cX11_slipped 66 = .ok (.getfield 30, 3) := by decide +kernel
theorem dX11_slipped_69 : decode cX11_slipped 69 = .ok (.iload_n 3, 1) := by decide +kernel
theorem dX11_slipped_70 : decode cX11_slipped 70 = .ok (.iaload, 1) := by decide +kernel
theorem dX11_slipped_71 : decode cX11_slipped 71 = .ok (.iaload, 1) := by decide +kernel
theorem dX11_slipped_72 : decode cX11_slipped 72 = .ok (.iastore, 1) := by decide +kernel
theorem dX11_slipped_73 : decode cX11_slipped 73 = .ok (.iinc 2 1, 3) := by decide +kernel
theorem dX11_slipped_76 : decode cX11_slipped 76 = .ok (.goto 77, 3) := by decide +kernel
theorem dX11_slipped_79 : decode cX11_slipped 79 = .ok (.aload_n 0, 1) := by decide +kernel
theorem dX11_slipped_80 : decode cX11_slipped 80 = .ok (.getfield 27, 3) := by decide +kernel
theorem dX11_slipped_83 : decode cX11_slipped 83 = .ok (.iload_n 3, 1) := by decide +kernel
theorem dX11_slipped_84 : decode cX11_slipped 84 = .ok (.iaload, 1) := by decide +kernel
theorem dX11_slipped_85 : decode cX11_slipped 85 = .ok (.iconst 2, 1) := by decide +kernel
theorem dX11_slipped_86 : decode cX11_slipped 86 = .ok (.if_icmp .ne 33, 3) := by decide +kernel
theorem dX11_slipped_89 : decode cX11_slipped 89 = .ok (.aload_n 0, 1) := by decide +kernel
theorem dX11_slipped_90 : decode cX11_slipped 90 = .ok (.getfield 36, 3) := by decide +kernel
theorem dX11_slipped_93 : decode cX11_slipped 93 = .ok (.iload_n 2, 1) := by decide +kernel
theorem dX11_slipped_94 : decode cX11_slipped 94 = .ok (.iconst 1, 1) := by decide +kernel
theorem dX11_slipped_95 : decode cX11_slipped 95 = .ok (.isub, 1) := by decide +kernel
theorem dX11_slipped_96 : decode cX11_slipped 96 = .ok (.aload_n 0, 1) := by decide +kernel
theorem dX11_slipped_97 : decode cX11_slipped 97 = .ok (.getfield 36, 3) := by decide +kernel
theorem dX11_slipped_100 : decode cX11_slipped 100 = .ok (.iload_n 2, 1) := by decide +kernel
theorem dX11_slipped_101 : decode cX11_slipped 101 = .ok (.iconst 1, 1) := by decide +kernel
theorem dX11_slipped_102 : decode cX11_slipped 102 = .ok (.isub, 1) := by decide +kernel
theorem dX11_slipped_103 : decode cX11_slipped 103 = .ok (.iaload, 1) := by decide +kernel
theorem dX11_slipped_104 : decode cX11_slipped 104 = .ok (.ifCond .ne 7, 3) := by decide +kernel
theorem dX11_slipped_107 : decode cX11_slipped 107 = .ok (.iconst 1, 1) := by decide +kernel
theorem dX11_slipped_108 : decode cX11_slipped 108 = .ok (.goto 4, 3) := by decide +kernel
theorem dX11_slipped_111 : decode cX11_slipped 111 = .ok (.iconst 0, 1) := by decide +kernel
theorem dX11_slipped_112 : decode cX11_slipped 112 = .ok (.invokestatic 325, 3) := by decide +kernel
theorem dX11_slipped_115 : decode cX11_slipped 115 = .ok (.iastore, 1) := by decide +kernel
theorem dX11_slipped_116 : decode cX11_slipped 116 = .ok (.goto 37, 3) := by decide +kernel
theorem dX11_slipped_119 : decode cX11_slipped 119 = .ok (.iinc 2 (-1), 3) := by decide +kernel
theorem dX11_slipped_122 : decode cX11_slipped 122 = .ok (.aload_n 0, 1) := by decide +kernel
theorem dX11_slipped_123 : decode cX11_slipped 123 = .ok (.getfield 36, 3) := by decide +kernel
theorem dX11_slipped_126 : decode cX11_slipped 126 = .ok (.iload_n 2, 1) := by decide +kernel
theorem dX11_slipped_127 : decode cX11_slipped 127 = .ok (.iconst 1, 1) := by decide +kernel
theorem dX11_slipped_128 : decode cX11_slipped 128 = .ok (.isub, 1) := by decide +kernel
theorem dX11_slipped_129 : decode cX11_slipped 129 = .ok (.aload_n 0, 1) := by decide +kernel
theorem dX11_slipped_130 : decode cX11_slipped 130 = .ok (.getfield 30, 3) := by decide +kernel
theorem dX11_slipped_133 : decode cX11_slipped 133 = .ok (.iload_n 3, 1) := by decide +kernel
theorem dX11_slipped_134 : decode cX11_slipped 134 = .ok (.iaload, 1) := by decide +kernel
theorem dX11_slipped_135 : decode cX11_slipped 135 = .ok (.aload_n 0, 1) := by decide +kernel
theorem dX11_slipped_136 : decode cX11_slipped 136 = .ok (.getfield 36, 3) := by decide +kernel
theorem dX11_slipped_139 : decode cX11_slipped 139 = .ok (.iload_n 2, 1) := by decide +kernel
theorem dX11_slipped_140 : decode cX11_slipped 140 = .ok (.iconst 1, 1) := by decide +kernel
theorem dX11_slipped_141 : decode cX11_slipped 141 = .ok (.isub, 1) := by decide +kernel
theorem dX11_slipped_142 : decode cX11_slipped 142 = .ok (.iaload, 1) := by decide +kernel
theorem dX11_slipped_143 : decode cX11_slipped 143 = .ok (.aload_n 0, 1) := by decide +kernel
theorem dX11_slipped_144 : decode cX11_slipped 144 = .ok (.getfield 36, 3) := by decide +kernel
theorem dX11_slipped_147 : decode cX11_slipped 147 = .ok (.iload_n 2, 1) := by decide +kernel
theorem dX11_slipped_148 : decode cX11_slipped 148 = .ok (.iaload, 1) := by decide +kernel
theorem dX11_slipped_149 : decode cX11_slipped 149 = .ok (.invokestatic 332, 3) := by decide +kernel
theorem dX11_slipped_152 : decode cX11_slipped 152 = .ok (.iastore, 1) := by decide +kernel
theorem dX11_slipped_153 : decode cX11_slipped 153 = .ok (.iinc 3 1, 3) := by decide +kernel
theorem dX11_slipped_156 : decode cX11_slipped 156 = .ok (.goto (-145), 3) := by decide +kernel
theorem dX11_slipped_159 : decode cX11_slipped 159 = .ok (.aload_n 0, 1) := by decide +kernel
theorem dX11_slipped_160 : decode cX11_slipped 160 = .ok (.getfield 36, 3) := by decide +kernel
theorem dX11_slipped_163 : decode cX11_slipped 163 = .ok (.iconst 0, 1) := by decide +kernel
theorem dX11_slipped_164 : decode cX11_slipped 164 = .ok (.iaload, 1) := by decide +kernel
theorem dX11_slipped_165 : decode cX11_slipped 165 = .ok (.ifCond .ge 7, 3) := by decide +kernel
theorem dX11_slipped_168 : decode cX11_slipped 168 = .ok (.iconst 0, 1) := by decide +kernel
theorem dX11_slipped_169 : decode cX11_slipped 169 = .ok (.goto 25, 3) := by decide +kernel
theorem dX11_slipped_172 : decode cX11_slipped 172 = .ok (.aload_n 0, 1) := by decide +kernel
theorem dX11_slipped_173 : decode cX11_slipped 173 = .ok (.getfield 36, 3) := by decide +kernel
theorem dX11_slipped_176 : decode cX11_slipped 176 = .ok (.iconst 0, 1) := by decide +kernel
theorem dX11_slipped_177 : decode cX11_slipped 177 = .ok (.iaload, 1) := by decide +kernel
theorem dX11_slipped_178 : decode cX11_slipped 178 = .ok (.bipush 100, 2) := by decide +kernel
theorem dX11_slipped_180 : decode cX11_slipped 180 = .ok (.if_icmp .le 8, 3) := by decide +kernel
theorem dX11_slipped_183 : decode cX11_slipped 183 = .ok (.bipush 100, 2) := by decide +kernel
theorem dX11_slipped_185 : decode cX11_slipped 185 = .ok (.goto 9, 3) := by decide +kernel
theorem dX11_slipped_188 : decode cX11_slipped 188 = .ok (.aload_n 0, 1) := by decide +kernel
theorem dX11_slipped_189 : decode cX11_slipped 189 = .ok (.getfield 36, 3) := by decide +kernel
theorem dX11_slipped_192 : decode cX11_slipped 192 = .ok (.iconst 0, 1) := by decide +kernel
theorem dX11_slipped_193 : decode cX11_slipped 193 = .ok (.iaload, 1) := by decide +kernel
theorem dX11_slipped_194 : decode cX11_slipped 194 = .ok (.ireturn, 1) := by decide +kernel
theorem dX11_readFigure_0 : decode cX11_readFigure 0 = .ok (.aload_n 0, 1) := by decide +kernel
theorem dX11_readFigure_1 : decode cX11_readFigure 1 = .ok (.iconst 0, 1) := by decide +kernel
theorem dX11_readFigure_2 : decode cX11_readFigure 2 = .ok (.aload_n 0, 1) := by decide +kernel
theorem dX11_readFigure_3 : decode cX11_readFigure 3 = .ok (.getfield 266, 3) := by decide +kernel
theorem dX11_readFigure_6 : decode cX11_readFigure 6 = .ok (.invokevirtual 336, 3) := by decide +kernel
theorem dX11_readFigure_9 : decode cX11_readFigure 9 = .ok (.aload_n 0, 1) := by decide +kernel
theorem dX11_readFigure_10 : decode cX11_readFigure 10 = .ok (.getfield 197, 3) := by decide +kernel
theorem dX11_readFigure_13 : decode cX11_readFigure 13 = .ok (.ifCond .ne 13, 3) := by decide +kernel
theorem dX11_readFigure_16 : decode cX11_readFigure 16 = .ok (.aload_n 0, 1) := by decide +kernel
theorem dX11_readFigure_17 : decode cX11_readFigure 17 = .ok (.dup, 1) := by decide +kernel
theorem dX11_readFigure_18 : decode cX11_readFigure 18 = .ok (.getfield 266, 3) := by decide +kernel
theorem dX11_readFigure_21 : decode cX11_readFigure 21 = .ok (.iconst 1, 1) := by decide +kernel
theorem dX11_readFigure_22 : decode cX11_readFigure 22 = .ok (.iadd, 1) := by decide +kernel
theorem dX11_readFigure_23 : decode cX11_readFigure 23 = .ok (.putfield 266, 3) := by decide +kernel
theorem dX11_readFigure_26 : decode cX11_readFigure 26 = .ok (.return_, 1) := by decide +kernel
theorem dX11_readTribe_0 : decode cX11_readTribe 0 = .ok (.aload_n 0, 1) := by decide +kernel
theorem dX11_readTribe_1 : decode cX11_readTribe 1 = .ok (.bipush 8, 2) := by decide +kernel
theorem dX11_readTribe_3 : decode cX11_readTribe 3 = .ok (.aload_n 0, 1) := by decide +kernel
theorem dX11_readTribe_4 : decode cX11_readTribe 4 = .ok (.getfield 339, 3) := by decide +kernel
theorem dX11_readTribe_7 : decode cX11_readTribe 7 = .ok (.invokevirtual 336, 3) := by decide +kernel
theorem dX11_readTribe_10 : decode cX11_readTribe 10 = .ok (.aload_n 0, 1) := by decide +kernel
theorem dX11_readTribe_11 : decode cX11_readTribe 11 = .ok (.getfield 339, 3) := by decide +kernel
theorem dX11_readTribe_14 : decode cX11_readTribe 14 = .ok (.istore_n 1, 1) := by decide +kernel
theorem dX11_readTribe_15 : decode cX11_readTribe 15 = .ok (.aload_n 0, 1) := by decide +kernel
theorem dX11_readTribe_16 : decode cX11_readTribe 16 = .ok (.getfield 42, 3) := by decide +kernel
theorem dX11_readTribe_19 : decode cX11_readTribe 19 = .ok (.iload_n 1, 1) := by decide +kernel
theorem dX11_readTribe_20 : decode cX11_readTribe 20 = .ok (.aload_n 0, 1) := by decide +kernel
theorem dX11_readTribe_21 : decode cX11_readTribe 21 = .ok (.ldc2_w 204, 3) := by decide +kernel
theorem dX11_readTribe_24 : decode cX11_readTribe 24 = .ok (.iconst 0, 1) := by decide +kernel
theorem dX11_readTribe_25 : decode cX11_readTribe 25 = .ok (.bipush 9, 2) := by decide +kernel
theorem dX11_readTribe_27 : decode cX11_readTribe 27 = .ok (.invokevirtual 342, 3) := by decide +kernel
theorem dX11_readTribe_30 : decode cX11_readTribe 30 = .ok (.iastore, 1) := by decide +kernel
theorem dX11_readTribe_31 : decode cX11_readTribe 31 = .ok (.aload_n 0, 1) := by decide +kernel
theorem dX11_readTribe_32 : decode cX11_readTribe 32 = .ok (.getfield 45, 3) := by decide +kernel
theorem dX11_readTribe_35 : decode cX11_readTribe 35 = .ok (.iload_n 1, 1) := by decide +kernel
theorem dX11_readTribe_36 : decode cX11_readTribe 36 = .ok (.iconst 0, 1) := by decide +kernel
theorem dX11_readTribe_37 : decode cX11_readTribe 37 = .ok (.iastore, 1) := by decide +kernel
theorem dX11_readTribe_38 : decode cX11_readTribe 38 = .ok (.aload_n 0, 1) := by decide +kernel
theorem dX11_readTribe_39 : decode cX11_readTribe 39 = .ok (.ldc2_w 206, 3) := by decide +kernel
theorem dX11_readTribe_42 : decode cX11_readTribe 42 = .ok (.invokevirtual 346, 3) := by decide +kernel
theorem dX11_readTribe_45 : decode cX11_readTribe 45 = .ok (.ifCond .eq 72, 3) := by decide +kernel
theorem dX11_readTribe_48 : decode cX11_readTribe 48 = .ok (.aload_n 0, 1) := by decide +kernel
theorem dX11_readTribe_49 : decode cX11_readTribe 49 = .ok (.getfield 184, 3) := by decide +kernel
theorem dX11_readTribe_52 : decode cX11_readTribe 52 = .ok (.iconst 2, 1) := by decide +kernel
theorem dX11_readTribe_53 : decode cX11_readTribe 53 = .ok (.if_icmp .ne 34, 3) := by decide +kernel
theorem dX11_readTribe_56 : decode cX11_readTribe 56 = .ok (.aload_n 0, 1) := by decide +kernel
theorem dX11_readTribe_57 : decode cX11_readTribe 57 = .ok (.getfield 181, 3) := by decide +kernel
theorem dX11_readTribe_60 : decode cX11_readTribe 60 = .ok (.bipush 10, 2) := by decide +kernel
theorem dX11_readTribe_62 : decode cX11_readTribe 62 = .ok (.if_icmp .ge 25, 3) := by decide +kernel
theorem dX11_readTribe_65 : decode cX11_readTribe 65 = .ok (.aload_n 0, 1) := by decide +kernel
theorem dX11_readTribe_66 : decode cX11_readTribe 66 = .ok (.getfield 45, 3) := by decide +kernel
theorem dX11_readTribe_69 : decode cX11_readTribe 69 = .ok (.iload_n 1, 1) := by decide +kernel
theorem dX11_readTribe_70 : decode cX11_readTribe 70 = .ok (.iaload, 1) := by decide +kernel
theorem dX11_readTribe_71 : decode cX11_readTribe 71 = .ok (.aload_n 0, 1) := by decide +kernel
theorem dX11_readTribe_72 : decode cX11_readTribe 72 = .ok (.getfield 181, 3) := by decide +kernel
theorem dX11_readTribe_75 : decode cX11_readTribe 75 = .ok (.ishr, 1) := by decide +kernel
theorem dX11_readTribe_76 : decode cX11_readTribe 76 = .ok (.iconst 1, 1) := by decide +kernel
theorem dX11_readTribe_77 : decode cX11_readTribe 77 = .ok (.iand, 1) := by decide +kernel
theorem dX11_readTribe_78 : decode cX11_readTribe 78 = .ok (.iconst 1, 1) := by decide +kernel
theorem dX11_readTribe_79 : decode cX11_readTribe 79 = .ok (.if_icmp .ne 8, 3) := by decide +kernel
theorem dX11_readTribe_82 : decode cX11_readTribe 82 = .ok (.aload_n 0, 1) := by decide +kernel
theorem dX11_readTribe_83 : decode cX11_readTribe 83 = .ok (.iconst 3, 1) := by decide +kernel
theorem dX11_readTribe_84 : decode cX11_readTribe 84 = .ok (.invokevirtual 246, 3) := by decide +kernel
theorem dX11_readTribe_87 : decode cX11_readTribe 87 = .ok (.aload_n 0, 1) := by decide +kernel
theorem dX11_readTribe_88 : decode cX11_readTribe 88 = .ok (.iconst 0, 1) := by decide +kernel
theorem dX11_readTribe_89 : decode cX11_readTribe 89 = .ok (.bipush 9, 2) := by decide +kernel
theorem dX11_readTribe_91 : decode cX11_readTribe 91 = .ok (.invokevirtual 256, 3) := by decide +kernel
theorem dX11_readTribe_94 : decode cX11_readTribe 94 = .ok (.istore_n 2, 1) := by decide +kernel
theorem dX11_readTribe_95 : decode cX11_readTribe 95 = .ok (.aload_n 0, 1) := by decide +kernel
theorem dX11_readTribe_96 : decode cX11_readTribe 96 = .ok (.getfield 197, 3) := by decide +kernel
theorem dX11_readTribe_99 : decode cX11_readTribe 99 = .ok (.ifCond .ne 15, 3) := by decide +kernel
theorem dX11_readTribe_102 : decode cX11_readTribe 102 = .ok (.aload_n 0, 1) := by decide +kernel
theorem dX11_readTribe_103 : decode cX11_readTribe 103 = .ok (.getfield 45, 3) := by decide +kernel
theorem dX11_readTribe_106 : decode cX11_readTribe 106 = .ok (.iload_n 1, 1) := by decide +kernel
theorem dX11_readTribe_107 : decode cX11_readTribe 107 = .ok (.dup2, 1) := by decide +kernel
theorem dX11_readTribe_108 : decode cX11_readTribe 108 = .ok (.iaload, 1) := by decide +kernel
theorem dX11_readTribe_109 : decode cX11_readTribe 109 = .ok (.iconst 1, 1) := by decide +kernel
theorem dX11_readTribe_110 : decode cX11_readTribe 110 = .ok (.iload_n 2, 1) := by decide +kernel
theorem dX11_readTribe_111 : decode cX11_readTribe 111 = .ok (.ishl, 1) := by decide +kernel
theorem dX11_readTribe_112 : decode cX11_readTribe 112 = .ok (.ior, 1) := by decide +kernel
theorem dX11_readTribe_113 : decode cX11_readTribe 113 = .ok (.iastore, 1) := by decide +kernel
theorem dX11_readTribe_114 : decode cX11_readTribe 114 = .ok (.goto (-76), 3) := by decide +kernel
theorem dX11_readTribe_117 : decode cX11_readTribe 117 = .ok (.aload_n 0, 1) := by decide +kernel
theorem dX11_readTribe_118 : decode cX11_readTribe 118 = .ok (.getfield 90, 3) := by decide +kernel
theorem dX11_readTribe_121 : decode cX11_readTribe 121 = .ok (.iload_n 1, 1) := by decide +kernel
theorem dX11_readTribe_122 : decode cX11_readTribe 122 = .ok (.aload_n 0, 1) := by decide +kernel
theorem dX11_readTribe_123 : decode cX11_readTribe 123 = .ok (.ldc2_w 208, 3) := by decide +kernel
theorem dX11_readTribe_126 : decode cX11_readTribe 126 = .ok (.invokevirtual 346, 3) := by decide +kernel
theorem dX11_readTribe_129 : decode cX11_readTribe 129 = .ok (.bastore, 1) := by decide +kernel
theorem dX11_readTribe_130 : decode cX11_readTribe 130 = .ok (.aload_n 0, 1) := by decide +kernel
theorem dX11_readTribe_131 : decode cX11_readTribe 131 = .ok (.getfield 197, 3) := by decide +kernel
theorem dX11_readTribe_134 : decode cX11_readTribe 134 = .ok (.ifCond .le 4, 3) := by decide +kernel
theorem dX11_readTribe_137 : decode cX11_readTribe 137 = .ok (.return_, 1) := by decide +kernel
theorem dX11_readTribe_138 : decode cX11_readTribe 138 = .ok (.iconst 0, 1) := by decide +kernel
theorem dX11_readTribe_139 : decode cX11_readTribe 139 = .ok (.istore_n 2, 1) := by decide +kernel
theorem dX11_readTribe_140 : decode cX11_readTribe 140 = .ok (.iload_n 2, 1) := by decide +kernel
theorem dX11_readTribe_141 : decode cX11_readTribe 141 = .ok (.bipush 8, 2) := by decide +kernel
theorem dX11_readTribe_143 : decode cX11_readTribe 143 = .ok (.if_icmp .ge 21, 3) := by decide +kernel
theorem dX11_readTribe_146 : decode cX11_readTribe 146 = .ok (.aload_n 0, 1) := by decide +kernel
theorem dX11_readTribe_147 : decode cX11_readTribe 147 = .ok (.getfield 54, 3) := by decide +kernel
theorem dX11_readTribe_150 : decode cX11_readTribe 150 = .ok (.bipush 8, 2) := by decide +kernel
theorem dX11_readTribe_152 : decode cX11_readTribe 152 = .ok (.iload_n 1, 1) := by decide +kernel
theorem dX11_readTribe_153 : decode cX11_readTribe 153 = .ok (.imul, 1) := by decide +kernel
theorem dX11_readTribe_154 : decode cX11_readTribe 154 = .ok (.iload_n 2, 1) := by decide +kernel
theorem dX11_readTribe_155 : decode cX11_readTribe 155 = .ok (.iadd, 1) := by decide +kernel
theorem dX11_readTribe_156 : decode cX11_readTribe 156 = .ok (.iconst (-1), 1) := by decide +kernel
theorem dX11_readTribe_157 : decode cX11_readTribe 157 = .ok (.iastore, 1) := by decide +kernel
theorem dX11_readTribe_158 : decode cX11_readTribe 158 = .ok (.iinc 2 1, 3) := by decide +kernel
theorem dX11_readTribe_161 : decode cX11_readTribe 161 = .ok (.goto (-21), 3) := by decide +kernel
theorem dX11_readTribe_164 : decode cX11_readTribe 164 = .ok (.aload_n 0, 1) := by decide +kernel
theorem dX11_readTribe_165 : decode cX11_readTribe 165 = .ok (.dup, 1) := by decide +kernel
theorem dX11_readTribe_166 : decode cX11_readTribe 166 = .ok (.getfield 339, 3) := by decide +kernel
theorem dX11_readTribe_169 : decode cX11_readTribe 169 = .ok (.iconst 1, 1) := by decide +kernel
theorem dX11_readTribe_170 : decode cX11_readTribe 170 = .ok (.iadd, 1) := by decide +kernel
theorem dX11_readTribe_171 : decode cX11_readTribe 171 = .ok (.putfield 339, 3) := by decide +kernel
theorem dX11_readTribe_174 : decode cX11_readTribe 174 = .ok (.return_, 1) := by decide +kernel
theorem dX11_readMove_0 : decode cX11_readMove 0 = .ok (.aload_n 0, 1) := by decide +kernel
theorem dX11_readMove_1 : decode cX11_readMove 1 = .ok (.invokevirtual 249, 3) := by decide +kernel
theorem dX11_readMove_4 : decode cX11_readMove 4 = .ok (.aload_n 0, 1) := by decide +kernel
theorem dX11_readMove_5 : decode cX11_readMove 5 = .ok (.getfield 349, 3) := by decide +kernel
theorem dX11_readMove_8 : decode cX11_readMove 8 = .ok (.istore_n 1, 1) := by decide +kernel
theorem dX11_readMove_9 : decode cX11_readMove 9 = .ok (.aload_n 0, 1) := by decide +kernel
theorem dX11_readMove_10 : decode cX11_readMove 10 = .ok (.getfield 60, 3) := by decide +kernel
theorem dX11_readMove_13 : decode cX11_readMove 13 = .ok (.iload_n 1, 1) := by decide +kernel
theorem dX11_readMove_14 : decode cX11_readMove 14 = .ok (.aload_n 0, 1) := by decide +kernel
theorem dX11_readMove_15 : decode cX11_readMove 15 = .ok (.invokevirtual 352, 3) := by decide +kernel
theorem dX11_readMove_18 : decode cX11_readMove 18 = .ok (.iastore, 1) := by decide +kernel
theorem dX11_readMove_19 : decode cX11_readMove 19 = .ok (.aload_n 0, 1) := by decide +kernel
theorem dX11_readMove_20 : decode cX11_readMove 20 = .ok (.getfield 63, 3) := by decide +kernel
theorem dX11_readMove_23 : decode cX11_readMove 23 = .ok (.iload_n 1, 1) := by decide +kernel
theorem dX11_readMove_24 : decode cX11_readMove 24 = .ok (.aload_n 0, 1) := by decide +kernel
theorem dX11_readMove_25 : decode cX11_readMove 25 = .ok (.invokevirtual 352, 3) := by decide +kernel
theorem dX11_readMove_28 : decode cX11_readMove 28 = .ok (.iastore, 1) := by decide +kernel
theorem dX11_readMove_29 : decode cX11_readMove 29 = .ok (.aload_n 0, 1) := by decide +kernel
theorem dX11_readMove_30 : decode cX11_readMove 30 = .ok (.getfield 66, 3) := by decide +kernel
theorem dX11_readMove_33 : decode cX11_readMove 33 = .ok (.iload_n 1, 1) := by decide +kernel
theorem dX11_readMove_34 : decode cX11_readMove 34 = .ok (.aload_n 0, 1) := by decide +kernel
theorem dX11_readMove_35 : decode cX11_readMove 35 = .ok (.ldc2_w 212, 3) := by decide +kernel
theorem dX11_readMove_38 : decode cX11_readMove 38 = .ok (.iconst 0, 1) := by decide +kernel
theorem dX11_readMove_39 : decode cX11_readMove 39 = .ok (.bipush 9, 2) := by decide +kernel
theorem dX11_readMove_41 : decode cX11_readMove 41 = .ok (.invokevirtual 342, 3) := by decide +kernel
theorem dX11_readMove_44 : decode cX11_readMove 44 = .ok (.iastore, 1) := by decide +kernel
theorem dX11_readMove_45 : decode cX11_readMove 45 = .ok (.aload_n 0, 1) := by decide +kernel
theorem dX11_readMove_46 : decode cX11_readMove 46 = .ok (.getfield 69, 3) := by decide +kernel
theorem dX11_readMove_49 : decode cX11_readMove 49 = .ok (.iload_n 1, 1) := by decide +kernel
theorem dX11_readMove_50 : decode cX11_readMove 50 = .ok (.aload_n 0, 1) := by decide +kernel
theorem dX11_readMove_51 : decode cX11_readMove 51 = .ok (.ldc2_w 214, 3) := by decide +kernel
theorem dX11_readMove_54 : decode cX11_readMove 54 = .ok (.iconst 0, 1) := by decide +kernel
theorem dX11_readMove_55 : decode cX11_readMove 55 = .ok (.bipush 9, 2) := by decide +kernel
theorem dX11_readMove_57 : decode cX11_readMove 57 = .ok (.invokevirtual 342, 3) := by decide +kernel
theorem dX11_readMove_60 : decode cX11_readMove 60 = .ok (.iastore, 1) := by decide +kernel
theorem dX11_readMove_61 : decode cX11_readMove 61 = .ok (.aload_n 0, 1) := by decide +kernel
theorem dX11_readMove_62 : decode cX11_readMove 62 = .ok (.getfield 72, 3) := by decide +kernel
theorem dX11_readMove_65 : decode cX11_readMove 65 = .ok (.iload_n 1, 1) := by decide +kernel
theorem dX11_readMove_66 : decode cX11_readMove 66 = .ok (.aload_n 0, 1) := by decide +kernel
theorem dX11_readMove_67 : decode cX11_readMove 67 = .ok (.ldc2_w 216, 3) := by decide +kernel
theorem dX11_readMove_70 : decode cX11_readMove 70 = .ok (.invokevirtual 346, 3) := by decide +kernel
theorem dX11_readMove_73 : decode cX11_readMove 73 = .ok (.ifCond .eq 10, 3) := by decide +kernel
theorem dX11_readMove_76 : decode cX11_readMove 76 = .ok (.aload_n 0, 1) := by decide +kernel
theorem dX11_readMove_77 : decode cX11_readMove 77 = .ok (.invokevirtual 352, 3) := by decide +kernel
theorem dX11_readMove_80 : decode cX11_readMove 80 = .ok (.goto 4, 3) := by decide +kernel
theorem dX11_readMove_83 : decode cX11_readMove 83 = .ok (.iconst (-1), 1) := by decide +kernel
theorem dX11_readMove_84 : decode cX11_readMove 84 = .ok (.iastore, 1) := by decide +kernel
theorem dX11_readMove_85 : decode cX11_readMove 85 = .ok (.aload_n 0, 1) := by decide +kernel
theorem dX11_readMove_86 : decode cX11_readMove 86 = .ok (.getfield 197, 3) := by decide +kernel
theorem dX11_readMove_89 : decode cX11_readMove 89 = .ok (.ifCond .ne 13, 3) := by decide +kernel
theorem dX11_readMove_92 : decode cX11_readMove 92 = .ok (.aload_n 0, 1) := by decide +kernel
theorem dX11_readMove_93 : decode cX11_readMove 93 = .ok (.dup, 1) := by decide +kernel
theorem dX11_readMove_94 : decode cX11_readMove 94 = .ok (.getfield 349, 3) := by decide +kernel
theorem dX11_readMove_97 : decode cX11_readMove 97 = .ok (.iconst 1, 1) := by decide +kernel
theorem dX11_readMove_98 : decode cX11_readMove 98 = .ok (.iadd, 1) := by decide +kernel
theorem dX11_readMove_99 : decode cX11_readMove 99 = .ok (.putfield 349, 3) := by decide +kernel
theorem dX11_readMove_102 : decode cX11_readMove 102 = .ok (.return_, 1) := by decide +kernel
theorem dX11_readWorth_0 : decode cX11_readWorth 0 = .ok (.aload_n 0, 1) := by decide +kernel
theorem dX11_readWorth_1 : decode cX11_readWorth 1 = .ok (.invokevirtual 249, 3) := by decide +kernel
theorem dX11_readWorth_4 : decode cX11_readWorth 4 = .ok (.aload_n 0, 1) := by decide +kernel
theorem dX11_readWorth_5 : decode cX11_readWorth 5 = .ok (.bipush 8, 2) := by decide +kernel
theorem dX11_readWorth_7 : decode cX11_readWorth 7 = .ok (.aload_n 0, 1) := by decide +kernel
theorem dX11_readWorth_8 : decode cX11_readWorth 8 = .ok (.getfield 339, 3) := by decide +kernel
theorem dX11_readWorth_11 : decode cX11_readWorth 11 = .ok (.invokevirtual 269, 3) := by decide +kernel
theorem dX11_readWorth_14 : decode cX11_readWorth 14 = .ok (.istore_n 1, 1) := by decide +kernel
theorem dX11_readWorth_15 : decode cX11_readWorth 15 = .ok (.aload_n 0, 1) := by decide +kernel
theorem dX11_readWorth_16 : decode cX11_readWorth 16 = .ok (.getfield 197, 3) := by decide +kernel
theorem dX11_readWorth_19 : decode cX11_readWorth 19 = .ok (.ifCond .ne 7, 3) := by decide +kernel
theorem dX11_readWorth_22 : decode cX11_readWorth 22 = .ok (.aload_n 0, 1) := by decide +kernel
theorem dX11_readWorth_23 : decode cX11_readWorth 23 = .ok (.invokevirtual 249, 3) := by decide +kernel
theorem dX11_readWorth_26 : decode cX11_readWorth 26 = .ok (.aload_n 0, 1) := by decide +kernel
theorem dX11_readWorth_27 : decode cX11_readWorth 27 = .ok (.iconst 0, 1) := by decide +kernel
theorem dX11_readWorth_28 : decode cX11_readWorth 28 = .ok (.aload_n 0, 1) := by decide +kernel
theorem dX11_readWorth_29 : decode cX11_readWorth 29 = .ok (.getfield 266, 3) := by decide +kernel
theorem dX11_readWorth_32 : decode cX11_readWorth 32 = .ok (.invokevirtual 269, 3) := by decide +kernel
theorem dX11_readWorth_35 : decode cX11_readWorth 35 = .ok (.istore_n 2, 1) := by decide +kernel
theorem dX11_readWorth_36 : decode cX11_readWorth 36 = .ok (.aload_n 0, 1) := by decide +kernel
theorem dX11_readWorth_37 : decode cX11_readWorth 37 = .ok (.getfield 197, 3) := by decide +kernel
theorem dX11_readWorth_40 : decode cX11_readWorth 40 = .ok (.ifCond .ne 22, 3) := by decide +kernel
theorem dX11_readWorth_43 : decode cX11_readWorth 43 = .ok (.aload_n 0, 1) := by decide +kernel
theorem dX11_readWorth_44 : decode cX11_readWorth 44 = .ok (.getfield 54, 3) := by decide +kernel
theorem dX11_readWorth_47 : decode cX11_readWorth 47 = .ok (.bipush 8, 2) := by decide +kernel
theorem dX11_readWorth_49 : decode cX11_readWorth 49 = .ok (.iload_n 1, 1) := by decide +kernel
theorem dX11_readWorth_50 : decode cX11_readWorth 50 = .ok (.imul, 1) := by decide +kernel
theorem dX11_readWorth_51 : decode cX11_readWorth 51 = .ok (.iload_n 2, 1) := by decide +kernel
theorem dX11_readWorth_52 : decode cX11_readWorth 52 = .ok (.iadd, 1) := by decide +kernel
theorem dX11_readWorth_53 : decode cX11_readWorth 53 = .ok (.iaload, 1) := by decide +kernel
theorem dX11_readWorth_54 : decode cX11_readWorth 54 = .ok (.ifCond .lt 8, 3) := by decide +kernel
theorem dX11_readWorth_57 : decode cX11_readWorth 57 = .ok (.aload_n 0, 1) := by decide +kernel
theorem dX11_readWorth_58 : decode cX11_readWorth 58 = .ok (.iconst 3, 1) := by decide +kernel
theorem dX11_readWorth_59 : decode cX11_readWorth 59 = .ok (.invokevirtual 246, 3) := by decide +kernel
theorem dX11_readWorth_62 : decode cX11_readWorth 62 = .ok (.aload_n 0, 1) := by decide +kernel
theorem dX11_readWorth_63 : decode cX11_readWorth 63 = .ok (.getfield 197, 3) := by decide +kernel
theorem dX11_readWorth_66 : decode cX11_readWorth 66 = .ok (.ifCond .ne 7, 3) := by decide +kernel
theorem dX11_readWorth_69 : decode cX11_readWorth 69 = .ok (.aload_n 0, 1) := by decide +kernel
theorem dX11_readWorth_70 : decode cX11_readWorth 70 = .ok (.invokevirtual 249, 3) := by decide +kernel
theorem dX11_readWorth_73 : decode cX11_readWorth 73 = .ok (.aload_n 0, 1) := by decide +kernel
theorem dX11_readWorth_74 : decode cX11_readWorth 74 = .ok (.iconst 0, 1) := by decide +kernel
theorem dX11_readWorth_75 : decode cX11_readWorth 75 = .ok (.bipush 99, 2) := by decide +kernel
theorem dX11_readWorth_77 : decode cX11_readWorth 77 = .ok (.invokevirtual 256, 3) := by decide +kernel
theorem dX11_readWorth_80 : decode cX11_readWorth 80 = .ok (.istore_n 3, 1) := by decide +kernel
theorem dX11_readWorth_81 : decode cX11_readWorth 81 = .ok (.aload_n 0, 1) := by decide +kernel
theorem dX11_readWorth_82 : decode cX11_readWorth 82 = .ok (.getfield 197, 3) := by decide +kernel
theorem dX11_readWorth_85 : decode cX11_readWorth 85 = .ok (.ifCond .ne 15, 3) := by decide +kernel
theorem dX11_readWorth_88 : decode cX11_readWorth 88 = .ok (.aload_n 0, 1) := by decide +kernel
theorem dX11_readWorth_89 : decode cX11_readWorth 89 = .ok (.getfield 54, 3) := by decide +kernel
theorem dX11_readWorth_92 : decode cX11_readWorth 92 = .ok (.bipush 8, 2) := by decide +kernel
theorem dX11_readWorth_94 : decode cX11_readWorth 94 = .ok (.iload_n 1, 1) := by decide +kernel
theorem dX11_readWorth_95 : decode cX11_readWorth 95 = .ok (.imul, 1) := by decide +kernel
theorem dX11_readWorth_96 : decode cX11_readWorth 96 = .ok (.iload_n 2, 1) := by decide +kernel
theorem dX11_readWorth_97 : decode cX11_readWorth 97 = .ok (.iadd, 1) := by decide +kernel
theorem dX11_readWorth_98 : decode cX11_readWorth 98 = .ok (.iload_n 3, 1) := by decide +kernel
theorem dX11_readWorth_99 : decode cX11_readWorth 99 = .ok (.iastore, 1) := by decide +kernel
theorem dX11_readWorth_100 : decode cX11_readWorth 100 = .ok (.return_, 1) := by decide +kernel
theorem dX11_readLine_0 : decode cX11_readLine 0 = .ok (.aload_n 0, 1) := by decide +kernel
theorem dX11_readLine_1 : decode cX11_readLine 1 = .ok (.ldc2_w 200, 3) := by decide +kernel
theorem dX11_readLine_4 : decode cX11_readLine 4 = .ok (.invokevirtual 242, 3) := by decide +kernel
theorem dX11_readLine_7 : decode cX11_readLine 7 = .ok (.ifCond .eq 19, 3) := by decide +kernel
theorem dX11_readLine_10 : decode cX11_readLine 10 = .ok (.aload_n 0, 1) := by decide +kernel
theorem dX11_readLine_11 : decode cX11_readLine 11 = .ok (.getfield 266, 3) := by decide +kernel
theorem dX11_readLine_14 : decode cX11_readLine 14 = .ok (.bipush 8, 2) := by decide +kernel
theorem dX11_readLine_16 : decode cX11_readLine 16 = .ok (.if_icmp .ge 10, 3) := by decide +kernel
theorem dX11_readLine_19 : decode cX11_readLine 19 = .ok (.aload_n 0, 1) := by decide +kernel
theorem dX11_readLine_20 : decode cX11_readLine 20 = .ok (.invokevirtual 355, 3) := by decide +kernel
theorem dX11_readLine_23 : decode cX11_readLine 23 = .ok (.goto 184, 3) := by decide +kernel
theorem dX11_readLine_26 : decode cX11_readLine 26 = .ok (.aload_n 0, 1) := by decide +kernel
theorem dX11_readLine_27 : decode cX11_readLine 27 = .ok (.ldc2_w 202, 3) := by decide +kernel
theorem dX11_readLine_30 : decode cX11_readLine 30 = .ok (.invokevirtual 242, 3) := by decide +kernel
theorem dX11_readLine_33 : decode cX11_readLine 33 = .ok (.ifCond .eq 18, 3) := by decide +kernel
theorem dX11_readLine_36 : decode cX11_readLine 36 = .ok (.aload_n 0, 1) := by decide +kernel
theorem dX11_readLine_37 : decode cX11_readLine 37 = .ok (.getfield 339, 3) := by decide +kernel
theorem dX11_readLine_40 : decode cX11_readLine 40 = .ok (.iconst 5, 1) := by decide +kernel
theorem dX11_readLine_41 : decode cX11_readLine 41 = .ok (.if_icmp .ge 10, 3) := by decide +kernel
theorem dX11_readLine_44 : decode cX11_readLine 44 = .ok (.aload_n 0, 1) := by decide +kernel
theorem dX11_readLine_45 : decode cX11_readLine 45 = .ok (.invokevirtual 358, 3) := by decide +kernel
theorem dX11_readLine_48 : decode cX11_readLine 48 = .ok (.goto 159, 3) := by decide +kernel
theorem dX11_readLine_51 : decode cX11_readLine 51 = .ok (.aload_n 0, 1) := by decide +kernel
theorem dX11_readLine_52 : decode cX11_readLine 52 = .ok (.ldc2_w 210, 3) := by decide +kernel
theorem dX11_readLine_55 : decode cX11_readLine 55 = .ok (.invokevirtual 242, 3) := by decide +kernel
theorem dX11_readLine_58 : decode cX11_readLine 58 = .ok (.ifCond .eq 19, 3) := by decide +kernel
theorem dX11_readLine_61 : decode cX11_readLine 61 = .ok (.aload_n 0, 1) := by decide +kernel
theorem dX11_readLine_62 : decode cX11_readLine 62 = .ok (.getfield 349, 3) := by decide +kernel
theorem dX11_readLine_65 : decode cX11_readLine 65 = .ok (.bipush 16, 2) := by decide +kernel
theorem dX11_readLine_67 : decode cX11_readLine 67 = .ok (.if_icmp .ge 10, 3) := by decide +kernel
theorem dX11_readLine_70 : decode cX11_readLine 70 = .ok (.aload_n 0, 1) := by decide +kernel
theorem dX11_readLine_71 : decode cX11_readLine 71 = .ok (.invokevirtual 361, 3) := by decide +kernel
theorem dX11_readLine_74 : decode cX11_readLine 74 = .ok (.goto 133, 3) := by decide +kernel
theorem dX11_readLine_77 : decode cX11_readLine 77 = .ok (.aload_n 0, 1) := by decide +kernel
theorem dX11_readLine_78 : decode cX11_readLine 78 = .ok (.ldc2_w 218, 3) := by decide +kernel
theorem dX11_readLine_81 : decode cX11_readLine 81 = .ok (.invokevirtual 242, 3) := by decide +kernel
theorem dX11_readLine_84 : decode cX11_readLine 84 = .ok (.ifCond .eq 10, 3) := by decide +kernel
theorem dX11_readLine_87 : decode cX11_readLine 87 = .ok (.aload_n 0, 1) := by decide +kernel
theorem dX11_readLine_88 : decode cX11_readLine 88 = .ok (.invokevirtual 364, 3) := by decide +kernel
theorem dX11_readLine_91 : decode cX11_readLine 91 = .ok (.goto 116, 3) := by decide +kernel
theorem dX11_readLine_94 : decode cX11_readLine 94 = .ok (.aload_n 0, 1) := by decide +kernel
theorem dX11_readLine_95 : decode cX11_readLine 95 = .ok (.ldc2_w 220, 3) := by decide +kernel
theorem dX11_readLine_98 : decode cX11_readLine 98 = .ok (.invokevirtual 242, 3) := by decide +kernel
theorem dX11_readLine_101 : decode cX11_readLine 101 = .ok (.ifCond .eq 22, 3) := by decide +kernel
theorem dX11_readLine_104 : decode cX11_readLine 104 = .ok (.aload_n 0, 1) := by decide +kernel
theorem dX11_readLine_105 : decode cX11_readLine 105 = .ok (.getfield 367, 3) := by decide +kernel
theorem dX11_readLine_108 : decode cX11_readLine 108 = .ok (.ifCond .ne 15, 3) := by decide +kernel
theorem dX11_readLine_111 : decode cX11_readLine 111 = .ok (.aload_n 0, 1) := by decide +kernel
theorem dX11_readLine_112 : decode cX11_readLine 112 = .ok (.iconst 1, 1) := by decide +kernel
theorem dX11_readLine_113 : decode cX11_readLine 113 = .ok (.putfield 367, 3) := by decide +kernel
theorem dX11_readLine_116 : decode cX11_readLine 116 = .ok (.aload_n 0, 1) := by decide +kernel
theorem dX11_readLine_117 : decode cX11_readLine 117 = .ok (.invokevirtual 371, 3) := by decide +kernel
theorem dX11_readLine_120 : decode cX11_readLine 120 = .ok (.goto 87, 3) := by decide +kernel
theorem dX11_readLine_123 : decode cX11_readLine 123 = .ok (.aload_n 0, 1) := by decide +kernel
theorem dX11_readLine_124 : decode cX11_readLine 124 = .ok (.ldc2_w 222, 3) := by decide +kernel
theorem dX11_readLine_127 : decode cX11_readLine 127 = .ok (.invokevirtual 242, 3) := by decide +kernel
theorem dX11_readLine_130 : decode cX11_readLine 130 = .ok (.ifCond .eq 32, 3) := by decide +kernel
theorem dX11_readLine_133 : decode cX11_readLine 133 = .ok (.aload_n 0, 1) := by decide +kernel
theorem dX11_readLine_134 : decode cX11_readLine 134 = .ok (.getfield 374, 3) := by decide +kernel
theorem dX11_readLine_137 : decode cX11_readLine 137 = .ok (.ifCond .ne 25, 3) := by decide +kernel
theorem dX11_readLine_140 : decode cX11_readLine 140 = .ok (.aload_n 0, 1) := by decide +kernel
theorem dX11_readLine_141 : decode cX11_readLine 141 = .ok (.iconst 1, 1) := by decide +kernel
theorem dX11_readLine_142 : decode cX11_readLine 142 = .ok (.putfield 374, 3) := by decide +kernel
theorem dX11_readLine_145 : decode cX11_readLine 145 = .ok (.aload_n 0, 1) := by decide +kernel
theorem dX11_readLine_146 : decode cX11_readLine 146 = .ok (.aload_n 0, 1) := by decide +kernel
theorem dX11_readLine_147 : decode cX11_readLine 147 = .ok (.ldc2_w 222, 3) := by decide +kernel
theorem dX11_readLine_150 : decode cX11_readLine 150 = .ok (.iconst 1, 1) := by decide +kernel
theorem dX11_readLine_151 : decode cX11_readLine 151 = .ok (.bipush 99, 2) := by decide +kernel
theorem dX11_readLine_153 : decode cX11_readLine 153 = .ok (.invokevirtual 342, 3) := by decide +kernel
theorem dX11_readLine_156 : decode cX11_readLine 156 = .ok (.putfield 377, 3) := by decide +kernel
theorem dX11_readLine_159 : decode cX11_readLine 159 = .ok (.goto 48, 3) := by decide +kernel
theorem dX11_readLine_162 : decode cX11_readLine 162 = .ok (.aload_n 0, 1) := by decide +kernel
theorem dX11_readLine_163 : decode cX11_readLine 163 = .ok (.ldc2_w 224, 3) := by decide +kernel
theorem dX11_readLine_166 : decode cX11_readLine 166 = .ok (.invokevirtual 242, 3) := by decide +kernel
theorem dX11_readLine_169 : decode cX11_readLine 169 = .ok (.ifCond .eq 33, 3) := by decide +kernel
theorem dX11_readLine_172 : decode cX11_readLine 172 = .ok (.aload_n 0, 1) := by decide +kernel
theorem dX11_readLine_173 : decode cX11_readLine 173 = .ok (.getfield 380, 3) := by decide +kernel
theorem dX11_readLine_176 : decode cX11_readLine 176 = .ok (.ifCond .ne 26, 3) := by decide +kernel
theorem dX11_readLine_179 : decode cX11_readLine 179 = .ok (.aload_n 0, 1) := by decide +kernel
theorem dX11_readLine_180 : decode cX11_readLine 180 = .ok (.iconst 1, 1) := by decide +kernel
theorem dX11_readLine_181 : decode cX11_readLine 181 = .ok (.putfield 380, 3) := by decide +kernel
theorem dX11_readLine_184 : decode cX11_readLine 184 = .ok (.aload_n 0, 1) := by decide +kernel
theorem dX11_readLine_185 : decode cX11_readLine 185 = .ok (.aload_n 0, 1) := by decide +kernel
theorem dX11_readLine_186 : decode cX11_readLine 186 = .ok (.ldc2_w 224, 3) := by decide +kernel
theorem dX11_readLine_189 : decode cX11_readLine 189 = .ok (.iconst 0, 1) := by decide +kernel
theorem dX11_readLine_190 : decode cX11_readLine 190 = .ok (.sipush 999, 3) := by decide +kernel
theorem dX11_readLine_193 : decode cX11_readLine 193 = .ok (.invokevirtual 342, 3) := by decide +kernel
theorem dX11_readLine_196 : decode cX11_readLine 196 = .ok (.putfield 383, 3) := by decide +kernel
theorem dX11_readLine_199 : decode cX11_readLine 199 = .ok (.goto 8, 3) := by decide +kernel
theorem dX11_readLine_202 : decode cX11_readLine 202 = .ok (.aload_n 0, 1) := by decide +kernel
theorem dX11_readLine_203 : decode cX11_readLine 203 = .ok (.iconst 2, 1) := by decide +kernel
theorem dX11_readLine_204 : decode cX11_readLine 204 = .ok (.invokevirtual 246, 3) := by decide +kernel
theorem dX11_readLine_207 : decode cX11_readLine 207 = .ok (.aload_n 0, 1) := by decide +kernel
theorem dX11_readLine_208 : decode cX11_readLine 208 = .ok (.getfield 197, 3) := by decide +kernel
theorem dX11_readLine_211 : decode cX11_readLine 211 = .ok (.ifCond .ne 17, 3) := by decide +kernel
theorem dX11_readLine_214 : decode cX11_readLine 214 = .ok (.aload_n 0, 1) := by decide +kernel
theorem dX11_readLine_215 : decode cX11_readLine 215 = .ok (.getfield 184, 3) := by decide +kernel
theorem dX11_readLine_218 : decode cX11_readLine 218 = .ok (.bipush 59, 2) := by decide +kernel
theorem dX11_readLine_220 : decode cX11_readLine 220 = .ok (.if_icmp .eq 8, 3) := by decide +kernel
theorem dX11_readLine_223 : decode cX11_readLine 223 = .ok (.aload_n 0, 1) := by decide +kernel
theorem dX11_readLine_224 : decode cX11_readLine 224 = .ok (.iconst 2, 1) := by decide +kernel
theorem dX11_readLine_225 : decode cX11_readLine 225 = .ok (.invokevirtual 246, 3) := by decide +kernel
theorem dX11_readLine_228 : decode cX11_readLine 228 = .ok (.aload_n 0, 1) := by decide +kernel
theorem dX11_readLine_229 : decode cX11_readLine 229 = .ok (.getfield 197, 3) := by decide +kernel
theorem dX11_readLine_232 : decode cX11_readLine 232 = .ok (.ifCond .ne 7, 3) := by decide +kernel
theorem dX11_readLine_235 : decode cX11_readLine 235 = .ok (.aload_n 0, 1) := by decide +kernel
theorem dX11_readLine_236 : decode cX11_readLine 236 = .ok (.invokevirtual 249, 3) := by decide +kernel
theorem dX11_readLine_239 : decode cX11_readLine 239 = .ok (.return_, 1) := by decide +kernel
theorem dX11_readAll_0 : decode cX11_readAll 0 = .ok (.aload_n 0, 1) := by decide +kernel
theorem dX11_readAll_1 : decode cX11_readAll 1 = .ok (.aload_n 0, 1) := by decide +kernel
theorem dX11_readAll_2 : decode cX11_readAll 2 = .ok (.getfield 157, 3) := by decide +kernel
theorem dX11_readAll_5 : decode cX11_readAll 5 = .ok (.putfield 167, 3) := by decide +kernel
theorem dX11_readAll_8 : decode cX11_readAll 8 = .ok (.aload_n 0, 1) := by decide +kernel
theorem dX11_readAll_9 : decode cX11_readAll 9 = .ok (.iconst 0, 1) := by decide +kernel
theorem dX11_readAll_10 : decode cX11_readAll 10 = .ok (.putfield 157, 3) := by decide +kernel
theorem dX11_readAll_13 : decode cX11_readAll 13 = .ok (.aload_n 0, 1) := by decide +kernel
theorem dX11_readAll_14 : decode cX11_readAll 14 = .ok (.iconst 0, 1) := by decide +kernel
theorem dX11_readAll_15 : decode cX11_readAll 15 = .ok (.putfield 164, 3) := by decide +kernel
theorem dX11_readAll_18 : decode cX11_readAll 18 = .ok (.aload_n 0, 1) := by decide +kernel
theorem dX11_readAll_19 : decode cX11_readAll 19 = .ok (.iconst 0, 1) := by decide +kernel
theorem dX11_readAll_20 : decode cX11_readAll 20 = .ok (.putfield 197, 3) := by decide +kernel
theorem dX11_readAll_23 : decode cX11_readAll 23 = .ok (.aload_n 0, 1) := by decide +kernel
theorem dX11_readAll_24 : decode cX11_readAll 24 = .ok (.iconst (-1), 1) := by decide +kernel
theorem dX11_readAll_25 : decode cX11_readAll 25 = .ok (.putfield 13, 3) := by decide +kernel
theorem dX11_readAll_28 : decode cX11_readAll 28 = .ok (.aload_n 0, 1) := by decide +kernel
theorem dX11_readAll_29 : decode cX11_readAll 29 = .ok (.iconst 0, 1) := by decide +kernel
theorem dX11_readAll_30 : decode cX11_readAll 30 = .ok (.putfield 266, 3) := by decide +kernel
theorem dX11_readAll_33 : decode cX11_readAll 33 = .ok (.aload_n 0, 1) := by decide +kernel
theorem dX11_readAll_34 : decode cX11_readAll 34 = .ok (.iconst 0, 1) := by decide +kernel
theorem dX11_readAll_35 : decode cX11_readAll 35 = .ok (.putfield 339, 3) := by decide +kernel
theorem dX11_readAll_38 : decode cX11_readAll 38 = .ok (.aload_n 0, 1) := by decide +kernel
theorem dX11_readAll_39 : decode cX11_readAll 39 = .ok (.iconst 0, 1) := by decide +kernel
theorem dX11_readAll_40 : decode cX11_readAll 40 = .ok (.putfield 349, 3) := by decide +kernel
theorem dX11_readAll_43 : decode cX11_readAll 43 = .ok (.aload_n 0, 1) := by decide +kernel
theorem dX11_readAll_44 : decode cX11_readAll 44 = .ok (.bipush 9, 2) := by decide +kernel
theorem dX11_readAll_46 : decode cX11_readAll 46 = .ok (.putfield 377, 3) := by decide +kernel
theorem dX11_readAll_49 : decode cX11_readAll 49 = .ok (.aload_n 0, 1) := by decide +kernel
theorem dX11_readAll_50 : decode cX11_readAll 50 = .ok (.iconst 0, 1) := by decide +kernel
theorem dX11_readAll_51 : decode cX11_readAll 51 = .ok (.putfield 383, 3) := by decide +kernel
theorem dX11_readAll_54 : decode cX11_readAll 54 = .ok (.aload_n 0, 1) := by decide +kernel
theorem dX11_readAll_55 : decode cX11_readAll 55 = .ok (.iconst 0, 1) := by decide +kernel
theorem dX11_readAll_56 : decode cX11_readAll 56 = .ok (.putfield 367, 3) := by decide +kernel
theorem dX11_readAll_59 : decode cX11_readAll 59 = .ok (.aload_n 0, 1) := by decide +kernel
theorem dX11_readAll_60 : decode cX11_readAll 60 = .ok (.iconst 0, 1) := by decide +kernel
theorem dX11_readAll_61 : decode cX11_readAll 61 = .ok (.putfield 374, 3) := by decide +kernel
theorem dX11_readAll_64 : decode cX11_readAll 64 = .ok (.aload_n 0, 1) := by decide +kernel
theorem dX11_readAll_65 : decode cX11_readAll 65 = .ok (.iconst 0, 1) := by decide +kernel
theorem dX11_readAll_66 : decode cX11_readAll 66 = .ok (.putfield 380, 3) := by decide +kernel
theorem dX11_readAll_69 : decode cX11_readAll 69 = .ok (.aload_n 0, 1) := by decide +kernel
theorem dX11_readAll_70 : decode cX11_readAll 70 = .ok (.iconst 0, 1) := by decide +kernel
theorem dX11_readAll_71 : decode cX11_readAll 71 = .ok (.putfield 288, 3) := by decide +kernel
theorem dX11_readAll_74 : decode cX11_readAll 74 = .ok (.aload_n 0, 1) := by decide +kernel
theorem dX11_readAll_75 : decode cX11_readAll 75 = .ok (.invokevirtual 249, 3) := by decide +kernel
theorem dX11_readAll_78 : decode cX11_readAll 78 = .ok (.aload_n 0, 1) := by decide +kernel
theorem dX11_readAll_79 : decode cX11_readAll 79 = .ok (.getfield 197, 3) := by decide +kernel
theorem dX11_readAll_82 : decode cX11_readAll 82 = .ok (.ifCond .ne 17, 3) := by decide +kernel
theorem dX11_readAll_85 : decode cX11_readAll 85 = .ok (.aload_n 0, 1) := by decide +kernel
theorem dX11_readAll_86 : decode cX11_readAll 86 = .ok (.getfield 184, 3) := by decide +kernel
theorem dX11_readAll_89 : decode cX11_readAll 89 = .ok (.ifCond .eq 10, 3) := by decide +kernel
theorem dX11_readAll_92 : decode cX11_readAll 92 = .ok (.aload_n 0, 1) := by decide +kernel
theorem dX11_readAll_93 : decode cX11_readAll 93 = .ok (.invokevirtual 386, 3) := by decide +kernel
theorem dX11_readAll_96 : decode cX11_readAll 96 = .ok (.goto (-18), 3) := by decide +kernel
theorem dX11_readAll_99 : decode cX11_readAll 99 = .ok (.return_, 1) := by decide +kernel
theorem dX11_treaty_0 : decode cX11_treaty 0 = .ok (.aload_n 0, 1) := by decide +kernel
theorem dX11_treaty_1 : decode cX11_treaty 1 = .ok (.invokevirtual 389, 3) := by decide +kernel
theorem dX11_treaty_4 : decode cX11_treaty 4 = .ok (.aload_n 0, 1) := by decide +kernel
theorem dX11_treaty_5 : decode cX11_treaty 5 = .ok (.getfield 197, 3) := by decide +kernel
theorem dX11_treaty_8 : decode cX11_treaty 8 = .ok (.ifCond .le 5, 3) := by decide +kernel
theorem dX11_treaty_11 : decode cX11_treaty 11 = .ok (.iconst (-1), 1) := by decide +kernel
theorem dX11_treaty_12 : decode cX11_treaty 12 = .ok (.ireturn, 1) := by decide +kernel
theorem dX11_treaty_13 : decode cX11_treaty 13 = .ok (.aload_n 0, 1) := by decide +kernel
theorem dX11_treaty_14 : decode cX11_treaty 14 = .ok (.aload_n 0, 1) := by decide +kernel
theorem dX11_treaty_15 : decode cX11_treaty 15 = .ok (.getfield 266, 3) := by decide +kernel
theorem dX11_treaty_18 : decode cX11_treaty 18 = .ok (.putfield 392, 3) := by decide +kernel
theorem dX11_treaty_21 : decode cX11_treaty 21 = .ok (.aload_n 0, 1) := by decide +kernel
theorem dX11_treaty_22 : decode cX11_treaty 22 = .ok (.aload_n 0, 1) := by decide +kernel
theorem dX11_treaty_23 : decode cX11_treaty 23 = .ok (.getfield 339, 3) := by decide +kernel
theorem dX11_treaty_26 : decode cX11_treaty 26 = .ok (.putfield 395, 3) := by decide +kernel
theorem dX11_treaty_29 : decode cX11_treaty 29 = .ok (.aload_n 0, 1) := by decide +kernel
theorem dX11_treaty_30 : decode cX11_treaty 30 = .ok (.aload_n 0, 1) := by decide +kernel
theorem dX11_treaty_31 : decode cX11_treaty 31 = .ok (.getfield 349, 3) := by decide +kernel
theorem dX11_treaty_34 : decode cX11_treaty 34 = .ok (.putfield 398, 3) := by decide +kernel
theorem dX11_treaty_37 : decode cX11_treaty 37 = .ok (.aload_n 0, 1) := by decide +kernel
theorem dX11_treaty_38 : decode cX11_treaty 38 = .ok (.aload_n 0, 1) := by decide +kernel
theorem dX11_treaty_39 : decode cX11_treaty 39 = .ok (.getfield 377, 3) := by decide +kernel
theorem dX11_treaty_42 : decode cX11_treaty 42 = .ok (.putfield 97, 3) := by decide +kernel
theorem dX11_treaty_45 : decode cX11_treaty 45 = .ok (.aload_n 0, 1) := by decide +kernel
theorem dX11_treaty_46 : decode cX11_treaty 46 = .ok (.aload_n 0, 1) := by decide +kernel
theorem dX11_treaty_47 : decode cX11_treaty 47 = .ok (.getfield 288, 3) := by decide +kernel
theorem dX11_treaty_50 : decode cX11_treaty 50 = .ok (.putfield 401, 3) := by decide +kernel
theorem dX11_treaty_53 : decode cX11_treaty 53 = .ok (.aload_n 0, 1) := by decide +kernel
theorem dX11_treaty_54 : decode cX11_treaty 54 = .ok (.aload_n 0, 1) := by decide +kernel
theorem dX11_treaty_55 : decode cX11_treaty 55 = .ok (.getfield 367, 3) := by decide +kernel
theorem dX11_treaty_58 : decode cX11_treaty 58 = .ok (.ifCond .eq 10, 3) := by decide +kernel
theorem dX11_treaty_61 : decode cX11_treaty 61 = .ok (.aload_n 0, 1) := by decide +kernel
theorem dX11_treaty_62 : decode cX11_treaty 62 = .ok (.getfield 272, 3) := by decide +kernel
theorem dX11_treaty_65 : decode cX11_treaty 65 = .ok (.goto 4, 3) := by decide +kernel
theorem dX11_treaty_68 : decode cX11_treaty 68 = .ok (.iconst 0, 1) := by decide +kernel
theorem dX11_treaty_69 : decode cX11_treaty 69 = .ok (.putfield 329, 3) := by decide +kernel
theorem dX11_treaty_72 : decode cX11_treaty 72 = .ok (.iconst 0, 1) := by decide +kernel
theorem dX11_treaty_73 : decode cX11_treaty 73 = .ok (.istore_n 1, 1) := by decide +kernel
theorem dX11_treaty_74 : decode cX11_treaty 74 = .ok (.iload_n 1, 1) := by decide +kernel
theorem dX11_treaty_75 : decode cX11_treaty 75 = .ok (.aload_n 0, 1) := by decide +kernel
theorem dX11_treaty_76 : decode cX11_treaty 76 = .ok (.getfield 329, 3) := by decide +kernel
theorem dX11_treaty_79 : decode cX11_treaty 79 = .ok (.if_icmp .ge 33, 3) := by decide +kernel
theorem dX11_treaty_82 : decode cX11_treaty 82 = .ok (.aload_n 0, 1) := by decide +kernel
theorem dX11_treaty_83 : decode cX11_treaty 83 = .ok (.getfield 27, 3) := by decide +kernel
theorem dX11_treaty_86 : decode cX11_treaty 86 = .ok (.iload_n 1, 1) := by decide +kernel
theorem dX11_treaty_87 : decode cX11_treaty 87 = .ok (.aload_n 0, 1) := by decide +kernel
theorem dX11_treaty_88 : decode cX11_treaty 88 = .ok (.getfield 21, 3) := by decide +kernel
theorem dX11_treaty_91 : decode cX11_treaty 91 = .ok (.iload_n 1, 1) := by decide +kernel
theorem dX11_treaty_92 : decode cX11_treaty 92 = .ok (.iaload, 1) := by decide +kernel
theorem dX11_treaty_93 : decode cX11_treaty 93 = .ok (.iastore, 1) := by decide +kernel
theorem dX11_treaty_94 : decode cX11_treaty 94 = .ok (.aload_n 0, 1) := by decide +kernel
theorem dX11_treaty_95 : decode cX11_treaty 95 = .ok (.getfield 30, 3) := by decide +kernel
theorem dX11_treaty_98 : decode cX11_treaty 98 = .ok (.iload_n 1, 1) := by decide +kernel
theorem dX11_treaty_99 : decode cX11_treaty 99 = .ok (.aload_n 0, 1) := by decide +kernel
theorem dX11_treaty_100 : decode cX11_treaty 100 = .ok (.getfield 24, 3) := by decide +kernel
theorem dX11_treaty_103 : decode cX11_treaty 103 = .ok (.iload_n 1, 1) := by decide +kernel
theorem dX11_treaty_104 : decode cX11_treaty 104 = .ok (.iaload, 1) := by decide +kernel
theorem dX11_treaty_105 : decode cX11_treaty 105 = .ok (.iastore, 1) := by decide +kernel
theorem dX11_treaty_106 : decode cX11_treaty 106 = .ok (.iinc 1 1, 3) := by decide +kernel
theorem dX11_treaty_109 : decode cX11_treaty 109 = .ok (.goto (-35), 3) := by decide +kernel
theorem dX11_treaty_112 : decode cX11_treaty 112 = .ok (.iconst 0, 1) := by decide +kernel
theorem dX11_treaty_113 : decode cX11_treaty 113 = .ok (.istore_n 1, 1) := by decide +kernel
theorem dX11_treaty_114 : decode cX11_treaty 114 = .ok (.iload_n 1, 1) := by decide +kernel
theorem dX11_treaty_115 : decode cX11_treaty 115 = .ok (.iconst 5, 1) := by decide +kernel
theorem dX11_treaty_116 : decode cX11_treaty 116 = .ok (.if_icmp .ge 45, 3) := by decide +kernel
theorem dX11_treaty_119 : decode cX11_treaty 119 = .ok (.aload_n 0, 1) := by decide +kernel
theorem dX11_treaty_120 : decode cX11_treaty 120 = .ok (.getfield 48, 3) := by decide +kernel
theorem dX11_treaty_123 : decode cX11_treaty 123 = .ok (.iload_n 1, 1) := by decide +kernel
theorem dX11_treaty_124 : decode cX11_treaty 124 = .ok (.aload_n 0, 1) := by decide +kernel
theorem dX11_treaty_125 : decode cX11_treaty 125 = .ok (.getfield 42, 3) := by decide +kernel
theorem dX11_treaty_128 : decode cX11_treaty 128 = .ok (.iload_n 1, 1) := by decide +kernel
theorem dX11_treaty_129 : decode cX11_treaty 129 = .ok (.iaload, 1) := by decide +kernel
theorem dX11_treaty_130 : decode cX11_treaty 130 = .ok (.iastore, 1) := by decide +kernel
theorem dX11_treaty_131 : decode cX11_treaty 131 = .ok (.aload_n 0, 1) := by decide +kernel
theorem dX11_treaty_132 : decode cX11_treaty 132 = .ok (.getfield 51, 3) := by decide +kernel
theorem dX11_treaty_135 : decode cX11_treaty 135 = .ok (.iload_n 1, 1) := by decide +kernel
theorem dX11_treaty_136 : decode cX11_treaty 136 = .ok (.aload_n 0, 1) := by decide +kernel
theorem dX11_treaty_137 : decode cX11_treaty 137 = .ok (.getfield 45, 3) := by decide +kernel
theorem dX11_treaty_140 : decode cX11_treaty 140 = .ok (.iload_n 1, 1) := by decide +kernel
theorem dX11_treaty_141 : decode cX11_treaty 141 = .ok (.iaload, 1) := by decide +kernel
theorem dX11_treaty_142 : decode cX11_treaty 142 = .ok (.iastore, 1) := by decide +kernel
theorem dX11_treaty_143 : decode cX11_treaty 143 = .ok (.aload_n 0, 1) := by decide +kernel
theorem dX11_treaty_144 : decode cX11_treaty 144 = .ok (.getfield 94, 3) := by decide +kernel
theorem dX11_treaty_147 : decode cX11_treaty 147 = .ok (.iload_n 1, 1) := by decide +kernel
theorem dX11_treaty_148 : decode cX11_treaty 148 = .ok (.aload_n 0, 1) := by decide +kernel
theorem dX11_treaty_149 : decode cX11_treaty 149 = .ok (.getfield 90, 3) := by decide +kernel
theorem dX11_treaty_152 : decode cX11_treaty 152 = .ok (.iload_n 1, 1) := by decide +kernel
theorem dX11_treaty_153 : decode cX11_treaty 153 = .ok (.baload, 1) := by decide +kernel
theorem dX11_treaty_154 : decode cX11_treaty 154 = .ok (.bastore, 1) := by decide +kernel
theorem dX11_treaty_155 : decode cX11_treaty 155 = .ok (.iinc 1 1, 3) := by decide +kernel
theorem dX11_treaty_158 : decode cX11_treaty 158 = .ok (.goto (-44), 3) := by decide +kernel
theorem dX11_treaty_161 : decode cX11_treaty 161 = .ok (.iconst 0, 1) := by decide +kernel
theorem dX11_treaty_162 : decode cX11_treaty 162 = .ok (.istore_n 1, 1) := by decide +kernel
theorem dX11_treaty_163 : decode cX11_treaty 163 = .ok (.iload_n 1, 1) := by decide +kernel
theorem dX11_treaty_164 : decode cX11_treaty 164 = .ok (.bipush 8, 2) := by decide +kernel
theorem dX11_treaty_166 : decode cX11_treaty 166 = .ok (.aload_n 0, 1) := by decide +kernel
theorem dX11_treaty_167 : decode cX11_treaty 167 = .ok (.getfield 395, 3) := by decide +kernel
theorem dX11_treaty_170 : decode cX11_treaty 170 = .ok (.imul, 1) := by decide +kernel
theorem dX11_treaty_171 : decode cX11_treaty 171 = .ok (.if_icmp .ge 34, 3) := by decide +kernel
theorem dX11_treaty_174 : decode cX11_treaty 174 = .ok (.aload_n 0, 1) := by decide +kernel
theorem dX11_treaty_175 : decode cX11_treaty 175 = .ok (.getfield 57, 3) := by decide +kernel
theorem dX11_treaty_178 : decode cX11_treaty 178 = .ok (.iload_n 1, 1) := by decide +kernel
theorem dX11_treaty_179 : decode cX11_treaty 179 = .ok (.aload_n 0, 1) := by decide +kernel
theorem dX11_treaty_180 : decode cX11_treaty 180 = .ok (.getfield 54, 3) := by decide +kernel
theorem dX11_treaty_183 : decode cX11_treaty 183 = .ok (.iload_n 1, 1) := by decide +kernel
theorem dX11_treaty_184 : decode cX11_treaty 184 = .ok (.iaload, 1) := by decide +kernel
theorem dX11_treaty_185 : decode cX11_treaty 185 = .ok (.ifCond .ge 7, 3) := by decide +kernel
theorem dX11_treaty_188 : decode cX11_treaty 188 = .ok (.iconst 0, 1) := by decide +kernel
theorem dX11_treaty_189 : decode cX11_treaty 189 = .ok (.goto 9, 3) := by decide +kernel
theorem dX11_treaty_192 : decode cX11_treaty 192 = .ok (.aload_n 0, 1) := by decide +kernel
theorem dX11_treaty_193 : decode cX11_treaty 193 = .ok (.getfield 54, 3) := by decide +kernel
theorem dX11_treaty_196 : decode cX11_treaty 196 = .ok (.iload_n 1, 1) := by decide +kernel
theorem dX11_treaty_197 : decode cX11_treaty 197 = .ok (.iaload, 1) := by decide +kernel
theorem dX11_treaty_198 : decode cX11_treaty 198 = .ok (.iastore, 1) := by decide +kernel
theorem dX11_treaty_199 : decode cX11_treaty 199 = .ok (.iinc 1 1, 3) := by decide +kernel
theorem dX11_treaty_202 : decode cX11_treaty 202 = .ok (.goto (-39), 3) := by decide +kernel
theorem dX11_treaty_205 : decode cX11_treaty 205 = .ok (.iconst 0, 1) := by decide +kernel
theorem dX11_treaty_206 : decode cX11_treaty 206 = .ok (.istore_n 1, 1) := by decide +kernel
theorem dX11_treaty_207 : decode cX11_treaty 207 = .ok (.iload_n 1, 1) := by decide +kernel
theorem dX11_treaty_208 : decode cX11_treaty 208 = .ok (.aload_n 0, 1) := by decide +kernel
theorem dX11_treaty_209 : decode cX11_treaty 209 = .ok (.getfield 398, 3) := by decide +kernel
theorem dX11_treaty_212 : decode cX11_treaty 212 = .ok (.if_icmp .ge 69, 3) := by decide +kernel
theorem dX11_treaty_215 : decode cX11_treaty 215 = .ok (.aload_n 0, 1) := by decide +kernel
theorem dX11_treaty_216 : decode cX11_treaty 216 = .ok (.getfield 75, 3) := by decide +kernel
theorem dX11_treaty_219 : decode cX11_treaty 219 = .ok (.iload_n 1, 1) := by decide +kernel
theorem dX11_treaty_220 : decode cX11_treaty 220 = .ok (.aload_n 0, 1) := by decide +kernel
theorem dX11_treaty_221 : decode cX11_treaty 221 = .ok (.getfield 60, 3) := by decide +kernel
theorem dX11_treaty_224 : decode cX11_treaty 224 = .ok (.iload_n 1, 1) := by decide +kernel
theorem dX11_treaty_225 : decode cX11_treaty 225 = .ok (.iaload, 1) := by decide +kernel
theorem dX11_treaty_226 : decode cX11_treaty 226 = .ok (.iastore, 1) := by decide +kernel
theorem dX11_treaty_227 : decode cX11_treaty 227 = .ok (.aload_n 0, 1) := by decide +kernel
theorem dX11_treaty_228 : decode cX11_treaty 228 = .ok (.getfield 78, 3) := by decide +kernel
theorem dX11_treaty_231 : decode cX11_treaty 231 = .ok (.iload_n 1, 1) := by decide +kernel
theorem dX11_treaty_232 : decode cX11_treaty 232 = .ok (.aload_n 0, 1) := by decide +kernel
theorem dX11_treaty_233 : decode cX11_treaty 233 = .ok (.getfield 63, 3) := by decide +kernel
theorem dX11_treaty_236 : decode cX11_treaty 236 = .ok (.iload_n 1, 1) := by decide +kernel
theorem dX11_treaty_237 : decode cX11_treaty 237 = .ok (.iaload, 1) := by decide +kernel
theorem dX11_treaty_238 : decode cX11_treaty 238 = .ok (.iastore, 1) := by decide +kernel
theorem dX11_treaty_239 : decode cX11_treaty 239 = .ok (.aload_n 0, 1) := by decide +kernel
theorem dX11_treaty_240 : decode cX11_treaty 240 = .ok (.getfield 81, 3) := by decide +kernel
theorem dX11_treaty_243 : decode cX11_treaty 243 = .ok (.iload_n 1, 1) := by decide +kernel
theorem dX11_treaty_244 : decode cX11_treaty 244 = .ok (.aload_n 0, 1) := by decide +kernel
theorem dX11_treaty_245 : decode cX11_treaty 245 = .ok (.getfield 66, 3) := by decide +kernel
theorem dX11_treaty_248 : decode cX11_treaty 248 = .ok (.iload_n 1, 1) := by decide +kernel
theorem dX11_treaty_249 : decode cX11_treaty 249 = .ok (.iaload, 1) := by decide +kernel
theorem dX11_treaty_250 : decode cX11_treaty 250 = .ok (.iastore, 1) := by decide +kernel
theorem dX11_treaty_251 : decode cX11_treaty 251 = .ok (.aload_n 0, 1) := by decide +kernel
theorem dX11_treaty_252 : decode cX11_treaty 252 = .ok (.getfield 84, 3) := by decide +kernel
theorem dX11_treaty_255 : decode cX11_treaty 255 = .ok (.iload_n 1, 1) := by decide +kernel
theorem dX11_treaty_256 : decode cX11_treaty 256 = .ok (.aload_n 0, 1) := by decide +kernel
theorem dX11_treaty_257 : decode cX11_treaty 257 = .ok (.getfield 69, 3) := by decide +kernel
theorem dX11_treaty_260 : decode cX11_treaty 260 = .ok (.iload_n 1, 1) := by decide +kernel
theorem dX11_treaty_261 : decode cX11_treaty 261 = .ok (.iaload, 1) := by decide +kernel
theorem dX11_treaty_262 : decode cX11_treaty 262 = .ok (.iastore, 1) := by decide +kernel
theorem dX11_treaty_263 : decode cX11_treaty 263 = .ok (.aload_n 0, 1) := by decide +kernel
theorem dX11_treaty_264 : decode cX11_treaty 264 = .ok (.getfield 87, 3) := by decide +kernel
theorem dX11_treaty_267 : decode cX11_treaty 267 = .ok (.iload_n 1, 1) := by decide +kernel
theorem dX11_treaty_268 : decode cX11_treaty 268 = .ok (.aload_n 0, 1) := by decide +kernel
theorem dX11_treaty_269 : decode cX11_treaty 269 = .ok (.getfield 72, 3) := by decide +kernel
theorem dX11_treaty_272 : decode cX11_treaty 272 = .ok (.iload_n 1, 1) := by decide +kernel
theorem dX11_treaty_273 : decode cX11_treaty 273 = .ok (.iaload, 1) := by decide +kernel
theorem dX11_treaty_274 : decode cX11_treaty 274 = .ok (.iastore, 1) := by decide +kernel
theorem dX11_treaty_275 : decode cX11_treaty 275 = .ok (.iinc 1 1, 3) := by decide +kernel
theorem dX11_treaty_278 : decode cX11_treaty 278 = .ok (.goto (-71), 3) := by decide +kernel
theorem dX11_treaty_281 : decode cX11_treaty 281 = .ok (.iconst 0, 1) := by decide +kernel
theorem dX11_treaty_282 : decode cX11_treaty 282 = .ok (.istore_n 1, 1) := by decide +kernel
theorem dX11_treaty_283 : decode cX11_treaty 283 = .ok (.iload_n 1, 1) := by decide +kernel
theorem dX11_treaty_284 : decode cX11_treaty 284 = .ok (.bipush 18, 2) := by decide +kernel
theorem dX11_treaty_286 : decode cX11_treaty 286 = .ok (.if_icmp .ge 16, 3) := by decide +kernel
theorem dX11_treaty_289 : decode cX11_treaty 289 = .ok (.aload_n 0, 1) := by decide +kernel
theorem dX11_treaty_290 : decode cX11_treaty 290 = .ok (.getfield 100, 3) := by decide +kernel
theorem dX11_treaty_293 : decode cX11_treaty 293 = .ok (.iload_n 1, 1) := by decide +kernel
theorem dX11_treaty_294 : decode cX11_treaty 294 = .ok (.iconst 0, 1) := by decide +kernel
theorem dX11_treaty_295 : decode cX11_treaty 295 = .ok (.iastore, 1) := by decide +kernel
theorem dX11_treaty_296 : decode cX11_treaty 296 = .ok (.iinc 1 1, 3) := by decide +kernel
theorem dX11_treaty_299 : decode cX11_treaty 299 = .ok (.goto (-16), 3) := by decide +kernel
theorem dX11_treaty_302 : decode cX11_treaty 302 = .ok (.aload_n 0, 1) := by decide +kernel
theorem dX11_treaty_303 : decode cX11_treaty 303 = .ok (.getfield 100, 3) := by decide +kernel
theorem dX11_treaty_306 : decode cX11_treaty 306 = .ok (.iconst 0, 1) := by decide +kernel
theorem dX11_treaty_307 : decode cX11_treaty 307 = .ok (.aload_n 0, 1) := by decide +kernel
theorem dX11_treaty_308 : decode cX11_treaty 308 = .ok (.getfield 392, 3) := by decide +kernel
theorem dX11_treaty_311 : decode cX11_treaty 311 = .ok (.ifCond .ne 7, 3) := by decide +kernel
theorem dX11_treaty_314 : decode cX11_treaty 314 = .ok (.iconst (-1), 1) := by decide +kernel
theorem dX11_treaty_315 : decode cX11_treaty 315 = .ok (.goto 4, 3) := by decide +kernel
theorem dX11_treaty_318 : decode cX11_treaty 318 = .ok (.iconst 0, 1) := by decide +kernel
theorem dX11_treaty_319 : decode cX11_treaty 319 = .ok (.iastore, 1) := by decide +kernel
theorem dX11_treaty_320 : decode cX11_treaty 320 = .ok (.aload_n 0, 1) := by decide +kernel
theorem dX11_treaty_321 : decode cX11_treaty 321 = .ok (.getfield 100, 3) := by decide +kernel
theorem dX11_treaty_324 : decode cX11_treaty 324 = .ok (.iconst 1, 1) := by decide +kernel
theorem dX11_treaty_325 : decode cX11_treaty 325 = .ok (.aload_n 0, 1) := by decide +kernel
theorem dX11_treaty_326 : decode cX11_treaty 326 = .ok (.getfield 395, 3) := by decide +kernel
theorem dX11_treaty_329 : decode cX11_treaty 329 = .ok (.ifCond .ne 7, 3) := by decide +kernel
theorem dX11_treaty_332 : decode cX11_treaty 332 = .ok (.iconst (-1), 1) := by decide +kernel
theorem dX11_treaty_333 : decode cX11_treaty 333 = .ok (.goto 4, 3) := by decide +kernel
theorem dX11_treaty_336 : decode cX11_treaty 336 = .ok (.iconst 0, 1) := by decide +kernel
theorem dX11_treaty_337 : decode cX11_treaty 337 = .ok (.iastore, 1) := by decide +kernel
theorem dX11_treaty_338 : decode cX11_treaty 338 = .ok (.aload_n 0, 1) := by decide +kernel
theorem dX11_treaty_339 : decode cX11_treaty 339 = .ok (.getfield 100, 3) := by decide +kernel
theorem dX11_treaty_342 : decode cX11_treaty 342 = .ok (.bipush 17, 2) := by decide +kernel
theorem dX11_treaty_344 : decode cX11_treaty 344 = .ok (.aload_n 0, 1) := by decide +kernel
theorem dX11_treaty_345 : decode cX11_treaty 345 = .ok (.getfield 383, 3) := by decide +kernel
theorem dX11_treaty_348 : decode cX11_treaty 348 = .ok (.iastore, 1) := by decide +kernel
theorem dX11_treaty_349 : decode cX11_treaty 349 = .ok (.aload_n 0, 1) := by decide +kernel
theorem dX11_treaty_350 : decode cX11_treaty 350 = .ok (.iconst 0, 1) := by decide +kernel
theorem dX11_treaty_351 : decode cX11_treaty 351 = .ok (.putfield 404, 3) := by decide +kernel
theorem dX11_treaty_354 : decode cX11_treaty 354 = .ok (.aload_n 0, 1) := by decide +kernel
theorem dX11_treaty_355 : decode cX11_treaty 355 = .ok (.iconst 0, 1) := by decide +kernel
theorem dX11_treaty_356 : decode cX11_treaty 356 = .ok (.putfield 407, 3) := by decide +kernel
theorem dX11_treaty_359 : decode cX11_treaty 359 = .ok (.aload_n 0, 1) := by decide +kernel
theorem dX11_treaty_360 : decode cX11_treaty 360 = .ok (.iconst 0, 1) := by decide +kernel
theorem dX11_treaty_361 : decode cX11_treaty 361 = .ok (.putfield 410, 3) := by decide +kernel
theorem dX11_treaty_364 : decode cX11_treaty 364 = .ok (.aload_n 0, 1) := by decide +kernel
theorem dX11_treaty_365 : decode cX11_treaty 365 = .ok (.iconst 0, 1) := by decide +kernel
theorem dX11_treaty_366 : decode cX11_treaty 366 = .ok (.putfield 413, 3) := by decide +kernel
theorem dX11_treaty_369 : decode cX11_treaty 369 = .ok (.iconst 0, 1) := by decide +kernel
theorem dX11_treaty_370 : decode cX11_treaty 370 = .ok (.istore_n 1, 1) := by decide +kernel
theorem dX11_treaty_371 : decode cX11_treaty 371 = .ok (.iload_n 1, 1) := by decide +kernel
theorem dX11_treaty_372 : decode cX11_treaty 372 = .ok (.iconst 3, 1) := by decide +kernel
theorem dX11_treaty_373 : decode cX11_treaty 373 = .ok (.if_icmp .ge 16, 3) := by decide +kernel
theorem dX11_treaty_376 : decode cX11_treaty 376 = .ok (.aload_n 0, 1) := by decide +kernel
theorem dX11_treaty_377 : decode cX11_treaty 377 = .ok (.getfield 151, 3) := by decide +kernel
theorem dX11_treaty_380 : decode cX11_treaty 380 = .ok (.iload_n 1, 1) := by decide +kernel
theorem dX11_treaty_381 : decode cX11_treaty 381 = .ok (.iconst 0, 1) := by decide +kernel
theorem dX11_treaty_382 : decode cX11_treaty 382 = .ok (.bastore, 1) := by decide +kernel
theorem dX11_treaty_383 : decode cX11_treaty 383 = .ok (.iinc 1 1, 3) := by decide +kernel
theorem dX11_treaty_386 : decode cX11_treaty 386 = .ok (.goto (-15), 3) := by decide +kernel
theorem dX11_treaty_389 : decode cX11_treaty 389 = .ok (.aload_n 0, 1) := by decide +kernel
theorem dX11_treaty_390 : decode cX11_treaty 390 = .ok (.getfield 392, 3) := by decide +kernel
theorem dX11_treaty_393 : decode cX11_treaty 393 = .ok (.ireturn, 1) := by decide +kernel
theorem dX11_fault_0 : decode cX11_fault 0 = .ok (.iload_n 1, 1) := by decide +kernel
theorem dX11_fault_1 : decode cX11_fault 1 = .ok (.ifCond .ne 10, 3) := by decide +kernel
theorem dX11_fault_4 : decode cX11_fault 4 = .ok (.aload_n 0, 1) := by decide +kernel
theorem dX11_fault_5 : decode cX11_fault 5 = .ok (.getfield 197, 3) := by decide +kernel
theorem dX11_fault_8 : decode cX11_fault 8 = .ok (.goto 16, 3) := by decide +kernel
theorem dX11_fault_11 : decode cX11_fault 11 = .ok (.iload_n 1, 1) := by decide +kernel
theorem dX11_fault_12 : decode cX11_fault 12 = .ok (.iconst 1, 1) := by decide +kernel
theorem dX11_fault_13 : decode cX11_fault 13 = .ok (.if_icmp .ne 10, 3) := by decide +kernel
theorem dX11_fault_16 : decode cX11_fault 16 = .ok (.aload_n 0, 1) := by decide +kernel
theorem dX11_fault_17 : decode cX11_fault 17 = .ok (.getfield 13, 3) := by decide +kernel
theorem dX11_fault_20 : decode cX11_fault 20 = .ok (.goto 4, 3) := by decide +kernel
theorem dX11_fault_23 : decode cX11_fault 23 = .ok (.iconst (-1), 1) := by decide +kernel
theorem dX11_fault_24 : decode cX11_fault 24 = .ok (.ireturn, 1) := by decide +kernel
theorem dX11_isIn_0 : decode cX11_isIn 0 = .ok (.iload_n 0, 1) := by decide +kernel
theorem dX11_isIn_1 : decode cX11_isIn 1 = .ok (.iload_n 1, 1) := by decide +kernel
theorem dX11_isIn_2 : decode cX11_isIn 2 = .ok (.if_icmp .lt 12, 3) := by decide +kernel
theorem dX11_isIn_5 : decode cX11_isIn 5 = .ok (.iload_n 0, 1) := by decide +kernel
theorem dX11_isIn_6 : decode cX11_isIn 6 = .ok (.iload_n 2, 1) := by decide +kernel
theorem dX11_isIn_7 : decode cX11_isIn 7 = .ok (.if_icmp .gt 7, 3) := by decide +kernel
theorem dX11_isIn_10 : decode cX11_isIn 10 = .ok (.iconst 1, 1) := by decide +kernel
theorem dX11_isIn_11 : decode cX11_isIn 11 = .ok (.goto 4, 3) := by decide +kernel
theorem dX11_isIn_14 : decode cX11_isIn 14 = .ok (.iconst 0, 1) := by decide +kernel
theorem dX11_isIn_15 : decode cX11_isIn 15 = .ok (.ireturn, 1) := by decide +kernel
theorem dX11_isTribe_0 : decode cX11_isTribe 0 = .ok (.iload_n 1, 1) := by decide +kernel
theorem dX11_isTribe_1 : decode cX11_isTribe 1 = .ok (.iconst 0, 1) := by decide +kernel
theorem dX11_isTribe_2 : decode cX11_isTribe 2 = .ok (.aload_n 0, 1) := by decide +kernel
theorem dX11_isTribe_3 : decode cX11_isTribe 3 = .ok (.getfield 395, 3) := by decide +kernel
theorem dX11_isTribe_6 : decode cX11_isTribe 6 = .ok (.iconst 1, 1) := by decide +kernel
theorem dX11_isTribe_7 : decode cX11_isTribe 7 = .ok (.isub, 1) := by decide +kernel
theorem dX11_isTribe_8 : decode cX11_isTribe 8 = .ok (.invokestatic 416, 3) := by decide +kernel
theorem dX11_isTribe_11 : decode cX11_isTribe 11 = .ok (.ireturn, 1) := by decide +kernel
theorem dX11_isFigure_0 : decode cX11_isFigure 0 = .ok (.iload_n 1, 1) := by decide +kernel
theorem dX11_isFigure_1 : decode cX11_isFigure 1 = .ok (.iconst 0, 1) := by decide +kernel
theorem dX11_isFigure_2 : decode cX11_isFigure 2 = .ok (.aload_n 0, 1) := by decide +kernel
theorem dX11_isFigure_3 : decode cX11_isFigure 3 = .ok (.getfield 392, 3) := by decide +kernel
theorem dX11_isFigure_6 : decode cX11_isFigure 6 = .ok (.iconst 1, 1) := by decide +kernel
theorem dX11_isFigure_7 : decode cX11_isFigure 7 = .ok (.isub, 1) := by decide +kernel
theorem dX11_isFigure_8 : decode cX11_isFigure 8 = .ok (.invokestatic 416, 3) := by decide +kernel
theorem dX11_isFigure_11 : decode cX11_isFigure 11 = .ok (.ireturn, 1) := by decide +kernel
theorem dX11_isMove_0 : decode cX11_isMove 0 = .ok (.iload_n 1, 1) := by decide +kernel
theorem dX11_isMove_1 : decode cX11_isMove 1 = .ok (.iconst 0, 1) := by decide +kernel
theorem dX11_isMove_2 : decode cX11_isMove 2 = .ok (.aload_n 0, 1) := by decide +kernel
theorem dX11_isMove_3 : decode cX11_isMove 3 = .ok (.getfield 398, 3) := by decide +kernel
theorem dX11_isMove_6 : decode cX11_isMove 6 = .ok (.iconst 1, 1) := by decide +kernel
theorem dX11_isMove_7 : decode cX11_isMove 7 = .ok (.isub, 1) := by decide +kernel
theorem dX11_isMove_8 : decode cX11_isMove 8 = .ok (.invokestatic 416, 3) := by decide +kernel
theorem dX11_isMove_11 : decode cX11_isMove 11 = .ok (.ireturn, 1) := by decide +kernel
theorem dX11_load_0 : decode cX11_load 0 = .ok (.iconst 0, 1) := by decide +kernel
theorem dX11_load_1 : decode cX11_load 1 = .ok (.istore_n 1, 1) := by decide +kernel
theorem dX11_load_2 : decode cX11_load 2 = .ok (.iload_n 1, 1) := by decide +kernel
theorem dX11_load_3 : decode cX11_load 3 = .ok (.bipush 18, 2) := by decide +kernel
theorem dX11_load_5 : decode cX11_load 5 = .ok (.if_icmp .ge 21, 3) := by decide +kernel
theorem dX11_load_8 : decode cX11_load 8 = .ok (.aload_n 0, 1) := by decide +kernel
theorem dX11_load_9 : decode cX11_load 9 = .ok (.getfield 103, 3) := by decide +kernel
theorem dX11_load_12 : decode cX11_load 12 = .ok (.iload_n 1, 1) := by decide +kernel
theorem dX11_load_13 : decode cX11_load 13 = .ok (.aload_n 0, 1) := by decide +kernel
theorem dX11_load_14 : decode cX11_load 14 = .ok (.getfield 100, 3) := by decide +kernel
theorem dX11_load_17 : decode cX11_load 17 = .ok (.iload_n 1, 1) := by decide +kernel
theorem dX11_load_18 : decode cX11_load 18 = .ok (.iaload, 1) := by decide +kernel
theorem dX11_load_19 : decode cX11_load 19 = .ok (.iastore, 1) := by decide +kernel
theorem dX11_load_20 : decode cX11_load 20 = .ok (.iinc 1 1, 3) := by decide +kernel
theorem dX11_load_23 : decode cX11_load 23 = .ok (.goto (-21), 3) := by decide +kernel
theorem dX11_load_26 : decode cX11_load 26 = .ok (.return_, 1) := by decide +kernel
theorem dX11_canBy_0 : decode cX11_canBy 0 = .ok (.aload_n 0, 1) := by decide +kernel
theorem dX11_canBy_1 : decode cX11_canBy 1 = .ok (.getfield 51, 3) := by decide +kernel
theorem dX11_canBy_4 : decode cX11_canBy 4 = .ok (.iload_n 1, 1) := by decide +kernel
theorem dX11_canBy_5 : decode cX11_canBy 5 = .ok (.iaload, 1) := by decide +kernel
theorem dX11_canBy_6 : decode cX11_canBy 6 = .ok (.iload_n 3, 1) := by decide +kernel
theorem dX11_canBy_7 : decode cX11_canBy 7 = .ok (.ifCond .eq 15, 3) := by decide +kernel
theorem dX11_canBy_10 : decode cX11_canBy 10 = .ok (.bipush 9, 2) := by decide +kernel
theorem dX11_canBy_12 : decode cX11_canBy 12 = .ok (.aload_n 0, 1) := by decide +kernel
theorem dX11_canBy_13 : decode cX11_canBy 13 = .ok (.getfield 81, 3) := by decide +kernel
theorem dX11_canBy_16 : decode cX11_canBy 16 = .ok (.iload_n 2, 1) := by decide +kernel
theorem dX11_canBy_17 : decode cX11_canBy 17 = .ok (.iaload, 1) := by decide +kernel
theorem dX11_canBy_18 : decode cX11_canBy 18 = .ok (.isub, 1) := by decide +kernel
theorem dX11_canBy_19 : decode cX11_canBy 19 = .ok (.goto 9, 3) := by decide +kernel
theorem dX11_canBy_22 : decode cX11_canBy 22 = .ok (.aload_n 0, 1) := by decide +kernel
theorem dX11_canBy_23 : decode cX11_canBy 23 = .ok (.getfield 81, 3) := by decide +kernel
theorem dX11_canBy_26 : decode cX11_canBy 26 = .ok (.iload_n 2, 1) := by decide +kernel
theorem dX11_canBy_27 : decode cX11_canBy 27 = .ok (.iaload, 1) := by decide +kernel
theorem dX11_canBy_28 : decode cX11_canBy 28 = .ok (.ishr, 1) := by decide +kernel
theorem dX11_canBy_29 : decode cX11_canBy 29 = .ok (.iconst 1, 1) := by decide +kernel
theorem dX11_canBy_30 : decode cX11_canBy 30 = .ok (.iand, 1) := by decide +kernel
theorem dX11_canBy_31 : decode cX11_canBy 31 = .ok (.ifCond .ne 7, 3) := by decide +kernel
theorem dX11_canBy_34 : decode cX11_canBy 34 = .ok (.iconst 1, 1) := by decide +kernel
theorem dX11_canBy_35 : decode cX11_canBy 35 = .ok (.goto 4, 3) := by decide +kernel
theorem dX11_canBy_38 : decode cX11_canBy 38 = .ok (.iconst 0, 1) := by decide +kernel
theorem dX11_canBy_39 : decode cX11_canBy 39 = .ok (.ireturn, 1) := by decide +kernel
theorem dX11_can_0 : decode cX11_can 0 = .ok (.aload_n 0, 1) := by decide +kernel
theorem dX11_can_1 : decode cX11_can 1 = .ok (.iload_n 1, 1) := by decide +kernel
theorem dX11_can_2 : decode cX11_can 2 = .ok (.iload_n 2, 1) := by decide +kernel
theorem dX11_can_3 : decode cX11_can 3 = .ok (.aload_n 0, 1) := by decide +kernel
theorem dX11_can_4 : decode cX11_can 4 = .ok (.getfield 94, 3) := by decide +kernel
theorem dX11_can_7 : decode cX11_can 7 = .ok (.iload_n 1, 1) := by decide +kernel
theorem dX11_can_8 : decode cX11_can 8 = .ok (.baload, 1) := by decide +kernel
theorem dX11_can_9 : decode cX11_can 9 = .ok (.invokevirtual 420, 3) := by decide +kernel
theorem dX11_can_12 : decode cX11_can 12 = .ok (.ireturn, 1) := by decide +kernel
theorem dX11_slipOf_0 : decode cX11_slipOf 0 = .ok (.aload_n 0, 1) := by decide +kernel
theorem dX11_slipOf_1 : decode cX11_slipOf 1 = .ok (.getfield 39, 3) := by decide +kernel
theorem dX11_slipOf_4 : decode cX11_slipOf 4 = .ok (.iconst 0, 1) := by decide +kernel
theorem dX11_slipOf_5 : decode cX11_slipOf 5 = .ok (.aload_n 0, 1) := by decide +kernel
theorem dX11_slipOf_6 : decode cX11_slipOf 6 = .ok (.getfield 84, 3) := by decide +kernel
theorem dX11_slipOf_9 : decode cX11_slipOf 9 = .ok (.iload_n 2, 1) := by decide +kernel
theorem dX11_slipOf_10 : decode cX11_slipOf 10 = .ok (.iaload, 1) := by decide +kernel
theorem dX11_slipOf_11 : decode cX11_slipOf 11 = .ok (.iastore, 1) := by decide +kernel
theorem dX11_slipOf_12 : decode cX11_slipOf 12 = .ok (.aload_n 0, 1) := by decide +kernel
theorem dX11_slipOf_13 : decode cX11_slipOf 13 = .ok (.getfield 39, 3) := by decide +kernel
theorem dX11_slipOf_16 : decode cX11_slipOf 16 = .ok (.iconst 1, 1) := by decide +kernel
theorem dX11_slipOf_17 : decode cX11_slipOf 17 = .ok (.aload_n 0, 1) := by decide +kernel
theorem dX11_slipOf_18 : decode cX11_slipOf 18 = .ok (.getfield 48, 3) := by decide +kernel
theorem dX11_slipOf_21 : decode cX11_slipOf 21 = .ok (.iload_n 1, 1) := by decide +kernel
theorem dX11_slipOf_22 : decode cX11_slipOf 22 = .ok (.iaload, 1) := by decide +kernel
theorem dX11_slipOf_23 : decode cX11_slipOf 23 = .ok (.iastore, 1) := by decide +kernel
theorem dX11_slipOf_24 : decode cX11_slipOf 24 = .ok (.aload_n 0, 1) := by decide +kernel
theorem dX11_slipOf_25 : decode cX11_slipOf 25 = .ok (.getfield 39, 3) := by decide +kernel
theorem dX11_slipOf_28 : decode cX11_slipOf 28 = .ok (.iconst 2, 1) := by decide +kernel
theorem dX11_slipOf_29 : decode cX11_slipOf 29 = .ok (.aload_n 0, 1) := by decide +kernel
theorem dX11_slipOf_30 : decode cX11_slipOf 30 = .ok (.getfield 100, 3) := by decide +kernel
theorem dX11_slipOf_33 : decode cX11_slipOf 33 = .ok (.iconst 2, 1) := by decide +kernel
theorem dX11_slipOf_34 : decode cX11_slipOf 34 = .ok (.iaload, 1) := by decide +kernel
theorem dX11_slipOf_35 : decode cX11_slipOf 35 = .ok (.iastore, 1) := by decide +kernel
theorem dX11_slipOf_36 : decode cX11_slipOf 36 = .ok (.aload_n 0, 1) := by decide +kernel
theorem dX11_slipOf_37 : decode cX11_slipOf 37 = .ok (.getfield 39, 3) := by decide +kernel
theorem dX11_slipOf_40 : decode cX11_slipOf 40 = .ok (.iconst 3, 1) := by decide +kernel
theorem dX11_slipOf_41 : decode cX11_slipOf 41 = .ok (.aload_n 0, 1) := by decide +kernel
theorem dX11_slipOf_42 : decode cX11_slipOf 42 = .ok (.getfield 100, 3) := by decide +kernel
theorem dX11_slipOf_45 : decode cX11_slipOf 45 = .ok (.iconst 3, 1) := by decide +kernel
theorem dX11_slipOf_46 : decode cX11_slipOf 46 = .ok (.iaload, 1) := by decide +kernel
theorem dX11_slipOf_47 : decode cX11_slipOf 47 = .ok (.iastore, 1) := by decide +kernel
theorem dX11_slipOf_48 : decode cX11_slipOf 48 = .ok (.aload_n 0, 1) := by decide +kernel
theorem dX11_slipOf_49 : decode cX11_slipOf 49 = .ok (.getfield 39, 3) := by decide +kernel
theorem dX11_slipOf_52 : decode cX11_slipOf 52 = .ok (.iconst 4, 1) := by decide +kernel
theorem dX11_slipOf_53 : decode cX11_slipOf 53 = .ok (.aload_n 0, 1) := by decide +kernel
theorem dX11_slipOf_54 : decode cX11_slipOf 54 = .ok (.getfield 100, 3) := by decide +kernel
theorem dX11_slipOf_57 : decode cX11_slipOf 57 = .ok (.bipush 16, 2) := by decide +kernel
theorem dX11_slipOf_59 : decode cX11_slipOf 59 = .ok (.iaload, 1) := by decide +kernel
theorem dX11_slipOf_60 : decode cX11_slipOf 60 = .ok (.iastore, 1) := by decide +kernel
theorem dX11_slipOf_61 : decode cX11_slipOf 61 = .ok (.aload_n 0, 1) := by decide +kernel
theorem dX11_slipOf_62 : decode cX11_slipOf 62 = .ok (.bipush 10, 2) := by decide +kernel
theorem dX11_slipOf_64 : decode cX11_slipOf 64 = .ok (.aload_n 0, 1) := by decide +kernel
theorem dX11_slipOf_65 : decode cX11_slipOf 65 = .ok (.getfield 84, 3) := by decide +kernel
theorem dX11_slipOf_68 : decode cX11_slipOf 68 = .ok (.iload_n 2, 1) := by decide +kernel
theorem dX11_slipOf_69 : decode cX11_slipOf 69 = .ok (.iaload, 1) := by decide +kernel
theorem dX11_slipOf_70 : decode cX11_slipOf 70 = .ok (.imul, 1) := by decide +kernel
theorem dX11_slipOf_71 : decode cX11_slipOf 71 = .ok (.iconst 5, 1) := by decide +kernel
theorem dX11_slipOf_72 : decode cX11_slipOf 72 = .ok (.aload_n 0, 1) := by decide +kernel
theorem dX11_slipOf_73 : decode cX11_slipOf 73 = .ok (.getfield 48, 3) := by decide +kernel
theorem dX11_slipOf_76 : decode cX11_slipOf 76 = .ok (.iload_n 1, 1) := by decide +kernel
theorem dX11_slipOf_77 : decode cX11_slipOf 77 = .ok (.iaload, 1) := by decide +kernel
theorem dX11_slipOf_78 : decode cX11_slipOf 78 = .ok (.imul, 1) := by decide +kernel
theorem dX11_slipOf_79 : decode cX11_slipOf 79 = .ok (.isub, 1) := by decide +kernel
theorem dX11_slipOf_80 : decode cX11_slipOf 80 = .ok (.invokevirtual 424, 3) := by decide +kernel
theorem dX11_slipOf_83 : decode cX11_slipOf 83 = .ok (.ireturn, 1) := by decide +kernel
theorem dX11_worthOf_0 : decode cX11_worthOf 0 = .ok (.iload_n 2, 1) := by decide +kernel
theorem dX11_worthOf_1 : decode cX11_worthOf 1 = .ok (.ifCond .ge 7, 3) := by decide +kernel
theorem dX11_worthOf_4 : decode cX11_worthOf 4 = .ok (.iconst 0, 1) := by decide +kernel
theorem dX11_worthOf_5 : decode cX11_worthOf 5 = .ok (.goto 14, 3) := by decide +kernel
theorem dX11_worthOf_8 : decode cX11_worthOf 8 = .ok (.aload_n 0, 1) := by decide +kernel
theorem dX11_worthOf_9 : decode cX11_worthOf 9 = .ok (.getfield 57, 3) := by decide +kernel
theorem dX11_worthOf_12 : decode cX11_worthOf 12 = .ok (.bipush 8, 2) := by decide +kernel
theorem dX11_worthOf_14 : decode cX11_worthOf 14 = .ok (.iload_n 1, 1) := by decide +kernel
theorem dX11_worthOf_15 : decode cX11_worthOf 15 = .ok (.imul, 1) := by decide +kernel
theorem dX11_worthOf_16 : decode cX11_worthOf 16 = .ok (.iload_n 2, 1) := by decide +kernel
theorem dX11_worthOf_17 : decode cX11_worthOf 17 = .ok (.iadd, 1) := by decide +kernel
theorem dX11_worthOf_18 : decode cX11_worthOf 18 = .ok (.iaload, 1) := by decide +kernel
theorem dX11_worthOf_19 : decode cX11_worthOf 19 = .ok (.ireturn, 1) := by decide +kernel
theorem dX11_movesOf_0 : decode cX11_movesOf 0 = .ok (.iconst 0, 1) := by decide +kernel
theorem dX11_movesOf_1 : decode cX11_movesOf 1 = .ok (.istore_n 3, 1) := by decide +kernel
theorem dX11_movesOf_2 : decode cX11_movesOf 2 = .ok (.iconst 0, 1) := by decide +kernel
theorem dX11_movesOf_3 : decode cX11_movesOf 3 = .ok (.istore 4, 2) := by decide +kernel
theorem dX11_movesOf_5 : decode cX11_movesOf 5 = .ok (.iload 4, 2) := by decide +kernel
