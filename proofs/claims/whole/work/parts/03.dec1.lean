theorem dX4_readSum_73 : decode cX4_readSum 73 = .ok (.invokevirtual 170, 3) := by decide +kernel
theorem dX4_readSum_76 : decode cX4_readSum 76 = .ok (.iinc 1 1, 3) := by decide +kernel
theorem dX4_readSum_79 : decode cX4_readSum 79 = .ok (.goto (-68), 3) := by decide +kernel
theorem dX4_readSum_82 : decode cX4_readSum 82 = .ok (.iconst 1, 1) := by decide +kernel
theorem dX4_readSum_83 : decode cX4_readSum 83 = .ok (.ireturn, 1) := by decide +kernel
theorem dX4_readTerm_0 : decode cX4_readTerm 0 = .ok (.aload_n 0, 1) := by decide +kernel
theorem dX4_readTerm_1 : decode cX4_readTerm 1 = .ok (.invokevirtual 186, 3) := by decide +kernel
theorem dX4_readTerm_4 : decode cX4_readTerm 4 = .ok (.ifCond .ne 5, 3) := by decide +kernel
theorem dX4_readTerm_7 : decode cX4_readTerm 7 = .ok (.iconst 0, 1) := by decide +kernel
theorem dX4_readTerm_8 : decode cX4_readTerm 8 = .ok (.ireturn, 1) := by decide +kernel
theorem dX4_readTerm_9 : decode cX4_readTerm 9 = .ok (.iconst 0, 1) := by decide +kernel
theorem dX4_readTerm_10 : decode cX4_readTerm 10 = .ok (.istore_n 1, 1) := by decide +kernel
theorem dX4_readTerm_11 : decode cX4_readTerm 11 = .ok (.iload_n 1, 1) := by decide +kernel
theorem dX4_readTerm_12 : decode cX4_readTerm 12 = .ok (.bipush 30, 2) := by decide +kernel
theorem dX4_readTerm_14 : decode cX4_readTerm 14 = .ok (.if_icmp .ge 57, 3) := by decide +kernel
theorem dX4_readTerm_17 : decode cX4_readTerm 17 = .ok (.aload_n 0, 1) := by decide +kernel
theorem dX4_readTerm_18 : decode cX4_readTerm 18 = .ok (.getfield 40, 3) := by decide +kernel
theorem dX4_readTerm_21 : decode cX4_readTerm 21 = .ok (.getfield 53, 3) := by decide +kernel
theorem dX4_readTerm_24 : decode cX4_readTerm 24 = .ok (.invokestatic 189, 3) := by decide +kernel
theorem dX4_readTerm_27 : decode cX4_readTerm 27 = .ok (.ifCond .eq 44, 3) := by decide +kernel
theorem dX4_readTerm_30 : decode cX4_readTerm 30 = .ok (.aload_n 0, 1) := by decide +kernel
theorem dX4_readTerm_31 : decode cX4_readTerm 31 = .ok (.getfield 40, 3) := by decide +kernel
theorem dX4_readTerm_34 : decode cX4_readTerm 34 = .ok (.getfield 53, 3) := by decide +kernel
theorem dX4_readTerm_37 : decode cX4_readTerm 37 = .ok (.istore_n 2, 1) := by decide +kernel
theorem dX4_readTerm_38 : decode cX4_readTerm 38 = .ok (.aload_n 0, 1) := by decide +kernel
theorem dX4_readTerm_39 : decode cX4_readTerm 39 = .ok (.getfield 40, 3) := by decide +kernel
theorem dX4_readTerm_42 : decode cX4_readTerm 42 = .ok (.invokevirtual 83, 3) := by decide +kernel
theorem dX4_readTerm_45 : decode cX4_readTerm 45 = .ok (.aload_n 0, 1) := by decide +kernel
theorem dX4_readTerm_46 : decode cX4_readTerm 46 = .ok (.invokevirtual 186, 3) := by decide +kernel
theorem dX4_readTerm_49 : decode cX4_readTerm 49 = .ok (.ifCond .ne 5, 3) := by decide +kernel
theorem dX4_readTerm_52 : decode cX4_readTerm 52 = .ok (.iconst 0, 1) := by decide +kernel
theorem dX4_readTerm_53 : decode cX4_readTerm 53 = .ok (.ireturn, 1) := by decide +kernel
theorem dX4_readTerm_54 : decode cX4_readTerm 54 = .ok (.aload_n 0, 1) := by decide +kernel
theorem dX4_readTerm_55 : decode cX4_readTerm 55 = .ok (.getfield 12, 3) := by decide +kernel
theorem dX4_readTerm_58 : decode cX4_readTerm 58 = .ok (.getfield 155, 3) := by decide +kernel
theorem dX4_readTerm_61 : decode cX4_readTerm 61 = .ok (.iload_n 2, 1) := by decide +kernel
theorem dX4_readTerm_62 : decode cX4_readTerm 62 = .ok (.invokevirtual 170, 3) := by decide +kernel
theorem dX4_readTerm_65 : decode cX4_readTerm 65 = .ok (.iinc 1 1, 3) := by decide +kernel
theorem dX4_readTerm_68 : decode cX4_readTerm 68 = .ok (.goto (-57), 3) := by decide +kernel
theorem dX4_readTerm_71 : decode cX4_readTerm 71 = .ok (.iconst 1, 1) := by decide +kernel
theorem dX4_readTerm_72 : decode cX4_readTerm 72 = .ok (.ireturn, 1) := by decide +kernel
theorem dX4_isTimes_0 : decode cX4_isTimes 0 = .ok (.iload_n 0, 1) := by decide +kernel
theorem dX4_isTimes_1 : decode cX4_isTimes 1 = .ok (.bipush 42, 2) := by decide +kernel
theorem dX4_isTimes_3 : decode cX4_isTimes 3 = .ok (.if_icmp .eq 15, 3) := by decide +kernel
theorem dX4_isTimes_6 : decode cX4_isTimes 6 = .ok (.iload_n 0, 1) := by decide +kernel
theorem dX4_isTimes_7 : decode cX4_isTimes 7 = .ok (.bipush 47, 2) := by decide +kernel
theorem dX4_isTimes_9 : decode cX4_isTimes 9 = .ok (.if_icmp .eq 9, 3) := by decide +kernel
theorem dX4_isTimes_12 : decode cX4_isTimes 12 = .ok (.iload_n 0, 1) := by decide +kernel
theorem dX4_isTimes_13 : decode cX4_isTimes 13 = .ok (.bipush 37, 2) := by decide +kernel
theorem dX4_isTimes_15 : decode cX4_isTimes 15 = .ok (.if_icmp .ne 7, 3) := by decide +kernel
theorem dX4_isTimes_18 : decode cX4_isTimes 18 = .ok (.iconst 1, 1) := by decide +kernel
theorem dX4_isTimes_19 : decode cX4_isTimes 19 = .ok (.goto 4, 3) := by decide +kernel
theorem dX4_isTimes_22 : decode cX4_isTimes 22 = .ok (.iconst 0, 1) := by decide +kernel
theorem dX4_isTimes_23 : decode cX4_isTimes 23 = .ok (.ireturn, 1) := by decide +kernel
theorem dX4_readUnit_0 : decode cX4_readUnit 0 = .ok (.aload_n 0, 1) := by decide +kernel
theorem dX4_readUnit_1 : decode cX4_readUnit 1 = .ok (.getfield 12, 3) := by decide +kernel
theorem dX4_readUnit_4 : decode cX4_readUnit 4 = .ok (.getfield 155, 3) := by decide +kernel
theorem dX4_readUnit_7 : decode cX4_readUnit 7 = .ok (.getfield 192, 3) := by decide +kernel
theorem dX4_readUnit_10 : decode cX4_readUnit 10 = .ok (.bipush 30, 2) := by decide +kernel
theorem dX4_readUnit_12 : decode cX4_readUnit 12 = .ok (.if_icmp .lt 9, 3) := by decide +kernel
theorem dX4_readUnit_15 : decode cX4_readUnit 15 = .ok (.aload_n 0, 1) := by decide +kernel
theorem dX4_readUnit_16 : decode cX4_readUnit 16 = .ok (.iconst 2, 1) := by decide +kernel
theorem dX4_readUnit_17 : decode cX4_readUnit 17 = .ok (.invokevirtual 79, 3) := by decide +kernel
theorem dX4_readUnit_20 : decode cX4_readUnit 20 = .ok (.ireturn, 1) := by decide +kernel
theorem dX4_readUnit_21 : decode cX4_readUnit 21 = .ok (.aload_n 0, 1) := by decide +kernel
theorem dX4_readUnit_22 : decode cX4_readUnit 22 = .ok (.getfield 40, 3) := by decide +kernel
theorem dX4_readUnit_25 : decode cX4_readUnit 25 = .ok (.getfield 53, 3) := by decide +kernel
theorem dX4_readUnit_28 : decode cX4_readUnit 28 = .ok (.lookupswitch 125 #[(2, 94), (7, 94), (16, 94), (17, 94), (18, 94), (20, 68), (40, 120)], 68) := by decide +kernel
theorem dX4_readUnit_96 : decode cX4_readUnit 96 = .ok (.aload_n 0, 1) := by decide +kernel
theorem dX4_readUnit_97 : decode cX4_readUnit 97 = .ok (.getfield 12, 3) := by decide +kernel
theorem dX4_readUnit_100 : decode cX4_readUnit 100 = .ok (.getfield 155, 3) := by decide +kernel
theorem dX4_readUnit_103 : decode cX4_readUnit 103 = .ok (.aload_n 0, 1) := by decide +kernel
theorem dX4_readUnit_104 : decode cX4_readUnit 104 = .ok (.getfield 40, 3) := by decide +kernel
theorem dX4_readUnit_107 : decode cX4_readUnit 107 = .ok (.getfield 86, 3) := by decide +kernel
theorem dX4_readUnit_110 : decode cX4_readUnit 110 = .ok (.invokevirtual 195, 3) := by decide +kernel
theorem dX4_readUnit_113 : decode cX4_readUnit 113 = .ok (.aload_n 0, 1) := by decide +kernel
theorem dX4_readUnit_114 : decode cX4_readUnit 114 = .ok (.getfield 40, 3) := by decide +kernel
theorem dX4_readUnit_117 : decode cX4_readUnit 117 = .ok (.invokevirtual 83, 3) := by decide +kernel
theorem dX4_readUnit_120 : decode cX4_readUnit 120 = .ok (.iconst 1, 1) := by decide +kernel
theorem dX4_readUnit_121 : decode cX4_readUnit 121 = .ok (.ireturn, 1) := by decide +kernel
theorem dX4_readUnit_122 : decode cX4_readUnit 122 = .ok (.aload_n 0, 1) := by decide +kernel
theorem dX4_readUnit_123 : decode cX4_readUnit 123 = .ok (.getfield 12, 3) := by decide +kernel
theorem dX4_readUnit_126 : decode cX4_readUnit 126 = .ok (.getfield 155, 3) := by decide +kernel
theorem dX4_readUnit_129 : decode cX4_readUnit 129 = .ok (.aload_n 0, 1) := by decide +kernel
theorem dX4_readUnit_130 : decode cX4_readUnit 130 = .ok (.getfield 40, 3) := by decide +kernel
theorem dX4_readUnit_133 : decode cX4_readUnit 133 = .ok (.getfield 53, 3) := by decide +kernel
theorem dX4_readUnit_136 : decode cX4_readUnit 136 = .ok (.invokevirtual 198, 3) := by decide +kernel
theorem dX4_readUnit_139 : decode cX4_readUnit 139 = .ok (.aload_n 0, 1) := by decide +kernel
theorem dX4_readUnit_140 : decode cX4_readUnit 140 = .ok (.getfield 40, 3) := by decide +kernel
theorem dX4_readUnit_143 : decode cX4_readUnit 143 = .ok (.invokevirtual 83, 3) := by decide +kernel
theorem dX4_readUnit_146 : decode cX4_readUnit 146 = .ok (.iconst 1, 1) := by decide +kernel
theorem dX4_readUnit_147 : decode cX4_readUnit 147 = .ok (.ireturn, 1) := by decide +kernel
theorem dX4_readUnit_148 : decode cX4_readUnit 148 = .ok (.aload_n 0, 1) := by decide +kernel
theorem dX4_readUnit_149 : decode cX4_readUnit 149 = .ok (.invokevirtual 201, 3) := by decide +kernel
theorem dX4_readUnit_152 : decode cX4_readUnit 152 = .ok (.ireturn, 1) := by decide +kernel
theorem dX4_readUnit_153 : decode cX4_readUnit 153 = .ok (.aload_n 0, 1) := by decide +kernel
theorem dX4_readUnit_154 : decode cX4_readUnit 154 = .ok (.iconst 2, 1) := by decide +kernel
theorem dX4_readUnit_155 : decode cX4_readUnit 155 = .ok (.invokevirtual 79, 3) := by decide +kernel
theorem dX4_readUnit_158 : decode cX4_readUnit 158 = .ok (.ireturn, 1) := by decide +kernel
theorem dX4_readBrackets_0 : decode cX4_readBrackets 0 = .ok (.aload_n 0, 1) := by decide +kernel
theorem dX4_readBrackets_1 : decode cX4_readBrackets 1 = .ok (.getfield 25, 3) := by decide +kernel
theorem dX4_readBrackets_4 : decode cX4_readBrackets 4 = .ok (.bipush 6, 2) := by decide +kernel
theorem dX4_readBrackets_6 : decode cX4_readBrackets 6 = .ok (.if_icmp .le 9, 3) := by decide +kernel
theorem dX4_readBrackets_9 : decode cX4_readBrackets 9 = .ok (.aload_n 0, 1) := by decide +kernel
theorem dX4_readBrackets_10 : decode cX4_readBrackets 10 = .ok (.iconst 2, 1) := by decide +kernel
theorem dX4_readBrackets_11 : decode cX4_readBrackets 11 = .ok (.invokevirtual 79, 3) := by decide +kernel
theorem dX4_readBrackets_14 : decode cX4_readBrackets 14 = .ok (.ireturn, 1) := by decide +kernel
theorem dX4_readBrackets_15 : decode cX4_readBrackets 15 = .ok (.aload_n 0, 1) := by decide +kernel
theorem dX4_readBrackets_16 : decode cX4_readBrackets 16 = .ok (.dup, 1) := by decide +kernel
theorem dX4_readBrackets_17 : decode cX4_readBrackets 17 = .ok (.getfield 25, 3) := by decide +kernel
theorem dX4_readBrackets_20 : decode cX4_readBrackets 20 = .ok (.iconst 1, 1) := by decide +kernel
theorem dX4_readBrackets_21 : decode cX4_readBrackets 21 = .ok (.iadd, 1) := by decide +kernel
theorem dX4_readBrackets_22 : decode cX4_readBrackets 22 = .ok (.putfield 25, 3) := by decide +kernel
theorem dX4_readBrackets_25 : decode cX4_readBrackets 25 = .ok (.aload_n 0, 1) := by decide +kernel
theorem dX4_readBrackets_26 : decode cX4_readBrackets 26 = .ok (.getfield 12, 3) := by decide +kernel
theorem dX4_readBrackets_29 : decode cX4_readBrackets 29 = .ok (.getfield 155, 3) := by decide +kernel
theorem dX4_readBrackets_32 : decode cX4_readBrackets 32 = .ok (.dup, 1) := by decide +kernel
theorem dX4_readBrackets_33 : decode cX4_readBrackets 33 = .ok (.getfield 192, 3) := by decide +kernel
theorem dX4_readBrackets_36 : decode cX4_readBrackets 36 = .ok (.iconst 1, 1) := by decide +kernel
theorem dX4_readBrackets_37 : decode cX4_readBrackets 37 = .ok (.iadd, 1) := by decide +kernel
theorem dX4_readBrackets_38 : decode cX4_readBrackets 38 = .ok (.putfield 192, 3) := by decide +kernel
theorem dX4_readBrackets_41 : decode cX4_readBrackets 41 = .ok (.aload_n 0, 1) := by decide +kernel
theorem dX4_readBrackets_42 : decode cX4_readBrackets 42 = .ok (.getfield 40, 3) := by decide +kernel
theorem dX4_readBrackets_45 : decode cX4_readBrackets 45 = .ok (.invokevirtual 83, 3) := by decide +kernel
theorem dX4_readBrackets_48 : decode cX4_readBrackets 48 = .ok (.aload_n 0, 1) := by decide +kernel
theorem dX4_readBrackets_49 : decode cX4_readBrackets 49 = .ok (.invokevirtual 164, 3) := by decide +kernel
theorem dX4_readBrackets_52 : decode cX4_readBrackets 52 = .ok (.ifCond .eq 12, 3) := by decide +kernel
theorem dX4_readBrackets_55 : decode cX4_readBrackets 55 = .ok (.aload_n 0, 1) := by decide +kernel
theorem dX4_readBrackets_56 : decode cX4_readBrackets 56 = .ok (.bipush 41, 2) := by decide +kernel
theorem dX4_readBrackets_58 : decode cX4_readBrackets 58 = .ok (.invokevirtual 111, 3) := by decide +kernel
theorem dX4_readBrackets_61 : decode cX4_readBrackets 61 = .ok (.ifCond .ne 5, 3) := by decide +kernel
theorem dX4_readBrackets_64 : decode cX4_readBrackets 64 = .ok (.iconst 0, 1) := by decide +kernel
theorem dX4_readBrackets_65 : decode cX4_readBrackets 65 = .ok (.ireturn, 1) := by decide +kernel
theorem dX4_readBrackets_66 : decode cX4_readBrackets 66 = .ok (.aload_n 0, 1) := by decide +kernel
theorem dX4_readBrackets_67 : decode cX4_readBrackets 67 = .ok (.dup, 1) := by decide +kernel
theorem dX4_readBrackets_68 : decode cX4_readBrackets 68 = .ok (.getfield 25, 3) := by decide +kernel
theorem dX4_readBrackets_71 : decode cX4_readBrackets 71 = .ok (.iconst 1, 1) := by decide +kernel
theorem dX4_readBrackets_72 : decode cX4_readBrackets 72 = .ok (.isub, 1) := by decide +kernel
theorem dX4_readBrackets_73 : decode cX4_readBrackets 73 = .ok (.putfield 25, 3) := by decide +kernel
theorem dX4_readBrackets_76 : decode cX4_readBrackets 76 = .ok (.iconst 1, 1) := by decide +kernel
theorem dX4_readBrackets_77 : decode cX4_readBrackets 77 = .ok (.ireturn, 1) := by decide +kernel
theorem dX5_init_0 : decode cX5_init 0 = .ok (.aload_n 0, 1) := by decide +kernel
theorem dX5_init_1 : decode cX5_init 1 = .ok (.invokespecial 3, 3) := by decide +kernel
theorem dX5_init_4 : decode cX5_init 4 = .ok (.aload_n 0, 1) := by decide +kernel
theorem dX5_init_5 : decode cX5_init 5 = .ok (.iconst 5, 1) := by decide +kernel
theorem dX5_init_6 : decode cX5_init 6 = .ok (.newarray .int, 2) := by decide +kernel
theorem dX5_init_8 : decode cX5_init 8 = .ok (.putfield 9, 3) := by decide +kernel
theorem dX5_init_11 : decode cX5_init 11 = .ok (.aload_n 0, 1) := by decide +kernel
theorem dX5_init_12 : decode cX5_init 12 = .ok (.iconst 5, 1) := by decide +kernel
theorem dX5_init_13 : decode cX5_init 13 = .ok (.newarray .int, 2) := by decide +kernel
theorem dX5_init_15 : decode cX5_init 15 = .ok (.putfield 15, 3) := by decide +kernel
theorem dX5_init_18 : decode cX5_init 18 = .ok (.aload_n 0, 1) := by decide +kernel
theorem dX5_init_19 : decode cX5_init 19 = .ok (.iconst (-1), 1) := by decide +kernel
theorem dX5_init_20 : decode cX5_init 20 = .ok (.putfield 18, 3) := by decide +kernel
theorem dX5_init_23 : decode cX5_init 23 = .ok (.aload_n 0, 1) := by decide +kernel
theorem dX5_init_24 : decode cX5_init 24 = .ok (.iconst (-1), 1) := by decide +kernel
theorem dX5_init_25 : decode cX5_init 25 = .ok (.putfield 22, 3) := by decide +kernel
theorem dX5_init_28 : decode cX5_init 28 = .ok (.aload_n 0, 1) := by decide +kernel
theorem dX5_init_29 : decode cX5_init 29 = .ok (.iconst 0, 1) := by decide +kernel
theorem dX5_init_30 : decode cX5_init 30 = .ok (.putfield 25, 3) := by decide +kernel
theorem dX5_init_33 : decode cX5_init 33 = .ok (.aload_n 0, 1) := by decide +kernel
theorem dX5_init_34 : decode cX5_init 34 = .ok (.iconst 0, 1) := by decide +kernel
theorem dX5_init_35 : decode cX5_init 35 = .ok (.putfield 28, 3) := by decide +kernel
theorem dX5_init_38 : decode cX5_init 38 = .ok (.aload_n 0, 1) := by decide +kernel
theorem dX5_init_39 : decode cX5_init 39 = .ok (.iconst 0, 1) := by decide +kernel
theorem dX5_init_40 : decode cX5_init 40 = .ok (.putfield 31, 3) := by decide +kernel
theorem dX5_init_43 : decode cX5_init 43 = .ok (.aload_n 0, 1) := by decide +kernel
theorem dX5_init_44 : decode cX5_init 44 = .ok (.iconst 0, 1) := by decide +kernel
theorem dX5_init_45 : decode cX5_init 45 = .ok (.putfield 34, 3) := by decide +kernel
theorem dX5_init_48 : decode cX5_init 48 = .ok (.aload_n 0, 1) := by decide +kernel
theorem dX5_init_49 : decode cX5_init 49 = .ok (.iconst 0, 1) := by decide +kernel
theorem dX5_init_50 : decode cX5_init 50 = .ok (.putfield 37, 3) := by decide +kernel
theorem dX5_init_53 : decode cX5_init 53 = .ok (.aload_n 0, 1) := by decide +kernel
theorem dX5_init_54 : decode cX5_init 54 = .ok (.iconst 0, 1) := by decide +kernel
theorem dX5_init_55 : decode cX5_init 55 = .ok (.putfield 40, 3) := by decide +kernel
theorem dX5_init_58 : decode cX5_init 58 = .ok (.return_, 1) := by decide +kernel
theorem dX5_begin_0 : decode cX5_begin 0 = .ok (.aload_n 0, 1) := by decide +kernel
theorem dX5_begin_1 : decode cX5_begin 1 = .ok (.getfield 9, 3) := by decide +kernel
theorem dX5_begin_4 : decode cX5_begin 4 = .ok (.iconst 0, 1) := by decide +kernel
theorem dX5_begin_5 : decode cX5_begin 5 = .ok (.invokestatic 43, 3) := by decide +kernel
theorem dX5_begin_8 : decode cX5_begin 8 = .ok (.aload_n 0, 1) := by decide +kernel
theorem dX5_begin_9 : decode cX5_begin 9 = .ok (.getfield 15, 3) := by decide +kernel
theorem dX5_begin_12 : decode cX5_begin 12 = .ok (.iconst 0, 1) := by decide +kernel
theorem dX5_begin_13 : decode cX5_begin 13 = .ok (.invokestatic 43, 3) := by decide +kernel
theorem dX5_begin_16 : decode cX5_begin 16 = .ok (.aload_n 0, 1) := by decide +kernel
theorem dX5_begin_17 : decode cX5_begin 17 = .ok (.aload_n 1, 1) := by decide +kernel
theorem dX5_begin_18 : decode cX5_begin 18 = .ok (.getfield 49, 3) := by decide +kernel
theorem dX5_begin_21 : decode cX5_begin 21 = .ok (.ifCond .le 7, 3) := by decide +kernel
theorem dX5_begin_24 : decode cX5_begin 24 = .ok (.iconst 0, 1) := by decide +kernel
theorem dX5_begin_25 : decode cX5_begin 25 = .ok (.goto 4, 3) := by decide +kernel
theorem dX5_begin_28 : decode cX5_begin 28 = .ok (.iconst (-1), 1) := by decide +kernel
theorem dX5_begin_29 : decode cX5_begin 29 = .ok (.putfield 18, 3) := by decide +kernel
theorem dX5_begin_32 : decode cX5_begin 32 = .ok (.aload_n 0, 1) := by decide +kernel
theorem dX5_begin_33 : decode cX5_begin 33 = .ok (.aload_n 1, 1) := by decide +kernel
theorem dX5_begin_34 : decode cX5_begin 34 = .ok (.getfield 54, 3) := by decide +kernel
theorem dX5_begin_37 : decode cX5_begin 37 = .ok (.ifCond .le 7, 3) := by decide +kernel
theorem dX5_begin_40 : decode cX5_begin 40 = .ok (.iconst 0, 1) := by decide +kernel
theorem dX5_begin_41 : decode cX5_begin 41 = .ok (.goto 4, 3) := by decide +kernel
theorem dX5_begin_44 : decode cX5_begin 44 = .ok (.iconst (-1), 1) := by decide +kernel
theorem dX5_begin_45 : decode cX5_begin 45 = .ok (.putfield 22, 3) := by decide +kernel
theorem dX5_begin_48 : decode cX5_begin 48 = .ok (.aload_n 0, 1) := by decide +kernel
theorem dX5_begin_49 : decode cX5_begin 49 = .ok (.iconst 0, 1) := by decide +kernel
theorem dX5_begin_50 : decode cX5_begin 50 = .ok (.putfield 25, 3) := by decide +kernel
theorem dX5_begin_53 : decode cX5_begin 53 = .ok (.aload_n 0, 1) := by decide +kernel
theorem dX5_begin_54 : decode cX5_begin 54 = .ok (.iconst 0, 1) := by decide +kernel
theorem dX5_begin_55 : decode cX5_begin 55 = .ok (.putfield 28, 3) := by decide +kernel
theorem dX5_begin_58 : decode cX5_begin 58 = .ok (.aload_n 0, 1) := by decide +kernel
theorem dX5_begin_59 : decode cX5_begin 59 = .ok (.iconst 0, 1) := by decide +kernel
theorem dX5_begin_60 : decode cX5_begin 60 = .ok (.putfield 31, 3) := by decide +kernel
theorem dX5_begin_63 : decode cX5_begin 63 = .ok (.aload_n 0, 1) := by decide +kernel
theorem dX5_begin_64 : decode cX5_begin 64 = .ok (.iconst 0, 1) := by decide +kernel
theorem dX5_begin_65 : decode cX5_begin 65 = .ok (.putfield 34, 3) := by decide +kernel
theorem dX5_begin_68 : decode cX5_begin 68 = .ok (.aload_n 0, 1) := by decide +kernel
theorem dX5_begin_69 : decode cX5_begin 69 = .ok (.iconst 0, 1) := by decide +kernel
theorem dX5_begin_70 : decode cX5_begin 70 = .ok (.putfield 37, 3) := by decide +kernel
theorem dX5_begin_73 : decode cX5_begin 73 = .ok (.aload_n 0, 1) := by decide +kernel
theorem dX5_begin_74 : decode cX5_begin 74 = .ok (.aload_n 1, 1) := by decide +kernel
theorem dX5_begin_75 : decode cX5_begin 75 = .ok (.getfield 57, 3) := by decide +kernel
theorem dX5_begin_78 : decode cX5_begin 78 = .ok (.putfield 40, 3) := by decide +kernel
theorem dX5_begin_81 : decode cX5_begin 81 = .ok (.return_, 1) := by decide +kernel
theorem dX5_copy_0 : decode cX5_copy 0 = .ok (.aload_n 1, 1) := by decide +kernel
theorem dX5_copy_1 : decode cX5_copy 1 = .ok (.getfield 9, 3) := by decide +kernel
theorem dX5_copy_4 : decode cX5_copy 4 = .ok (.iconst 0, 1) := by decide +kernel
theorem dX5_copy_5 : decode cX5_copy 5 = .ok (.aload_n 0, 1) := by decide +kernel
theorem dX5_copy_6 : decode cX5_copy 6 = .ok (.getfield 9, 3) := by decide +kernel
theorem dX5_copy_9 : decode cX5_copy 9 = .ok (.iconst 0, 1) := by decide +kernel
theorem dX5_copy_10 : decode cX5_copy 10 = .ok (.iconst 5, 1) := by decide +kernel
theorem dX5_copy_11 : decode cX5_copy 11 = .ok (.invokestatic 60, 3) := by decide +kernel
theorem dX5_copy_14 : decode cX5_copy 14 = .ok (.aload_n 1, 1) := by decide +kernel
theorem dX5_copy_15 : decode cX5_copy 15 = .ok (.getfield 15, 3) := by decide +kernel
theorem dX5_copy_18 : decode cX5_copy 18 = .ok (.iconst 0, 1) := by decide +kernel
theorem dX5_copy_19 : decode cX5_copy 19 = .ok (.aload_n 0, 1) := by decide +kernel
theorem dX5_copy_20 : decode cX5_copy 20 = .ok (.getfield 15, 3) := by decide +kernel
theorem dX5_copy_23 : decode cX5_copy 23 = .ok (.iconst 0, 1) := by decide +kernel
theorem dX5_copy_24 : decode cX5_copy 24 = .ok (.iconst 5, 1) := by decide +kernel
theorem dX5_copy_25 : decode cX5_copy 25 = .ok (.invokestatic 60, 3) := by decide +kernel
theorem dX5_copy_28 : decode cX5_copy 28 = .ok (.aload_n 0, 1) := by decide +kernel
theorem dX5_copy_29 : decode cX5_copy 29 = .ok (.aload_n 1, 1) := by decide +kernel
theorem dX5_copy_30 : decode cX5_copy 30 = .ok (.getfield 18, 3) := by decide +kernel
theorem dX5_copy_33 : decode cX5_copy 33 = .ok (.putfield 18, 3) := by decide +kernel
theorem dX5_copy_36 : decode cX5_copy 36 = .ok (.aload_n 0, 1) := by decide +kernel
theorem dX5_copy_37 : decode cX5_copy 37 = .ok (.aload_n 1, 1) := by decide +kernel
theorem dX5_copy_38 : decode cX5_copy 38 = .ok (.getfield 22, 3) := by decide +kernel
theorem dX5_copy_41 : decode cX5_copy 41 = .ok (.putfield 22, 3) := by decide +kernel
theorem dX5_copy_44 : decode cX5_copy 44 = .ok (.aload_n 0, 1) := by decide +kernel
theorem dX5_copy_45 : decode cX5_copy 45 = .ok (.aload_n 1, 1) := by decide +kernel
theorem dX5_copy_46 : decode cX5_copy 46 = .ok (.getfield 25, 3) := by decide +kernel
theorem dX5_copy_49 : decode cX5_copy 49 = .ok (.putfield 25, 3) := by decide +kernel
theorem dX5_copy_52 : decode cX5_copy 52 = .ok (.aload_n 0, 1) := by decide +kernel
theorem dX5_copy_53 : decode cX5_copy 53 = .ok (.aload_n 1, 1) := by decide +kernel
theorem dX5_copy_54 : decode cX5_copy 54 = .ok (.getfield 28, 3) := by decide +kernel
theorem dX5_copy_57 : decode cX5_copy 57 = .ok (.putfield 28, 3) := by decide +kernel
theorem dX5_copy_60 : decode cX5_copy 60 = .ok (.aload_n 0, 1) := by decide +kernel
theorem dX5_copy_61 : decode cX5_copy 61 = .ok (.aload_n 1, 1) := by decide +kernel
theorem dX5_copy_62 : decode cX5_copy 62 = .ok (.getfield 31, 3) := by decide +kernel
theorem dX5_copy_65 : decode cX5_copy 65 = .ok (.putfield 31, 3) := by decide +kernel
theorem dX5_copy_68 : decode cX5_copy 68 = .ok (.aload_n 0, 1) := by decide +kernel
theorem dX5_copy_69 : decode cX5_copy 69 = .ok (.aload_n 1, 1) := by decide +kernel
theorem dX5_copy_70 : decode cX5_copy 70 = .ok (.getfield 34, 3) := by decide +kernel
theorem dX5_copy_73 : decode cX5_copy 73 = .ok (.putfield 34, 3) := by decide +kernel
theorem dX5_copy_76 : decode cX5_copy 76 = .ok (.aload_n 0, 1) := by decide +kernel
theorem dX5_copy_77 : decode cX5_copy 77 = .ok (.aload_n 1, 1) := by decide +kernel
theorem dX5_copy_78 : decode cX5_copy 78 = .ok (.getfield 37, 3) := by decide +kernel
theorem dX5_copy_81 : decode cX5_copy 81 = .ok (.putfield 37, 3) := by decide +kernel
theorem dX5_copy_84 : decode cX5_copy 84 = .ok (.aload_n 0, 1) := by decide +kernel
theorem dX5_copy_85 : decode cX5_copy 85 = .ok (.aload_n 1, 1) := by decide +kernel
theorem dX5_copy_86 : decode cX5_copy 86 = .ok (.getfield 40, 3) := by decide +kernel
theorem dX5_copy_89 : decode cX5_copy 89 = .ok (.putfield 40, 3) := by decide +kernel
theorem dX5_copy_92 : decode cX5_copy 92 = .ok (.return_, 1) := by decide +kernel
theorem dX5_figureBit_0 : decode cX5_figureBit 0 = .ok (.aload_n 0, 1) := by decide +kernel
theorem dX5_figureBit_1 : decode cX5_figureBit 1 = .ok (.getfield 18, 3) := by decide +kernel
theorem dX5_figureBit_4 : decode cX5_figureBit 4 = .ok (.ifCond .lt 12, 3) := by decide +kernel
theorem dX5_figureBit_7 : decode cX5_figureBit 7 = .ok (.iconst 1, 1) := by decide +kernel
theorem dX5_figureBit_8 : decode cX5_figureBit 8 = .ok (.aload_n 0, 1) := by decide +kernel
theorem dX5_figureBit_9 : decode cX5_figureBit 9 = .ok (.getfield 18, 3) := by decide +kernel
theorem dX5_figureBit_12 : decode cX5_figureBit 12 = .ok (.ishl, 1) := by decide +kernel
theorem dX5_figureBit_13 : decode cX5_figureBit 13 = .ok (.goto 4, 3) := by decide +kernel
theorem dX5_figureBit_16 : decode cX5_figureBit 16 = .ok (.iconst 0, 1) := by decide +kernel
theorem dX5_figureBit_17 : decode cX5_figureBit 17 = .ok (.ireturn, 1) := by decide +kernel
theorem dX5_takeOff_0 : decode cX5_takeOff 0 = .ok (.aload_n 1, 1) := by decide +kernel
theorem dX5_takeOff_1 : decode cX5_takeOff 1 = .ok (.iload_n 3, 1) := by decide +kernel
theorem dX5_takeOff_2 : decode cX5_takeOff 2 = .ok (.invokevirtual 66, 3) := by decide +kernel
theorem dX5_takeOff_5 : decode cX5_takeOff 5 = .ok (.ifCond .ne 4, 3) := by decide +kernel
theorem dX5_takeOff_8 : decode cX5_takeOff 8 = .ok (.return_, 1) := by decide +kernel
theorem dX5_takeOff_9 : decode cX5_takeOff 9 = .ok (.aload_n 1, 1) := by decide +kernel
theorem dX5_takeOff_10 : decode cX5_takeOff 10 = .ok (.iload_n 2, 1) := by decide +kernel
theorem dX5_takeOff_11 : decode cX5_takeOff 11 = .ok (.iload_n 3, 1) := by decide +kernel
theorem dX5_takeOff_12 : decode cX5_takeOff 12 = .ok (.aload_n 0, 1) := by decide +kernel
theorem dX5_takeOff_13 : decode cX5_takeOff 13 = .ok (.invokevirtual 70, 3) := by decide +kernel
theorem dX5_takeOff_16 : decode cX5_takeOff 16 = .ok (.istore 4, 2) := by decide +kernel
theorem dX5_takeOff_18 : decode cX5_takeOff 18 = .ok (.aload_n 0, 1) := by decide +kernel
theorem dX5_takeOff_19 : decode cX5_takeOff 19 = .ok (.aload_n 0, 1) := by decide +kernel
theorem dX5_takeOff_20 : decode cX5_takeOff 20 = .ok (.getfield 40, 3) := by decide +kernel
theorem dX5_takeOff_23 : decode cX5_takeOff 23 = .ok (.sipush 137, 3) := by decide +kernel
theorem dX5_takeOff_26 : decode cX5_takeOff 26 = .ok (.imul, 1) := by decide +kernel
theorem dX5_takeOff_27 : decode cX5_takeOff 27 = .ok (.bipush 71, 2) := by decide +kernel
theorem dX5_takeOff_29 : decode cX5_takeOff 29 = .ok (.iadd, 1) := by decide +kernel
theorem dX5_takeOff_30 : decode cX5_takeOff 30 = .ok (.sipush 1000, 3) := by decide +kernel
theorem dX5_takeOff_33 : decode cX5_takeOff 33 = .ok (.irem, 1) := by decide +kernel
theorem dX5_takeOff_34 : decode cX5_takeOff 34 = .ok (.putfield 40, 3) := by decide +kernel
theorem dX5_takeOff_37 : decode cX5_takeOff 37 = .ok (.aload_n 0, 1) := by decide +kernel
theorem dX5_takeOff_38 : decode cX5_takeOff 38 = .ok (.getfield 40, 3) := by decide +kernel
theorem dX5_takeOff_41 : decode cX5_takeOff 41 = .ok (.bipush 100, 2) := by decide +kernel
theorem dX5_takeOff_43 : decode cX5_takeOff 43 = .ok (.irem, 1) := by decide +kernel
theorem dX5_takeOff_44 : decode cX5_takeOff 44 = .ok (.iload 4, 2) := by decide +kernel
theorem dX5_takeOff_46 : decode cX5_takeOff 46 = .ok (.if_icmp .lt 16, 3) := by decide +kernel
theorem dX5_takeOff_49 : decode cX5_takeOff 49 = .ok (.aload_n 0, 1) := by decide +kernel
theorem dX5_takeOff_50 : decode cX5_takeOff 50 = .ok (.aload_n 1, 1) := by decide +kernel
theorem dX5_takeOff_51 : decode cX5_takeOff 51 = .ok (.getfield 74, 3) := by decide +kernel
theorem dX5_takeOff_54 : decode cX5_takeOff 54 = .ok (.iload_n 3, 1) := by decide +kernel
theorem dX5_takeOff_55 : decode cX5_takeOff 55 = .ok (.iaload, 1) := by decide +kernel
theorem dX5_takeOff_56 : decode cX5_takeOff 56 = .ok (.putfield 18, 3) := by decide +kernel
theorem dX5_takeOff_59 : decode cX5_takeOff 59 = .ok (.goto 41, 3) := by decide +kernel
theorem dX5_takeOff_62 : decode cX5_takeOff 62 = .ok (.aload_n 1, 1) := by decide +kernel
theorem dX5_takeOff_63 : decode cX5_takeOff 63 = .ok (.getfield 77, 3) := by decide +kernel
theorem dX5_takeOff_66 : decode cX5_takeOff 66 = .ok (.iload_n 3, 1) := by decide +kernel
theorem dX5_takeOff_67 : decode cX5_takeOff 67 = .ok (.iaload, 1) := by decide +kernel
theorem dX5_takeOff_68 : decode cX5_takeOff 68 = .ok (.iconst (-1), 1) := by decide +kernel
theorem dX5_takeOff_69 : decode cX5_takeOff 69 = .ok (.if_icmp .eq 26, 3) := by decide +kernel
theorem dX5_takeOff_72 : decode cX5_takeOff 72 = .ok (.aload_n 0, 1) := by decide +kernel
theorem dX5_takeOff_73 : decode cX5_takeOff 73 = .ok (.aload_n 1, 1) := by decide +kernel
theorem dX5_takeOff_74 : decode cX5_takeOff 74 = .ok (.getfield 77, 3) := by decide +kernel
theorem dX5_takeOff_77 : decode cX5_takeOff 77 = .ok (.iload_n 3, 1) := by decide +kernel
theorem dX5_takeOff_78 : decode cX5_takeOff 78 = .ok (.iaload, 1) := by decide +kernel
theorem dX5_takeOff_79 : decode cX5_takeOff 79 = .ok (.putfield 18, 3) := by decide +kernel
theorem dX5_takeOff_82 : decode cX5_takeOff 82 = .ok (.aload_n 0, 1) := by decide +kernel
theorem dX5_takeOff_83 : decode cX5_takeOff 83 = .ok (.dup, 1) := by decide +kernel
theorem dX5_takeOff_84 : decode cX5_takeOff 84 = .ok (.getfield 31, 3) := by decide +kernel
theorem dX5_takeOff_87 : decode cX5_takeOff 87 = .ok (.iconst 1, 1) := by decide +kernel
theorem dX5_takeOff_88 : decode cX5_takeOff 88 = .ok (.iadd, 1) := by decide +kernel
theorem dX5_takeOff_89 : decode cX5_takeOff 89 = .ok (.putfield 31, 3) := by decide +kernel
theorem dX5_takeOff_92 : decode cX5_takeOff 92 = .ok (.goto 8, 3) := by decide +kernel
theorem dX5_takeOff_95 : decode cX5_takeOff 95 = .ok (.aload_n 0, 1) := by decide +kernel
theorem dX5_takeOff_96 : decode cX5_takeOff 96 = .ok (.aload_n 1, 1) := by decide +kernel
theorem dX5_takeOff_97 : decode cX5_takeOff 97 = .ok (.invokevirtual 80, 3) := by decide +kernel
theorem dX5_takeOff_100 : decode cX5_takeOff 100 = .ok (.aload_n 0, 1) := by decide +kernel
theorem dX5_takeOff_101 : decode cX5_takeOff 101 = .ok (.iload_n 2, 1) := by decide +kernel
theorem dX5_takeOff_102 : decode cX5_takeOff 102 = .ok (.putfield 22, 3) := by decide +kernel
theorem dX5_takeOff_105 : decode cX5_takeOff 105 = .ok (.return_, 1) := by decide +kernel
theorem dX5_drop_0 : decode cX5_drop 0 = .ok (.aload_n 0, 1) := by decide +kernel
theorem dX5_drop_1 : decode cX5_drop 1 = .ok (.aload_n 1, 1) := by decide +kernel
theorem dX5_drop_2 : decode cX5_drop 2 = .ok (.getfield 49, 3) := by decide +kernel
theorem dX5_drop_5 : decode cX5_drop 5 = .ok (.ifCond .le 7, 3) := by decide +kernel
theorem dX5_drop_8 : decode cX5_drop 8 = .ok (.iconst 0, 1) := by decide +kernel
theorem dX5_drop_9 : decode cX5_drop 9 = .ok (.goto 4, 3) := by decide +kernel
theorem dX5_drop_12 : decode cX5_drop 12 = .ok (.iconst (-1), 1) := by decide +kernel
theorem dX5_drop_13 : decode cX5_drop 13 = .ok (.putfield 18, 3) := by decide +kernel
theorem dX5_drop_16 : decode cX5_drop 16 = .ok (.aload_n 0, 1) := by decide +kernel
theorem dX5_drop_17 : decode cX5_drop 17 = .ok (.iconst 0, 1) := by decide +kernel
theorem dX5_drop_18 : decode cX5_drop 18 = .ok (.putfield 25, 3) := by decide +kernel
theorem dX5_drop_21 : decode cX5_drop 21 = .ok (.aload_n 0, 1) := by decide +kernel
theorem dX5_drop_22 : decode cX5_drop 22 = .ok (.dup, 1) := by decide +kernel
theorem dX5_drop_23 : decode cX5_drop 23 = .ok (.getfield 34, 3) := by decide +kernel
theorem dX5_drop_26 : decode cX5_drop 26 = .ok (.iconst 1, 1) := by decide +kernel
theorem dX5_drop_27 : decode cX5_drop 27 = .ok (.iadd, 1) := by decide +kernel
theorem dX5_drop_28 : decode cX5_drop 28 = .ok (.putfield 34, 3) := by decide +kernel
theorem dX5_drop_31 : decode cX5_drop 31 = .ok (.return_, 1) := by decide +kernel
theorem dX5_sleep_0 : decode cX5_sleep 0 = .ok (.iconst 0, 1) := by decide +kernel
theorem dX5_sleep_1 : decode cX5_sleep 1 = .ok (.istore_n 2, 1) := by decide +kernel
theorem dX5_sleep_2 : decode cX5_sleep 2 = .ok (.iload_n 2, 1) := by decide +kernel
theorem dX5_sleep_3 : decode cX5_sleep 3 = .ok (.aload_n 1, 1) := by decide +kernel
theorem dX5_sleep_4 : decode cX5_sleep 4 = .ok (.getfield 54, 3) := by decide +kernel
theorem dX5_sleep_7 : decode cX5_sleep 7 = .ok (.if_icmp .ge 27, 3) := by decide +kernel
theorem dX5_sleep_10 : decode cX5_sleep 10 = .ok (.aload_n 0, 1) := by decide +kernel
theorem dX5_sleep_11 : decode cX5_sleep 11 = .ok (.getfield 9, 3) := by decide +kernel
theorem dX5_sleep_14 : decode cX5_sleep 14 = .ok (.iload_n 2, 1) := by decide +kernel
theorem dX5_sleep_15 : decode cX5_sleep 15 = .ok (.dup2, 1) := by decide +kernel
theorem dX5_sleep_16 : decode cX5_sleep 16 = .ok (.iaload, 1) := by decide +kernel
theorem dX5_sleep_17 : decode cX5_sleep 17 = .ok (.aload_n 1, 1) := by decide +kernel
theorem dX5_sleep_18 : decode cX5_sleep 18 = .ok (.iload_n 2, 1) := by decide +kernel
theorem dX5_sleep_19 : decode cX5_sleep 19 = .ok (.aload_n 0, 1) := by decide +kernel
theorem dX5_sleep_20 : decode cX5_sleep 20 = .ok (.getfield 18, 3) := by decide +kernel
theorem dX5_sleep_23 : decode cX5_sleep 23 = .ok (.invokevirtual 84, 3) := by decide +kernel
theorem dX5_sleep_26 : decode cX5_sleep 26 = .ok (.iadd, 1) := by decide +kernel
theorem dX5_sleep_27 : decode cX5_sleep 27 = .ok (.iastore, 1) := by decide +kernel
theorem dX5_sleep_28 : decode cX5_sleep 28 = .ok (.iinc 2 1, 3) := by decide +kernel
theorem dX5_sleep_31 : decode cX5_sleep 31 = .ok (.goto (-29), 3) := by decide +kernel
theorem dX5_sleep_34 : decode cX5_sleep 34 = .ok (.aload_n 1, 1) := by decide +kernel
theorem dX5_sleep_35 : decode cX5_sleep 35 = .ok (.aload_n 0, 1) := by decide +kernel
theorem dX5_sleep_36 : decode cX5_sleep 36 = .ok (.getfield 22, 3) := by decide +kernel
theorem dX5_sleep_39 : decode cX5_sleep 39 = .ok (.invokevirtual 88, 3) := by decide +kernel
theorem dX5_sleep_42 : decode cX5_sleep 42 = .ok (.ifCond .eq 16, 3) := by decide +kernel
theorem dX5_sleep_45 : decode cX5_sleep 45 = .ok (.aload_n 0, 1) := by decide +kernel
theorem dX5_sleep_46 : decode cX5_sleep 46 = .ok (.getfield 15, 3) := by decide +kernel
theorem dX5_sleep_49 : decode cX5_sleep 49 = .ok (.aload_n 0, 1) := by decide +kernel
theorem dX5_sleep_50 : decode cX5_sleep 50 = .ok (.getfield 22, 3) := by decide +kernel
theorem dX5_sleep_53 : decode cX5_sleep 53 = .ok (.dup2, 1) := by decide +kernel
theorem dX5_sleep_54 : decode cX5_sleep 54 = .ok (.iaload, 1) := by decide +kernel
theorem dX5_sleep_55 : decode cX5_sleep 55 = .ok (.iconst 1, 1) := by decide +kernel
theorem dX5_sleep_56 : decode cX5_sleep 56 = .ok (.iadd, 1) := by decide +kernel
theorem dX5_sleep_57 : decode cX5_sleep 57 = .ok (.iastore, 1) := by decide +kernel
theorem dX5_sleep_58 : decode cX5_sleep 58 = .ok (.aload_n 0, 1) := by decide +kernel
theorem dX5_sleep_59 : decode cX5_sleep 59 = .ok (.dup, 1) := by decide +kernel
theorem dX5_sleep_60 : decode cX5_sleep 60 = .ok (.getfield 25, 3) := by decide +kernel
theorem dX5_sleep_63 : decode cX5_sleep 63 = .ok (.iconst 1, 1) := by decide +kernel
theorem dX5_sleep_64 : decode cX5_sleep 64 = .ok (.iadd, 1) := by decide +kernel
theorem dX5_sleep_65 : decode cX5_sleep 65 = .ok (.putfield 25, 3) := by decide +kernel
theorem dX5_sleep_68 : decode cX5_sleep 68 = .ok (.aload_n 0, 1) := by decide +kernel
theorem dX5_sleep_69 : decode cX5_sleep 69 = .ok (.getfield 25, 3) := by decide +kernel
theorem dX5_sleep_72 : decode cX5_sleep 72 = .ok (.aload_n 1, 1) := by decide +kernel
theorem dX5_sleep_73 : decode cX5_sleep 73 = .ok (.getfield 91, 3) := by decide +kernel
theorem dX5_sleep_76 : decode cX5_sleep 76 = .ok (.if_icmp .lt 8, 3) := by decide +kernel
theorem dX5_sleep_79 : decode cX5_sleep 79 = .ok (.aload_n 0, 1) := by decide +kernel
theorem dX5_sleep_80 : decode cX5_sleep 80 = .ok (.aload_n 1, 1) := by decide +kernel
theorem dX5_sleep_81 : decode cX5_sleep 81 = .ok (.invokevirtual 80, 3) := by decide +kernel
theorem dX5_sleep_84 : decode cX5_sleep 84 = .ok (.aload_n 0, 1) := by decide +kernel
theorem dX5_sleep_85 : decode cX5_sleep 85 = .ok (.iconst 0, 1) := by decide +kernel
theorem dX5_sleep_86 : decode cX5_sleep 86 = .ok (.putfield 28, 3) := by decide +kernel
theorem dX5_sleep_89 : decode cX5_sleep 89 = .ok (.aload_n 0, 1) := by decide +kernel
theorem dX5_sleep_90 : decode cX5_sleep 90 = .ok (.dup, 1) := by decide +kernel
theorem dX5_sleep_91 : decode cX5_sleep 91 = .ok (.getfield 37, 3) := by decide +kernel
theorem dX5_sleep_94 : decode cX5_sleep 94 = .ok (.iconst 1, 1) := by decide +kernel
theorem dX5_sleep_95 : decode cX5_sleep 95 = .ok (.iadd, 1) := by decide +kernel
theorem dX5_sleep_96 : decode cX5_sleep 96 = .ok (.putfield 37, 3) := by decide +kernel
theorem dX5_sleep_99 : decode cX5_sleep 99 = .ok (.return_, 1) := by decide +kernel
theorem dX5_hasBehind_0 : decode cX5_hasBehind 0 = .ok (.aload_n 1, 1) := by decide +kernel
theorem dX5_hasBehind_1 : decode cX5_hasBehind 1 = .ok (.iload_n 2, 1) := by decide +kernel
theorem dX5_hasBehind_2 : decode cX5_hasBehind 2 = .ok (.invokevirtual 88, 3) := by decide +kernel
theorem dX5_hasBehind_5 : decode cX5_hasBehind 5 = .ok (.ifCond .ne 5, 3) := by decide +kernel
theorem dX5_hasBehind_8 : decode cX5_hasBehind 8 = .ok (.iconst (-1), 1) := by decide +kernel
theorem dX5_hasBehind_9 : decode cX5_hasBehind 9 = .ok (.ireturn, 1) := by decide +kernel
theorem dX5_hasBehind_10 : decode cX5_hasBehind 10 = .ok (.aload_n 0, 1) := by decide +kernel
theorem dX5_hasBehind_11 : decode cX5_hasBehind 11 = .ok (.getfield 9, 3) := by decide +kernel
theorem dX5_hasBehind_14 : decode cX5_hasBehind 14 = .ok (.iload_n 2, 1) := by decide +kernel
theorem dX5_hasBehind_15 : decode cX5_hasBehind 15 = .ok (.iaload, 1) := by decide +kernel
theorem dX5_hasBehind_16 : decode cX5_hasBehind 16 = .ok (.istore 4, 2) := by decide +kernel
theorem dX5_hasBehind_18 : decode cX5_hasBehind 18 = .ok (.aload_n 0, 1) := by decide +kernel
theorem dX5_hasBehind_19 : decode cX5_hasBehind 19 = .ok (.getfield 18, 3) := by decide +kernel
theorem dX5_hasBehind_22 : decode cX5_hasBehind 22 = .ok (.istore 5, 2) := by decide +kernel
theorem dX5_hasBehind_24 : decode cX5_hasBehind 24 = .ok (.aload_n 0, 1) := by decide +kernel
theorem dX5_hasBehind_25 : decode cX5_hasBehind 25 = .ok (.getfield 25, 3) := by decide +kernel
theorem dX5_hasBehind_28 : decode cX5_hasBehind 28 = .ok (.istore 6, 2) := by decide +kernel
theorem dX5_hasBehind_30 : decode cX5_hasBehind 30 = .ok (.iconst 0, 1) := by decide +kernel
theorem dX5_hasBehind_31 : decode cX5_hasBehind 31 = .ok (.istore 7, 2) := by decide +kernel
theorem dX5_hasBehind_33 : decode cX5_hasBehind 33 = .ok (.iload 7, 2) := by decide +kernel
theorem dX5_hasBehind_35 : decode cX5_hasBehind 35 = .ok (.iload_n 3, 1) := by decide +kernel
theorem dX5_hasBehind_36 : decode cX5_hasBehind 36 = .ok (.if_icmp .ge 39, 3) := by decide +kernel
theorem dX5_hasBehind_39 : decode cX5_hasBehind 39 = .ok (.iload 4, 2) := by decide +kernel
theorem dX5_hasBehind_41 : decode cX5_hasBehind 41 = .ok (.aload_n 1, 1) := by decide +kernel
theorem dX5_hasBehind_42 : decode cX5_hasBehind 42 = .ok (.iload_n 2, 1) := by decide +kernel
theorem dX5_hasBehind_43 : decode cX5_hasBehind 43 = .ok (.iload 5, 2) := by decide +kernel
theorem dX5_hasBehind_45 : decode cX5_hasBehind 45 = .ok (.invokevirtual 84, 3) := by decide +kernel
theorem dX5_hasBehind_48 : decode cX5_hasBehind 48 = .ok (.iadd, 1) := by decide +kernel
theorem dX5_hasBehind_49 : decode cX5_hasBehind 49 = .ok (.istore 4, 2) := by decide +kernel
theorem dX5_hasBehind_51 : decode cX5_hasBehind 51 = .ok (.iinc 6 1, 3) := by decide +kernel
theorem dX5_hasBehind_54 : decode cX5_hasBehind 54 = .ok (.iload 6, 2) := by decide +kernel
theorem dX5_hasBehind_56 : decode cX5_hasBehind 56 = .ok (.aload_n 1, 1) := by decide +kernel
theorem dX5_hasBehind_57 : decode cX5_hasBehind 57 = .ok (.getfield 91, 3) := by decide +kernel
theorem dX5_hasBehind_60 : decode cX5_hasBehind 60 = .ok (.if_icmp .lt 9, 3) := by decide +kernel
theorem dX5_hasBehind_63 : decode cX5_hasBehind 63 = .ok (.iconst 0, 1) := by decide +kernel
theorem dX5_hasBehind_64 : decode cX5_hasBehind 64 = .ok (.istore 5, 2) := by decide +kernel
theorem dX5_hasBehind_66 : decode cX5_hasBehind 66 = .ok (.iconst 0, 1) := by decide +kernel
theorem dX5_hasBehind_67 : decode cX5_hasBehind 67 = .ok (.istore 6, 2) := by decide +kernel
theorem dX5_hasBehind_69 : decode cX5_hasBehind 69 = .ok (.iinc 7 1, 3) := by decide +kernel
theorem dX5_hasBehind_72 : decode cX5_hasBehind 72 = .ok (.goto (-39), 3) := by decide +kernel
theorem dX5_hasBehind_75 : decode cX5_hasBehind 75 = .ok (.iload 4, 2) := by decide +kernel
theorem dX5_hasBehind_77 : decode cX5_hasBehind 77 = .ok (.ireturn, 1) := by decide +kernel
theorem dX6_init_0 : decode cX6_init 0 = .ok (.aload_n 0, 1) := by decide +kernel
theorem dX6_init_1 : decode cX6_init 1 = .ok (.invokespecial 3, 3) := by decide +kernel
theorem dX6_init_4 : decode cX6_init 4 = .ok (.aload_n 0, 1) := by decide +kernel
theorem dX6_init_5 : decode cX6_init 5 = .ok (.sipush 1600, 3) := by decide +kernel
theorem dX6_init_8 : decode cX6_init 8 = .ok (.newarray .byte, 2) := by decide +kernel
theorem dX6_init_10 : decode cX6_init 10 = .ok (.putfield 11, 3) := by decide +kernel
theorem dX6_init_13 : decode cX6_init 13 = .ok (.aload_n 0, 1) := by decide +kernel
theorem dX6_init_14 : decode cX6_init 14 = .ok (.iconst 0, 1) := by decide +kernel
theorem dX6_init_15 : decode cX6_init 15 = .ok (.putfield 15, 3) := by decide +kernel
theorem dX6_init_18 : decode cX6_init 18 = .ok (.return_, 1) := by decide +kernel
theorem dX6_length_0 : decode cX6_length 0 = .ok (.aload_n 0, 1) := by decide +kernel
theorem dX6_length_1 : decode cX6_length 1 = .ok (.getfield 15, 3) := by decide +kernel
theorem dX6_length_4 : decode cX6_length 4 = .ok (.ireturn, 1) := by decide +kernel
theorem dX6_hasRoomFor_0 : decode cX6_hasRoomFor 0 = .ok (.iload_n 1, 1) := by decide +kernel
theorem dX6_hasRoomFor_1 : decode cX6_hasRoomFor 1 = .ok (.sipush 1600, 3) := by decide +kernel
theorem dX6_hasRoomFor_4 : decode cX6_hasRoomFor 4 = .ok (.aload_n 0, 1) := by decide +kernel
theorem dX6_hasRoomFor_5 : decode cX6_hasRoomFor 5 = .ok (.getfield 15, 3) := by decide +kernel
theorem dX6_hasRoomFor_8 : decode cX6_hasRoomFor 8 = .ok (.isub, 1) := by decide +kernel
theorem dX6_hasRoomFor_9 : decode cX6_hasRoomFor 9 = .ok (.if_icmp .gt 7, 3) := by decide +kernel
theorem dX6_hasRoomFor_12 : decode cX6_hasRoomFor 12 = .ok (.iconst 1, 1) := by decide +kernel
theorem dX6_hasRoomFor_13 : decode cX6_hasRoomFor 13 = .ok (.goto 4, 3) := by decide +kernel
theorem dX6_hasRoomFor_16 : decode cX6_hasRoomFor 16 = .ok (.iconst 0, 1) := by decide +kernel
theorem dX6_hasRoomFor_17 : decode cX6_hasRoomFor 17 = .ok (.ireturn, 1) := by decide +kernel
theorem dX6_put_0 : decode cX6_put 0 = .ok (.bipush 24, 2) := by decide +kernel
theorem dX6_put_2 : decode cX6_put 2 = .ok (.istore_n 2, 1) := by decide +kernel
theorem dX6_put_3 : decode cX6_put 3 = .ok (.iload_n 2, 1) := by decide +kernel
theorem dX6_put_4 : decode cX6_put 4 = .ok (.ifCond .lt 42, 3) := by decide +kernel
theorem dX6_put_7 : decode cX6_put 7 = .ok (.aload_n 0, 1) := by decide +kernel
theorem dX6_put_8 : decode cX6_put 8 = .ok (.getfield 15, 3) := by decide +kernel
theorem dX6_put_11 : decode cX6_put 11 = .ok (.sipush 1600, 3) := by decide +kernel
theorem dX6_put_14 : decode cX6_put 14 = .ok (.if_icmp .ge 26, 3) := by decide +kernel
theorem dX6_put_17 : decode cX6_put 17 = .ok (.aload_n 0, 1) := by decide +kernel
theorem dX6_put_18 : decode cX6_put 18 = .ok (.getfield 11, 3) := by decide +kernel
theorem dX6_put_21 : decode cX6_put 21 = .ok (.aload_n 0, 1) := by decide +kernel
theorem dX6_put_22 : decode cX6_put 22 = .ok (.getfield 15, 3) := by decide +kernel
theorem dX6_put_25 : decode cX6_put 25 = .ok (.iload_n 1, 1) := by decide +kernel
theorem dX6_put_26 : decode cX6_put 26 = .ok (.iload_n 2, 1) := by decide +kernel
theorem dX6_put_27 : decode cX6_put 27 = .ok (.ishr, 1) := by decide +kernel
theorem dX6_put_28 : decode cX6_put 28 = .ok (.i2b, 1) := by decide +kernel
theorem dX6_put_29 : decode cX6_put 29 = .ok (.bastore, 1) := by decide +kernel
theorem dX6_put_30 : decode cX6_put 30 = .ok (.aload_n 0, 1) := by decide +kernel
theorem dX6_put_31 : decode cX6_put 31 = .ok (.dup, 1) := by decide +kernel
theorem dX6_put_32 : decode cX6_put 32 = .ok (.getfield 15, 3) := by decide +kernel
theorem dX6_put_35 : decode cX6_put 35 = .ok (.iconst 1, 1) := by decide +kernel
theorem dX6_put_36 : decode cX6_put 36 = .ok (.iadd, 1) := by decide +kernel
theorem dX6_put_37 : decode cX6_put 37 = .ok (.putfield 15, 3) := by decide +kernel
theorem dX6_put_40 : decode cX6_put 40 = .ok (.iinc 2 (-8), 3) := by decide +kernel
theorem dX6_put_43 : decode cX6_put 43 = .ok (.goto (-40), 3) := by decide +kernel
theorem dX6_put_46 : decode cX6_put 46 = .ok (.return_, 1) := by decide +kernel
theorem dX6_cut_0 : decode cX6_cut 0 = .ok (.iload_n 1, 1) := by decide +kernel
theorem dX6_cut_1 : decode cX6_cut 1 = .ok (.ifCond .lt 11, 3) := by decide +kernel
theorem dX6_cut_4 : decode cX6_cut 4 = .ok (.iload_n 1, 1) := by decide +kernel
theorem dX6_cut_5 : decode cX6_cut 5 = .ok (.aload_n 0, 1) := by decide +kernel
theorem dX6_cut_6 : decode cX6_cut 6 = .ok (.getfield 15, 3) := by decide +kernel
theorem dX6_cut_9 : decode cX6_cut 9 = .ok (.if_icmp .le 5, 3) := by decide +kernel
theorem dX6_cut_12 : decode cX6_cut 12 = .ok (.iconst 0, 1) := by decide +kernel
theorem dX6_cut_13 : decode cX6_cut 13 = .ok (.ireturn, 1) := by decide +kernel
theorem dX6_cut_14 : decode cX6_cut 14 = .ok (.aload_n 0, 1) := by decide +kernel
theorem dX6_cut_15 : decode cX6_cut 15 = .ok (.iload_n 1, 1) := by decide +kernel
theorem dX6_cut_16 : decode cX6_cut 16 = .ok (.putfield 15, 3) := by decide +kernel
theorem dX6_cut_19 : decode cX6_cut 19 = .ok (.iconst 1, 1) := by decide +kernel
theorem dX6_cut_20 : decode cX6_cut 20 = .ok (.ireturn, 1) := by decide +kernel
theorem dX6_at_0 : decode cX6_at 0 = .ok (.iload_n 1, 1) := by decide +kernel
theorem dX6_at_1 : decode cX6_at 1 = .ok (.ifCond .lt 24, 3) := by decide +kernel
theorem dX6_at_4 : decode cX6_at 4 = .ok (.iload_n 1, 1) := by decide +kernel
theorem dX6_at_5 : decode cX6_at 5 = .ok (.aload_n 0, 1) := by decide +kernel
theorem dX6_at_6 : decode cX6_at 6 = .ok (.getfield 15, 3) := by decide +kernel
theorem dX6_at_9 : decode cX6_at 9 = .ok (.if_icmp .ge 16, 3) := by decide +kernel
theorem dX6_at_12 : decode cX6_at 12 = .ok (.aload_n 0, 1) := by decide +kernel
theorem dX6_at_13 : decode cX6_at 13 = .ok (.getfield 11, 3) := by decide +kernel
theorem dX6_at_16 : decode cX6_at 16 = .ok (.iload_n 1, 1) := by decide +kernel
theorem dX6_at_17 : decode cX6_at 17 = .ok (.baload, 1) := by decide +kernel
theorem dX6_at_18 : decode cX6_at 18 = .ok (.sipush 255, 3) := by decide +kernel
theorem dX6_at_21 : decode cX6_at 21 = .ok (.iand, 1) := by decide +kernel
theorem dX6_at_22 : decode cX6_at 22 = .ok (.goto 4, 3) := by decide +kernel
theorem dX6_at_25 : decode cX6_at 25 = .ok (.iconst (-1), 1) := by decide +kernel
theorem dX6_at_26 : decode cX6_at 26 = .ok (.ireturn, 1) := by decide +kernel
theorem dX7_init_0 : decode cX7_init 0 = .ok (.aload_n 0, 1) := by decide +kernel
theorem dX7_init_1 : decode cX7_init 1 = .ok (.invokespecial 3, 3) := by decide +kernel
theorem dX7_init_4 : decode cX7_init 4 = .ok (.aload_n 0, 1) := by decide +kernel
theorem dX7_init_5 : decode cX7_init 5 = .ok (.iconst 0, 1) := by decide +kernel
theorem dX7_init_6 : decode cX7_init 6 = .ok (.putfield 9, 3) := by decide +kernel
theorem dX7_init_9 : decode cX7_init 9 = .ok (.aload_n 0, 1) := by decide +kernel
theorem dX7_init_10 : decode cX7_init 10 = .ok (.bipush 21, 2) := by decide +kernel
theorem dX7_init_12 : decode cX7_init 12 = .ok (.putfield 15, 3) := by decide +kernel
theorem dX7_init_15 : decode cX7_init 15 = .ok (.aload_n 0, 1) := by decide +kernel
theorem dX7_init_16 : decode cX7_init 16 = .ok (.iconst 0, 1) := by decide +kernel
theorem dX7_init_17 : decode cX7_init 17 = .ok (.putfield 18, 3) := by decide +kernel
theorem dX7_init_20 : decode cX7_init 20 = .ok (.aload_n 0, 1) := by decide +kernel
theorem dX7_init_21 : decode cX7_init 21 = .ok (.iconst 0, 1) := by decide +kernel
theorem dX7_init_22 : decode cX7_init 22 = .ok (.putfield 21, 3) := by decide +kernel
theorem dX7_init_25 : decode cX7_init 25 = .ok (.aload_n 0, 1) := by decide +kernel
theorem dX7_init_26 : decode cX7_init 26 = .ok (.lconst 0, 1) := by decide +kernel
theorem dX7_init_27 : decode cX7_init 27 = .ok (.putfield 24, 3) := by decide +kernel
theorem dX7_init_30 : decode cX7_init 30 = .ok (.aload_n 0, 1) := by decide +kernel
theorem dX7_init_31 : decode cX7_init 31 = .ok (.aload_n 1, 1) := by decide +kernel
theorem dX7_init_32 : decode cX7_init 32 = .ok (.putfield 28, 3) := by decide +kernel
theorem dX7_init_35 : decode cX7_init 35 = .ok (.return_, 1) := by decide +kernel
theorem dX7_start_0 : decode cX7_start 0 = .ok (.aload_n 0, 1) := by decide +kernel
theorem dX7_start_1 : decode cX7_start 1 = .ok (.iconst 0, 1) := by decide +kernel
theorem dX7_start_2 : decode cX7_start 2 = .ok (.putfield 9, 3) := by decide +kernel
theorem dX7_start_5 : decode cX7_start 5 = .ok (.aload_n 0, 1) := by decide +kernel
theorem dX7_start_6 : decode cX7_start 6 = .ok (.invokevirtual 32, 3) := by decide +kernel
theorem dX7_start_9 : decode cX7_start 9 = .ok (.return_, 1) := by decide +kernel
theorem dX7_step_0 : decode cX7_step 0 = .ok (.aload_n 0, 1) := by decide +kernel
theorem dX7_step_1 : decode cX7_step 1 = .ok (.invokevirtual 35, 3) := by decide +kernel
theorem dX7_step_4 : decode cX7_step 4 = .ok (.aload_n 0, 1) := by decide +kernel
theorem dX7_step_5 : decode cX7_step 5 = .ok (.aload_n 0, 1) := by decide +kernel
theorem dX7_step_6 : decode cX7_step 6 = .ok (.getfield 9, 3) := by decide +kernel
theorem dX7_step_9 : decode cX7_step 9 = .ok (.putfield 18, 3) := by decide +kernel
theorem dX7_step_12 : decode cX7_step 12 = .ok (.aload_n 0, 1) := by decide +kernel
theorem dX7_step_13 : decode cX7_step 13 = .ok (.getfield 28, 3) := by decide +kernel
theorem dX7_step_16 : decode cX7_step 16 = .ok (.aload_n 0, 1) := by decide +kernel
theorem dX7_step_17 : decode cX7_step 17 = .ok (.getfield 9, 3) := by decide +kernel
theorem dX7_step_20 : decode cX7_step 20 = .ok (.invokevirtual 38, 3) := by decide +kernel
theorem dX7_step_23 : decode cX7_step 23 = .ok (.istore_n 1, 1) := by decide +kernel
theorem dX7_step_24 : decode cX7_step 24 = .ok (.iload_n 1, 1) := by decide +kernel
theorem dX7_step_25 : decode cX7_step 25 = .ok (.iconst (-1), 1) := by decide +kernel
theorem dX7_step_26 : decode cX7_step 26 = .ok (.if_icmp .ne 12, 3) := by decide +kernel
theorem dX7_step_29 : decode cX7_step 29 = .ok (.aload_n 0, 1) := by decide +kernel
theorem dX7_step_30 : decode cX7_step 30 = .ok (.bipush 21, 2) := by decide +kernel
theorem dX7_step_32 : decode cX7_step 32 = .ok (.putfield 15, 3) := by decide +kernel
theorem dX7_step_35 : decode cX7_step 35 = .ok (.goto 61, 3) := by decide +kernel
theorem dX7_step_38 : decode cX7_step 38 = .ok (.iload_n 1, 1) := by decide +kernel
theorem dX7_step_39 : decode cX7_step 39 = .ok (.invokestatic 44, 3) := by decide +kernel
theorem dX7_step_42 : decode cX7_step 42 = .ok (.ifCond .eq 10, 3) := by decide +kernel
theorem dX7_step_45 : decode cX7_step 45 = .ok (.aload_n 0, 1) := by decide +kernel
theorem dX7_step_46 : decode cX7_step 46 = .ok (.invokevirtual 48, 3) := by decide +kernel
theorem dX7_step_49 : decode cX7_step 49 = .ok (.goto 47, 3) := by decide +kernel
theorem dX7_step_52 : decode cX7_step 52 = .ok (.iload_n 1, 1) := by decide +kernel
theorem dX7_step_53 : decode cX7_step 53 = .ok (.invokestatic 51, 3) := by decide +kernel
theorem dX7_step_56 : decode cX7_step 56 = .ok (.ifCond .eq 10, 3) := by decide +kernel
theorem dX7_step_59 : decode cX7_step 59 = .ok (.aload_n 0, 1) := by decide +kernel
theorem dX7_step_60 : decode cX7_step 60 = .ok (.invokevirtual 54, 3) := by decide +kernel
theorem dX7_step_63 : decode cX7_step 63 = .ok (.goto 33, 3) := by decide +kernel
theorem dX7_step_66 : decode cX7_step 66 = .ok (.aload_n 0, 1) := by decide +kernel
theorem dX7_step_67 : decode cX7_step 67 = .ok (.ldc 57, 2) := by decide +kernel
theorem dX7_step_69 : decode cX7_step 69 = .ok (.iload_n 1, 1) := by decide +kernel
theorem dX7_step_70 : decode cX7_step 70 = .ok (.i2c, 1) := by decide +kernel
theorem dX7_step_71 : decode cX7_step 71 = .ok (.invokevirtual 59, 3) := by decide +kernel
theorem dX7_step_74 : decode cX7_step 74 = .ok (.ifCond .lt 7, 3) := by decide +kernel
theorem dX7_step_77 : decode cX7_step 77 = .ok (.iload_n 1, 1) := by decide +kernel
theorem dX7_step_78 : decode cX7_step 78 = .ok (.goto 5, 3) := by decide +kernel
theorem dX7_step_81 : decode cX7_step 81 = .ok (.bipush 22, 2) := by decide +kernel
theorem dX7_step_83 : decode cX7_step 83 = .ok (.putfield 15, 3) := by decide +kernel
theorem dX7_step_86 : decode cX7_step 86 = .ok (.aload_n 0, 1) := by decide +kernel
theorem dX7_step_87 : decode cX7_step 87 = .ok (.dup, 1) := by decide +kernel
theorem dX7_step_88 : decode cX7_step 88 = .ok (.getfield 9, 3) := by decide +kernel
theorem dX7_step_91 : decode cX7_step 91 = .ok (.iconst 1, 1) := by decide +kernel
theorem dX7_step_92 : decode cX7_step 92 = .ok (.iadd, 1) := by decide +kernel
theorem dX7_step_93 : decode cX7_step 93 = .ok (.putfield 9, 3) := by decide +kernel
theorem dX7_step_96 : decode cX7_step 96 = .ok (.return_, 1) := by decide +kernel
theorem dX7_skipBlanks_0 : decode cX7_skipBlanks 0 = .ok (.aload_n 0, 1) := by decide +kernel
theorem dX7_skipBlanks_1 : decode cX7_skipBlanks 1 = .ok (.getfield 9, 3) := by decide +kernel
theorem dX7_skipBlanks_4 : decode cX7_skipBlanks 4 = .ok (.aload_n 0, 1) := by decide +kernel
theorem dX7_skipBlanks_5 : decode cX7_skipBlanks 5 = .ok (.getfield 28, 3) := by decide +kernel
theorem dX7_skipBlanks_8 : decode cX7_skipBlanks 8 = .ok (.invokevirtual 64, 3) := by decide +kernel
theorem dX7_skipBlanks_11 : decode cX7_skipBlanks 11 = .ok (.if_icmp .ge 41, 3) := by decide +kernel
theorem dX7_skipBlanks_14 : decode cX7_skipBlanks 14 = .ok (.aload_n 0, 1) := by decide +kernel
theorem dX7_skipBlanks_15 : decode cX7_skipBlanks 15 = .ok (.getfield 28, 3) := by decide +kernel
theorem dX7_skipBlanks_18 : decode cX7_skipBlanks 18 = .ok (.aload_n 0, 1) := by decide +kernel
theorem dX7_skipBlanks_19 : decode cX7_skipBlanks 19 = .ok (.getfield 9, 3) := by decide +kernel
theorem dX7_skipBlanks_22 : decode cX7_skipBlanks 22 = .ok (.invokevirtual 38, 3) := by decide +kernel
theorem dX7_skipBlanks_25 : decode cX7_skipBlanks 25 = .ok (.istore_n 1, 1) := by decide +kernel
theorem dX7_skipBlanks_26 : decode cX7_skipBlanks 26 = .ok (.iload_n 1, 1) := by decide +kernel
theorem dX7_skipBlanks_27 : decode cX7_skipBlanks 27 = .ok (.bipush 32, 2) := by decide +kernel
theorem dX7_skipBlanks_29 : decode cX7_skipBlanks 29 = .ok (.if_icmp .eq 10, 3) := by decide +kernel
theorem dX7_skipBlanks_32 : decode cX7_skipBlanks 32 = .ok (.iload_n 1, 1) := by decide +kernel
theorem dX7_skipBlanks_33 : decode cX7_skipBlanks 33 = .ok (.bipush 10, 2) := by decide +kernel
theorem dX7_skipBlanks_35 : decode cX7_skipBlanks 35 = .ok (.if_icmp .eq 4, 3) := by decide +kernel
theorem dX7_skipBlanks_38 : decode cX7_skipBlanks 38 = .ok (.return_, 1) := by decide +kernel
theorem dX7_skipBlanks_39 : decode cX7_skipBlanks 39 = .ok (.aload_n 0, 1) := by decide +kernel
theorem dX7_skipBlanks_40 : decode cX7_skipBlanks 40 = .ok (.dup, 1) := by decide +kernel
theorem dX7_skipBlanks_41 : decode cX7_skipBlanks 41 = .ok (.getfield 9, 3) := by decide +kernel
theorem dX7_skipBlanks_44 : decode cX7_skipBlanks 44 = .ok (.iconst 1, 1) := by decide +kernel
theorem dX7_skipBlanks_45 : decode cX7_skipBlanks 45 = .ok (.iadd, 1) := by decide +kernel
theorem dX7_skipBlanks_46 : decode cX7_skipBlanks 46 = .ok (.putfield 9, 3) := by decide +kernel
theorem dX7_skipBlanks_49 : decode cX7_skipBlanks 49 = .ok (.goto (-49), 3) := by decide +kernel
theorem dX7_skipBlanks_52 : decode cX7_skipBlanks 52 = .ok (.return_, 1) := by decide +kernel
theorem dX7_readWord_0 : decode cX7_readWord 0 = .ok (.aload_n 0, 1) := by decide +kernel
theorem dX7_readWord_1 : decode cX7_readWord 1 = .ok (.lconst 0, 1) := by decide +kernel
theorem dX7_readWord_2 : decode cX7_readWord 2 = .ok (.putfield 24, 3) := by decide +kernel
theorem dX7_readWord_5 : decode cX7_readWord 5 = .ok (.aload_n 0, 1) := by decide +kernel
theorem dX7_readWord_6 : decode cX7_readWord 6 = .ok (.getfield 9, 3) := by decide +kernel
theorem dX7_readWord_9 : decode cX7_readWord 9 = .ok (.aload_n 0, 1) := by decide +kernel
theorem dX7_readWord_10 : decode cX7_readWord 10 = .ok (.getfield 28, 3) := by decide +kernel
theorem dX7_readWord_13 : decode cX7_readWord 13 = .ok (.invokevirtual 64, 3) := by decide +kernel
theorem dX7_readWord_16 : decode cX7_readWord 16 = .ok (.if_icmp .ge 57, 3) := by decide +kernel
theorem dX7_readWord_19 : decode cX7_readWord 19 = .ok (.aload_n 0, 1) := by decide +kernel
theorem dX7_readWord_20 : decode cX7_readWord 20 = .ok (.getfield 28, 3) := by decide +kernel
theorem dX7_readWord_23 : decode cX7_readWord 23 = .ok (.aload_n 0, 1) := by decide +kernel
theorem dX7_readWord_24 : decode cX7_readWord 24 = .ok (.getfield 9, 3) := by decide +kernel
theorem dX7_readWord_27 : decode cX7_readWord 27 = .ok (.invokevirtual 38, 3) := by decide +kernel
theorem dX7_readWord_30 : decode cX7_readWord 30 = .ok (.invokestatic 44, 3) := by decide +kernel
theorem dX7_readWord_33 : decode cX7_readWord 33 = .ok (.ifCond .eq 40, 3) := by decide +kernel
theorem dX7_readWord_36 : decode cX7_readWord 36 = .ok (.aload_n 0, 1) := by decide +kernel
theorem dX7_readWord_37 : decode cX7_readWord 37 = .ok (.aload_n 0, 1) := by decide +kernel
theorem dX7_readWord_38 : decode cX7_readWord 38 = .ok (.getfield 24, 3) := by decide +kernel
theorem dX7_readWord_41 : decode cX7_readWord 41 = .ok (.bipush 8, 2) := by decide +kernel
theorem dX7_readWord_43 : decode cX7_readWord 43 = .ok (.lshl, 1) := by decide +kernel
theorem dX7_readWord_44 : decode cX7_readWord 44 = .ok (.aload_n 0, 1) := by decide +kernel
theorem dX7_readWord_45 : decode cX7_readWord 45 = .ok (.getfield 28, 3) := by decide +kernel
theorem dX7_readWord_48 : decode cX7_readWord 48 = .ok (.aload_n 0, 1) := by decide +kernel
theorem dX7_readWord_49 : decode cX7_readWord 49 = .ok (.getfield 9, 3) := by decide +kernel
theorem dX7_readWord_52 : decode cX7_readWord 52 = .ok (.invokevirtual 38, 3) := by decide +kernel
theorem dX7_readWord_55 : decode cX7_readWord 55 = .ok (.i2l, 1) := by decide +kernel
theorem dX7_readWord_56 : decode cX7_readWord 56 = .ok (.lor, 1) := by decide +kernel
theorem dX7_readWord_57 : decode cX7_readWord 57 = .ok (.putfield 24, 3) := by decide +kernel
theorem dX7_readWord_60 : decode cX7_readWord 60 = .ok (.aload_n 0, 1) := by decide +kernel
theorem dX7_readWord_61 : decode cX7_readWord 61 = .ok (.dup, 1) := by decide +kernel
theorem dX7_readWord_62 : decode cX7_readWord 62 = .ok (.getfield 9, 3) := by decide +kernel
theorem dX7_readWord_65 : decode cX7_readWord 65 = .ok (.iconst 1, 1) := by decide +kernel
theorem dX7_readWord_66 : decode cX7_readWord 66 = .ok (.iadd, 1) := by decide +kernel
theorem dX7_readWord_67 : decode cX7_readWord 67 = .ok (.putfield 9, 3) := by decide +kernel
theorem dX7_readWord_70 : decode cX7_readWord 70 = .ok (.goto (-65), 3) := by decide +kernel
theorem dX7_readWord_73 : decode cX7_readWord 73 = .ok (.aload_n 0, 1) := by decide +kernel
theorem dX7_readWord_74 : decode cX7_readWord 74 = .ok (.aload_n 0, 1) := by decide +kernel
theorem dX7_readWord_75 : decode cX7_readWord 75 = .ok (.getfield 9, 3) := by decide +kernel
theorem dX7_readWord_78 : decode cX7_readWord 78 = .ok (.aload_n 0, 1) := by decide +kernel
theorem dX7_readWord_79 : decode cX7_readWord 79 = .ok (.getfield 18, 3) := by decide +kernel
theorem dX7_readWord_82 : decode cX7_readWord 82 = .ok (.isub, 1) := by decide +kernel
theorem dX7_readWord_83 : decode cX7_readWord 83 = .ok (.bipush 8, 2) := by decide +kernel
theorem dX7_readWord_85 : decode cX7_readWord 85 = .ok (.if_icmp .le 8, 3) := by decide +kernel
theorem dX7_readWord_88 : decode cX7_readWord 88 = .ok (.bipush 22, 2) := by decide +kernel
theorem dX7_readWord_90 : decode cX7_readWord 90 = .ok (.goto 10, 3) := by decide +kernel
theorem dX7_readWord_93 : decode cX7_readWord 93 = .ok (.aload_n 0, 1) := by decide +kernel
theorem dX7_readWord_94 : decode cX7_readWord 94 = .ok (.getfield 24, 3) := by decide +kernel
theorem dX7_readWord_97 : decode cX7_readWord 97 = .ok (.invokestatic 68, 3) := by decide +kernel
theorem dX7_readWord_100 : decode cX7_readWord 100 = .ok (.putfield 15, 3) := by decide +kernel
theorem dX7_readWord_103 : decode cX7_readWord 103 = .ok (.return_, 1) := by decide +kernel
theorem dX7_readNumber_0 : decode cX7_readNumber 0 = .ok (.aload_n 0, 1) := by decide +kernel
theorem dX7_readNumber_1 : decode cX7_readNumber 1 = .ok (.iconst 0, 1) := by decide +kernel
theorem dX7_readNumber_2 : decode cX7_readNumber 2 = .ok (.putfield 21, 3) := by decide +kernel
theorem dX7_readNumber_5 : decode cX7_readNumber 5 = .ok (.aload_n 0, 1) := by decide +kernel
theorem dX7_readNumber_6 : decode cX7_readNumber 6 = .ok (.getfield 9, 3) := by decide +kernel
theorem dX7_readNumber_9 : decode cX7_readNumber 9 = .ok (.aload_n 0, 1) := by decide +kernel
theorem dX7_readNumber_10 : decode cX7_readNumber 10 = .ok (.getfield 28, 3) := by decide +kernel
theorem dX7_readNumber_13 : decode cX7_readNumber 13 = .ok (.invokevirtual 64, 3) := by decide +kernel
theorem dX7_readNumber_16 : decode cX7_readNumber 16 = .ok (.if_icmp .ge 59, 3) := by decide +kernel
theorem dX7_readNumber_19 : decode cX7_readNumber 19 = .ok (.aload_n 0, 1) := by decide +kernel
theorem dX7_readNumber_20 : decode cX7_readNumber 20 = .ok (.getfield 28, 3) := by decide +kernel
theorem dX7_readNumber_23 : decode cX7_readNumber 23 = .ok (.aload_n 0, 1) := by decide +kernel
theorem dX7_readNumber_24 : decode cX7_readNumber 24 = .ok (.getfield 9, 3) := by decide +kernel
theorem dX7_readNumber_27 : decode cX7_readNumber 27 = .ok (.invokevirtual 38, 3) := by decide +kernel
theorem dX7_readNumber_30 : decode cX7_readNumber 30 = .ok (.invokestatic 51, 3) := by decide +kernel
theorem dX7_readNumber_33 : decode cX7_readNumber 33 = .ok (.ifCond .eq 42, 3) := by decide +kernel
theorem dX7_readNumber_36 : decode cX7_readNumber 36 = .ok (.aload_n 0, 1) := by decide +kernel
theorem dX7_readNumber_37 : decode cX7_readNumber 37 = .ok (.aload_n 0, 1) := by decide +kernel
theorem dX7_readNumber_38 : decode cX7_readNumber 38 = .ok (.getfield 21, 3) := by decide +kernel
theorem dX7_readNumber_41 : decode cX7_readNumber 41 = .ok (.bipush 10, 2) := by decide +kernel
theorem dX7_readNumber_43 : decode cX7_readNumber 43 = .ok (.imul, 1) := by decide +kernel
theorem dX7_readNumber_44 : decode cX7_readNumber 44 = .ok (.aload_n 0, 1) := by decide +kernel
theorem dX7_readNumber_45 : decode cX7_readNumber 45 = .ok (.getfield 28, 3) := by decide +kernel
theorem dX7_readNumber_48 : decode cX7_readNumber 48 = .ok (.aload_n 0, 1) := by decide +kernel
theorem dX7_readNumber_49 : decode cX7_readNumber 49 = .ok (.getfield 9, 3) := by decide +kernel
theorem dX7_readNumber_52 : decode cX7_readNumber 52 = .ok (.invokevirtual 38, 3) := by decide +kernel
theorem dX7_readNumber_55 : decode cX7_readNumber 55 = .ok (.iadd, 1) := by decide +kernel
theorem dX7_readNumber_56 : decode cX7_readNumber 56 = .ok (.bipush 48, 2) := by decide +kernel
theorem dX7_readNumber_58 : decode cX7_readNumber 58 = .ok (.isub, 1) := by decide +kernel
theorem dX7_readNumber_59 : decode cX7_readNumber 59 = .ok (.putfield 21, 3) := by decide +kernel
theorem dX7_readNumber_62 : decode cX7_readNumber 62 = .ok (.aload_n 0, 1) := by decide +kernel
theorem dX7_readNumber_63 : decode cX7_readNumber 63 = .ok (.dup, 1) := by decide +kernel
theorem dX7_readNumber_64 : decode cX7_readNumber 64 = .ok (.getfield 9, 3) := by decide +kernel
theorem dX7_readNumber_67 : decode cX7_readNumber 67 = .ok (.iconst 1, 1) := by decide +kernel
theorem dX7_readNumber_68 : decode cX7_readNumber 68 = .ok (.iadd, 1) := by decide +kernel
theorem dX7_readNumber_69 : decode cX7_readNumber 69 = .ok (.putfield 9, 3) := by decide +kernel
theorem dX7_readNumber_72 : decode cX7_readNumber 72 = .ok (.goto (-67), 3) := by decide +kernel
theorem dX7_readNumber_75 : decode cX7_readNumber 75 = .ok (.aload_n 0, 1) := by decide +kernel
theorem dX7_readNumber_76 : decode cX7_readNumber 76 = .ok (.getfield 9, 3) := by decide +kernel
theorem dX7_readNumber_79 : decode cX7_readNumber 79 = .ok (.aload_n 0, 1) := by decide +kernel
theorem dX7_readNumber_80 : decode cX7_readNumber 80 = .ok (.getfield 18, 3) := by decide +kernel
theorem dX7_readNumber_83 : decode cX7_readNumber 83 = .ok (.isub, 1) := by decide +kernel
theorem dX7_readNumber_84 : decode cX7_readNumber 84 = .ok (.iconst 4, 1) := by decide +kernel
theorem dX7_readNumber_85 : decode cX7_readNumber 85 = .ok (.if_icmp .le 7, 3) := by decide +kernel
theorem dX7_readNumber_88 : decode cX7_readNumber 88 = .ok (.iconst 1, 1) := by decide +kernel
theorem dX7_readNumber_89 : decode cX7_readNumber 89 = .ok (.goto 4, 3) := by decide +kernel
theorem dX7_readNumber_92 : decode cX7_readNumber 92 = .ok (.iconst 0, 1) := by decide +kernel
theorem dX7_readNumber_93 : decode cX7_readNumber 93 = .ok (.istore_n 1, 1) := by decide +kernel
theorem dX7_readNumber_94 : decode cX7_readNumber 94 = .ok (.aload_n 0, 1) := by decide +kernel
theorem dX7_readNumber_95 : decode cX7_readNumber 95 = .ok (.iload_n 1, 1) := by decide +kernel
theorem dX7_readNumber_96 : decode cX7_readNumber 96 = .ok (.ifCond .ne 20, 3) := by decide +kernel
theorem dX7_readNumber_99 : decode cX7_readNumber 99 = .ok (.aload_n 0, 1) := by decide +kernel
theorem dX7_readNumber_100 : decode cX7_readNumber 100 = .ok (.getfield 28, 3) := by decide +kernel
theorem dX7_readNumber_103 : decode cX7_readNumber 103 = .ok (.aload_n 0, 1) := by decide +kernel
theorem dX7_readNumber_104 : decode cX7_readNumber 104 = .ok (.getfield 9, 3) := by decide +kernel
theorem dX7_readNumber_107 : decode cX7_readNumber 107 = .ok (.invokevirtual 38, 3) := by decide +kernel
theorem dX7_readNumber_110 : decode cX7_readNumber 110 = .ok (.invokestatic 44, 3) := by decide +kernel
theorem dX7_readNumber_113 : decode cX7_readNumber 113 = .ok (.ifCond .eq 8, 3) := by decide +kernel
theorem dX7_readNumber_116 : decode cX7_readNumber 116 = .ok (.bipush 22, 2) := by decide +kernel
theorem dX7_readNumber_118 : decode cX7_readNumber 118 = .ok (.goto 5, 3) := by decide +kernel
theorem dX7_readNumber_121 : decode cX7_readNumber 121 = .ok (.bipush 20, 2) := by decide +kernel
theorem dX7_readNumber_123 : decode cX7_readNumber 123 = .ok (.putfield 15, 3) := by decide +kernel
theorem dX7_readNumber_126 : decode cX7_readNumber 126 = .ok (.return_, 1) := by decide +kernel
theorem dX7_kindOf_0 : decode cX7_kindOf 0 = .ok (.iconst 0, 1) := by decide +kernel
theorem dX7_kindOf_1 : decode cX7_kindOf 1 = .ok (.istore_n 2, 1) := by decide +kernel
theorem dX7_kindOf_2 : decode cX7_kindOf 2 = .ok (.iload_n 2, 1) := by decide +kernel
theorem dX7_kindOf_3 : decode cX7_kindOf 3 = .ok (.getstatic 72, 3) := by decide +kernel
theorem dX7_kindOf_6 : decode cX7_kindOf 6 = .ok (.arraylength, 1) := by decide +kernel
theorem dX7_kindOf_7 : decode cX7_kindOf 7 = .ok (.if_icmp .ge 21, 3) := by decide +kernel
theorem dX7_kindOf_10 : decode cX7_kindOf 10 = .ok (.getstatic 72, 3) := by decide +kernel
theorem dX7_kindOf_13 : decode cX7_kindOf 13 = .ok (.iload_n 2, 1) := by decide +kernel
theorem dX7_kindOf_14 : decode cX7_kindOf 14 = .ok (.laload, 1) := by decide +kernel
theorem dX7_kindOf_15 : decode cX7_kindOf 15 = .ok (.lload_n 0, 1) := by decide +kernel
theorem dX7_kindOf_16 : decode cX7_kindOf 16 = .ok (.lcmp, 1) := by decide +kernel
theorem dX7_kindOf_17 : decode cX7_kindOf 17 = .ok (.ifCond .ne 5, 3) := by decide +kernel
theorem dX7_kindOf_20 : decode cX7_kindOf 20 = .ok (.iload_n 2, 1) := by decide +kernel
theorem dX7_kindOf_21 : decode cX7_kindOf 21 = .ok (.ireturn, 1) := by decide +kernel
theorem dX7_kindOf_22 : decode cX7_kindOf 22 = .ok (.iinc 2 1, 3) := by decide +kernel
theorem dX7_kindOf_25 : decode cX7_kindOf 25 = .ok (.goto (-23), 3) := by decide +kernel
theorem dX7_kindOf_28 : decode cX7_kindOf 28 = .ok (.bipush 19, 2) := by decide +kernel
theorem dX7_kindOf_30 : decode cX7_kindOf 30 = .ok (.ireturn, 1) := by decide +kernel
theorem dX7_isLetter_0 : decode cX7_isLetter 0 = .ok (.iload_n 0, 1) := by decide +kernel
theorem dX7_isLetter_1 : decode cX7_isLetter 1 = .ok (.bipush 97, 2) := by decide +kernel
theorem dX7_isLetter_3 : decode cX7_isLetter 3 = .ok (.if_icmp .lt 13, 3) := by decide +kernel
theorem dX7_isLetter_6 : decode cX7_isLetter 6 = .ok (.iload_n 0, 1) := by decide +kernel
theorem dX7_isLetter_7 : decode cX7_isLetter 7 = .ok (.bipush 122, 2) := by decide +kernel
theorem dX7_isLetter_9 : decode cX7_isLetter 9 = .ok (.if_icmp .gt 7, 3) := by decide +kernel
theorem dX7_isLetter_12 : decode cX7_isLetter 12 = .ok (.iconst 1, 1) := by decide +kernel
theorem dX7_isLetter_13 : decode cX7_isLetter 13 = .ok (.goto 4, 3) := by decide +kernel
theorem dX7_isLetter_16 : decode cX7_isLetter 16 = .ok (.iconst 0, 1) := by decide +kernel
theorem dX7_isLetter_17 : decode cX7_isLetter 17 = .ok (.ireturn, 1) := by decide +kernel
theorem dX7_isDigit_0 : decode cX7_isDigit 0 = .ok (.iload_n 0, 1) := by decide +kernel
theorem dX7_isDigit_1 : decode cX7_isDigit 1 = .ok (.bipush 48, 2) := by decide +kernel
theorem dX7_isDigit_3 : decode cX7_isDigit 3 = .ok (.if_icmp .lt 13, 3) := by decide +kernel
theorem dX7_isDigit_6 : decode cX7_isDigit 6 = .ok (.iload_n 0, 1) := by decide +kernel
theorem dX7_isDigit_7 : decode cX7_isDigit 7 = .ok (.bipush 57, 2) := by decide +kernel
theorem dX7_isDigit_9 : decode cX7_isDigit 9 = .ok (.if_icmp .gt 7, 3) := by decide +kernel
theorem dX7_isDigit_12 : decode cX7_isDigit 12 = .ok (.iconst 1, 1) := by decide +kernel
theorem dX7_isDigit_13 : decode cX7_isDigit 13 = .ok (.goto 4, 3) := by decide +kernel
theorem dX7_isDigit_16 : decode cX7_isDigit 16 = .ok (.iconst 0, 1) := by decide +kernel
theorem dX7_isDigit_17 : decode cX7_isDigit 17 = .ok (.ireturn, 1) := by decide +kernel
theorem dX8_init_0 : decode cX8_init 0 = .ok (.aload_n 0, 1) := by decide +kernel
theorem dX8_init_1 : decode cX8_init 1 = .ok (.invokespecial 3, 3) := by decide +kernel
theorem dX8_init_4 : decode cX8_init 4 = .ok (.aload_n 0, 1) := by decide +kernel
theorem dX8_init_5 : decode cX8_init 5 = .ok (.bipush 8, 2) := by decide +kernel
theorem dX8_init_7 : decode cX8_init 7 = .ok (.newarray .long, 2) := by decide +kernel
theorem dX8_init_9 : decode cX8_init 9 = .ok (.putfield 9, 3) := by decide +kernel
theorem dX8_init_12 : decode cX8_init 12 = .ok (.aload_n 0, 1) := by decide +kernel
theorem dX8_init_13 : decode cX8_init 13 = .ok (.iconst 5, 1) := by decide +kernel
theorem dX8_init_14 : decode cX8_init 14 = .ok (.newarray .long, 2) := by decide +kernel
theorem dX8_init_16 : decode cX8_init 16 = .ok (.putfield 15, 3) := by decide +kernel
theorem dX8_init_19 : decode cX8_init 19 = .ok (.aload_n 0, 1) := by decide +kernel
theorem dX8_init_20 : decode cX8_init 20 = .ok (.iconst 5, 1) := by decide +kernel
theorem dX8_init_21 : decode cX8_init 21 = .ok (.newarray .int, 2) := by decide +kernel
theorem dX8_init_23 : decode cX8_init 23 = .ok (.putfield 18, 3) := by decide +kernel
theorem dX8_init_26 : decode cX8_init 26 = .ok (.aload_n 0, 1) := by decide +kernel
theorem dX8_init_27 : decode cX8_init 27 = .ok (.iconst 5, 1) := by decide +kernel
theorem dX8_init_28 : decode cX8_init 28 = .ok (.newarray .int, 2) := by decide +kernel
theorem dX8_init_30 : decode cX8_init 30 = .ok (.putfield 22, 3) := by decide +kernel
theorem dX8_init_33 : decode cX8_init 33 = .ok (.aload_n 0, 1) := by decide +kernel
theorem dX8_init_34 : decode cX8_init 34 = .ok (.iconst 5, 1) := by decide +kernel
theorem dX8_init_35 : decode cX8_init 35 = .ok (.newarray .int, 2) := by decide +kernel
theorem dX8_init_37 : decode cX8_init 37 = .ok (.putfield 25, 3) := by decide +kernel
theorem dX8_init_40 : decode cX8_init 40 = .ok (.aload_n 0, 1) := by decide +kernel
theorem dX8_init_41 : decode cX8_init 41 = .ok (.bipush 40, 2) := by decide +kernel
theorem dX8_init_43 : decode cX8_init 43 = .ok (.newarray .int, 2) := by decide +kernel
theorem dX8_init_45 : decode cX8_init 45 = .ok (.putfield 28, 3) := by decide +kernel
theorem dX8_init_48 : decode cX8_init 48 = .ok (.aload_n 0, 1) := by decide +kernel
theorem dX8_init_49 : decode cX8_init 49 = .ok (.bipush 16, 2) := by decide +kernel
theorem dX8_init_51 : decode cX8_init 51 = .ok (.newarray .int, 2) := by decide +kernel
theorem dX8_init_53 : decode cX8_init 53 = .ok (.putfield 31, 3) := by decide +kernel
theorem dX8_init_56 : decode cX8_init 56 = .ok (.aload_n 0, 1) := by decide +kernel
theorem dX8_init_57 : decode cX8_init 57 = .ok (.bipush 16, 2) := by decide +kernel
theorem dX8_init_59 : decode cX8_init 59 = .ok (.newarray .int, 2) := by decide +kernel
theorem dX8_init_61 : decode cX8_init 61 = .ok (.putfield 34, 3) := by decide +kernel
theorem dX8_init_64 : decode cX8_init 64 = .ok (.aload_n 0, 1) := by decide +kernel
theorem dX8_init_65 : decode cX8_init 65 = .ok (.bipush 16, 2) := by decide +kernel
theorem dX8_init_67 : decode cX8_init 67 = .ok (.newarray .int, 2) := by decide +kernel
theorem dX8_init_69 : decode cX8_init 69 = .ok (.putfield 37, 3) := by decide +kernel
theorem dX8_init_72 : decode cX8_init 72 = .ok (.aload_n 0, 1) := by decide +kernel
theorem dX8_init_73 : decode cX8_init 73 = .ok (.bipush 16, 2) := by decide +kernel
theorem dX8_init_75 : decode cX8_init 75 = .ok (.newarray .int, 2) := by decide +kernel
theorem dX8_init_77 : decode cX8_init 77 = .ok (.putfield 40, 3) := by decide +kernel
theorem dX8_init_80 : decode cX8_init 80 = .ok (.aload_n 0, 1) := by decide +kernel
theorem dX8_init_81 : decode cX8_init 81 = .ok (.bipush 16, 2) := by decide +kernel
theorem dX8_init_83 : decode cX8_init 83 = .ok (.newarray .int, 2) := by decide +kernel
theorem dX8_init_85 : decode cX8_init 85 = .ok (.putfield 43, 3) := by decide +kernel
theorem dX8_init_88 : decode cX8_init 88 = .ok (.aload_n 0, 1) := by decide +kernel
theorem dX8_init_89 : decode cX8_init 89 = .ok (.new 46, 3) := by decide +kernel
theorem dX8_init_92 : decode cX8_init 92 = .ok (.dup, 1) := by decide +kernel
theorem dX8_init_93 : decode cX8_init 93 = .ok (.invokespecial 48, 3) := by decide +kernel
theorem dX8_init_96 : decode cX8_init 96 = .ok (.putfield 49, 3) := by decide +kernel
theorem dX8_init_99 : decode cX8_init 99 = .ok (.aload_n 0, 1) := by decide +kernel
theorem dX8_init_100 : decode cX8_init 100 = .ok (.iconst 0, 1) := by decide +kernel
theorem dX8_init_101 : decode cX8_init 101 = .ok (.putfield 53, 3) := by decide +kernel
theorem dX8_init_104 : decode cX8_init 104 = .ok (.aload_n 0, 1) := by decide +kernel
theorem dX8_init_105 : decode cX8_init 105 = .ok (.iconst 0, 1) := by decide +kernel
theorem dX8_init_106 : decode cX8_init 106 = .ok (.putfield 57, 3) := by decide +kernel
theorem dX8_init_109 : decode cX8_init 109 = .ok (.aload_n 0, 1) := by decide +kernel
theorem dX8_init_110 : decode cX8_init 110 = .ok (.iconst 0, 1) := by decide +kernel
theorem dX8_init_111 : decode cX8_init 111 = .ok (.putfield 60, 3) := by decide +kernel
theorem dX8_init_114 : decode cX8_init 114 = .ok (.aload_n 0, 1) := by decide +kernel
theorem dX8_init_115 : decode cX8_init 115 = .ok (.iconst 0, 1) := by decide +kernel
theorem dX8_init_116 : decode cX8_init 116 = .ok (.putfield 63, 3) := by decide +kernel
theorem dX8_init_119 : decode cX8_init 119 = .ok (.aload_n 0, 1) := by decide +kernel
theorem dX8_init_120 : decode cX8_init 120 = .ok (.bipush 9, 2) := by decide +kernel
theorem dX8_init_122 : decode cX8_init 122 = .ok (.putfield 66, 3) := by decide +kernel
theorem dX8_init_125 : decode cX8_init 125 = .ok (.aload_n 0, 1) := by decide +kernel
theorem dX8_init_126 : decode cX8_init 126 = .ok (.iconst 0, 1) := by decide +kernel
theorem dX8_init_127 : decode cX8_init 127 = .ok (.putfield 69, 3) := by decide +kernel
theorem dX8_init_130 : decode cX8_init 130 = .ok (.return_, 1) := by decide +kernel
theorem dX8_clear_0 : decode cX8_clear 0 = .ok (.aload_n 0, 1) := by decide +kernel
theorem dX8_clear_1 : decode cX8_clear 1 = .ok (.iconst 0, 1) := by decide +kernel
theorem dX8_clear_2 : decode cX8_clear 2 = .ok (.putfield 53, 3) := by decide +kernel
theorem dX8_clear_5 : decode cX8_clear 5 = .ok (.aload_n 0, 1) := by decide +kernel
theorem dX8_clear_6 : decode cX8_clear 6 = .ok (.iconst 0, 1) := by decide +kernel
theorem dX8_clear_7 : decode cX8_clear 7 = .ok (.putfield 57, 3) := by decide +kernel
theorem dX8_clear_10 : decode cX8_clear 10 = .ok (.aload_n 0, 1) := by decide +kernel
theorem dX8_clear_11 : decode cX8_clear 11 = .ok (.iconst 0, 1) := by decide +kernel
theorem dX8_clear_12 : decode cX8_clear 12 = .ok (.putfield 60, 3) := by decide +kernel
theorem dX8_clear_15 : decode cX8_clear 15 = .ok (.aload_n 0, 1) := by decide +kernel
theorem dX8_clear_16 : decode cX8_clear 16 = .ok (.iconst 0, 1) := by decide +kernel
theorem dX8_clear_17 : decode cX8_clear 17 = .ok (.putfield 63, 3) := by decide +kernel
theorem dX8_clear_20 : decode cX8_clear 20 = .ok (.aload_n 0, 1) := by decide +kernel
theorem dX8_clear_21 : decode cX8_clear 21 = .ok (.bipush 9, 2) := by decide +kernel
theorem dX8_clear_23 : decode cX8_clear 23 = .ok (.putfield 66, 3) := by decide +kernel
theorem dX8_clear_26 : decode cX8_clear 26 = .ok (.aload_n 0, 1) := by decide +kernel
theorem dX8_clear_27 : decode cX8_clear 27 = .ok (.iconst 0, 1) := by decide +kernel
theorem dX8_clear_28 : decode cX8_clear 28 = .ok (.putfield 69, 3) := by decide +kernel
theorem dX8_clear_31 : decode cX8_clear 31 = .ok (.aload_n 0, 1) := by decide +kernel
theorem dX8_clear_32 : decode cX8_clear 32 = .ok (.getfield 49, 3) := by decide +kernel
theorem dX8_clear_35 : decode cX8_clear 35 = .ok (.invokevirtual 72, 3) := by decide +kernel
theorem dX8_clear_38 : decode cX8_clear 38 = .ok (.aload_n 0, 1) := by decide +kernel
theorem dX8_clear_39 : decode cX8_clear 39 = .ok (.getfield 28, 3) := by decide +kernel
theorem dX8_clear_42 : decode cX8_clear 42 = .ok (.iconst (-1), 1) := by decide +kernel
theorem dX8_clear_43 : decode cX8_clear 43 = .ok (.invokestatic 75, 3) := by decide +kernel
theorem dX8_clear_46 : decode cX8_clear 46 = .ok (.return_, 1) := by decide +kernel
theorem dX8_hasFigure_0 : decode cX8_hasFigure 0 = .ok (.iload_n 1, 1) := by decide +kernel
theorem dX8_hasFigure_1 : decode cX8_hasFigure 1 = .ok (.ifCond .lt 15, 3) := by decide +kernel
theorem dX8_hasFigure_4 : decode cX8_hasFigure 4 = .ok (.iload_n 1, 1) := by decide +kernel
theorem dX8_hasFigure_5 : decode cX8_hasFigure 5 = .ok (.aload_n 0, 1) := by decide +kernel
theorem dX8_hasFigure_6 : decode cX8_hasFigure 6 = .ok (.getfield 53, 3) := by decide +kernel
theorem dX8_hasFigure_9 : decode cX8_hasFigure 9 = .ok (.if_icmp .ge 7, 3) := by decide +kernel
theorem dX8_hasFigure_12 : decode cX8_hasFigure 12 = .ok (.iconst 1, 1) := by decide +kernel
theorem dX8_hasFigure_13 : decode cX8_hasFigure 13 = .ok (.goto 4, 3) := by decide +kernel
theorem dX8_hasFigure_16 : decode cX8_hasFigure 16 = .ok (.iconst 0, 1) := by decide +kernel
theorem dX8_hasFigure_17 : decode cX8_hasFigure 17 = .ok (.ireturn, 1) := by decide +kernel
theorem dX8_hasTribe_0 : decode cX8_hasTribe 0 = .ok (.iload_n 1, 1) := by decide +kernel
theorem dX8_hasTribe_1 : decode cX8_hasTribe 1 = .ok (.ifCond .lt 15, 3) := by decide +kernel
theorem dX8_hasTribe_4 : decode cX8_hasTribe 4 = .ok (.iload_n 1, 1) := by decide +kernel
theorem dX8_hasTribe_5 : decode cX8_hasTribe 5 = .ok (.aload_n 0, 1) := by decide +kernel
theorem dX8_hasTribe_6 : decode cX8_hasTribe 6 = .ok (.getfield 57, 3) := by decide +kernel
theorem dX8_hasTribe_9 : decode cX8_hasTribe 9 = .ok (.if_icmp .ge 7, 3) := by decide +kernel
theorem dX8_hasTribe_12 : decode cX8_hasTribe 12 = .ok (.iconst 1, 1) := by decide +kernel
theorem dX8_hasTribe_13 : decode cX8_hasTribe 13 = .ok (.goto 4, 3) := by decide +kernel
theorem dX8_hasTribe_16 : decode cX8_hasTribe 16 = .ok (.iconst 0, 1) := by decide +kernel
theorem dX8_hasTribe_17 : decode cX8_hasTribe 17 = .ok (.ireturn, 1) := by decide +kernel
theorem dX8_hasMove_0 : decode cX8_hasMove 0 = .ok (.iload_n 1, 1) := by decide +kernel
theorem dX8_hasMove_1 : decode cX8_hasMove 1 = .ok (.ifCond .lt 15, 3) := by decide +kernel
theorem dX8_hasMove_4 : decode cX8_hasMove 4 = .ok (.iload_n 1, 1) := by decide +kernel
theorem dX8_hasMove_5 : decode cX8_hasMove 5 = .ok (.aload_n 0, 1) := by decide +kernel
theorem dX8_hasMove_6 : decode cX8_hasMove 6 = .ok (.getfield 60, 3) := by decide +kernel
theorem dX8_hasMove_9 : decode cX8_hasMove 9 = .ok (.if_icmp .ge 7, 3) := by decide +kernel
theorem dX8_hasMove_12 : decode cX8_hasMove 12 = .ok (.iconst 1, 1) := by decide +kernel
theorem dX8_hasMove_13 : decode cX8_hasMove 13 = .ok (.goto 4, 3) := by decide +kernel
theorem dX8_hasMove_16 : decode cX8_hasMove 16 = .ok (.iconst 0, 1) := by decide +kernel
theorem dX8_hasMove_17 : decode cX8_hasMove 17 = .ok (.ireturn, 1) := by decide +kernel
theorem dX8_figureNamed_0 : decode cX8_figureNamed 0 = .ok (.iconst 0, 1) := by decide +kernel
theorem dX8_figureNamed_1 : decode cX8_figureNamed 1 = .ok (.istore_n 3, 1) := by decide +kernel
theorem dX8_figureNamed_2 : decode cX8_figureNamed 2 = .ok (.iload_n 3, 1) := by decide +kernel
theorem dX8_figureNamed_3 : decode cX8_figureNamed 3 = .ok (.aload_n 0, 1) := by decide +kernel
theorem dX8_figureNamed_4 : decode cX8_figureNamed 4 = .ok (.getfield 53, 3) := by decide +kernel
theorem dX8_figureNamed_7 : decode cX8_figureNamed 7 = .ok (.if_icmp .ge 22, 3) := by decide +kernel
theorem dX8_figureNamed_10 : decode cX8_figureNamed 10 = .ok (.aload_n 0, 1) := by decide +kernel
theorem dX8_figureNamed_11 : decode cX8_figureNamed 11 = .ok (.getfield 9, 3) := by decide +kernel
theorem dX8_figureNamed_14 : decode cX8_figureNamed 14 = .ok (.iload_n 3, 1) := by decide +kernel
theorem dX8_figureNamed_15 : decode cX8_figureNamed 15 = .ok (.laload, 1) := by decide +kernel
theorem dX8_figureNamed_16 : decode cX8_figureNamed 16 = .ok (.lload_n 1, 1) := by decide +kernel
theorem dX8_figureNamed_17 : decode cX8_figureNamed 17 = .ok (.lcmp, 1) := by decide +kernel
theorem dX8_figureNamed_18 : decode cX8_figureNamed 18 = .ok (.ifCond .ne 5, 3) := by decide +kernel
theorem dX8_figureNamed_21 : decode cX8_figureNamed 21 = .ok (.iload_n 3, 1) := by decide +kernel
theorem dX8_figureNamed_22 : decode cX8_figureNamed 22 = .ok (.ireturn, 1) := by decide +kernel
theorem dX8_figureNamed_23 : decode cX8_figureNamed 23 = .ok (.iinc 3 1, 3) := by decide +kernel
theorem dX8_figureNamed_26 : decode cX8_figureNamed 26 = .ok (.goto (-24), 3) := by decide +kernel
theorem dX8_figureNamed_29 : decode cX8_figureNamed 29 = .ok (.iconst (-1), 1) := by decide +kernel
theorem dX8_figureNamed_30 : decode cX8_figureNamed 30 = .ok (.ireturn, 1) := by decide +kernel
theorem dX8_tribeNamed_0 : decode cX8_tribeNamed 0 = .ok (.iconst 0, 1) := by decide +kernel
theorem dX8_tribeNamed_1 : decode cX8_tribeNamed 1 = .ok (.istore_n 3, 1) := by decide +kernel
theorem dX8_tribeNamed_2 : decode cX8_tribeNamed 2 = .ok (.iload_n 3, 1) := by decide +kernel
theorem dX8_tribeNamed_3 : decode cX8_tribeNamed 3 = .ok (.aload_n 0, 1) := by decide +kernel
theorem dX8_tribeNamed_4 : decode cX8_tribeNamed 4 = .ok (.getfield 57, 3) := by decide +kernel
theorem dX8_tribeNamed_7 : decode cX8_tribeNamed 7 = .ok (.if_icmp .ge 22, 3) := by decide +kernel
theorem dX8_tribeNamed_10 : decode cX8_tribeNamed 10 = .ok (.aload_n 0, 1) := by decide +kernel
theorem dX8_tribeNamed_11 : decode cX8_tribeNamed 11 = .ok (.getfield 15, 3) := by decide +kernel
theorem dX8_tribeNamed_14 : decode cX8_tribeNamed 14 = .ok (.iload_n 3, 1) := by decide +kernel
theorem dX8_tribeNamed_15 : decode cX8_tribeNamed 15 = .ok (.laload, 1) := by decide +kernel
theorem dX8_tribeNamed_16 : decode cX8_tribeNamed 16 = .ok (.lload_n 1, 1) := by decide +kernel
theorem dX8_tribeNamed_17 : decode cX8_tribeNamed 17 = .ok (.lcmp, 1) := by decide +kernel
theorem dX8_tribeNamed_18 : decode cX8_tribeNamed 18 = .ok (.ifCond .ne 5, 3) := by decide +kernel
theorem dX8_tribeNamed_21 : decode cX8_tribeNamed 21 = .ok (.iload_n 3, 1) := by decide +kernel
theorem dX8_tribeNamed_22 : decode cX8_tribeNamed 22 = .ok (.ireturn, 1) := by decide +kernel
theorem dX8_tribeNamed_23 : decode cX8_tribeNamed 23 = .ok (.iinc 3 1, 3) := by decide +kernel
theorem dX8_tribeNamed_26 : decode cX8_tribeNamed 26 = .ok (.goto (-24), 3) := by decide +kernel
theorem dX8_tribeNamed_29 : decode cX8_tribeNamed 29 = .ok (.iconst (-1), 1) := by decide +kernel
theorem dX8_tribeNamed_30 : decode cX8_tribeNamed 30 = .ok (.ireturn, 1) := by decide +kernel
theorem dX8_addFigure_0 : decode cX8_addFigure 0 = .ok (.aload_n 0, 1) := by decide +kernel
theorem dX8_addFigure_1 : decode cX8_addFigure 1 = .ok (.getfield 53, 3) := by decide +kernel
theorem dX8_addFigure_4 : decode cX8_addFigure 4 = .ok (.bipush 8, 2) := by decide +kernel
theorem dX8_addFigure_6 : decode cX8_addFigure 6 = .ok (.if_icmp .ge 23, 3) := by decide +kernel
theorem dX8_addFigure_9 : decode cX8_addFigure 9 = .ok (.aload_n 0, 1) := by decide +kernel
theorem dX8_addFigure_10 : decode cX8_addFigure 10 = .ok (.getfield 9, 3) := by decide +kernel
theorem dX8_addFigure_13 : decode cX8_addFigure 13 = .ok (.aload_n 0, 1) := by decide +kernel
theorem dX8_addFigure_14 : decode cX8_addFigure 14 = .ok (.getfield 53, 3) := by decide +kernel
theorem dX8_addFigure_17 : decode cX8_addFigure 17 = .ok (.lload_n 1, 1) := by decide +kernel
theorem dX8_addFigure_18 : decode cX8_addFigure 18 = .ok (.lastore, 1) := by decide +kernel
theorem dX8_addFigure_19 : decode cX8_addFigure 19 = .ok (.aload_n 0, 1) := by decide +kernel
theorem dX8_addFigure_20 : decode cX8_addFigure 20 = .ok (.dup, 1) := by decide +kernel
theorem dX8_addFigure_21 : decode cX8_addFigure 21 = .ok (.getfield 53, 3) := by decide +kernel
theorem dX8_addFigure_24 : decode cX8_addFigure 24 = .ok (.iconst 1, 1) := by decide +kernel
theorem dX8_addFigure_25 : decode cX8_addFigure 25 = .ok (.iadd, 1) := by decide +kernel
theorem dX8_addFigure_26 : decode cX8_addFigure 26 = .ok (.putfield 53, 3) := by decide +kernel
theorem dX8_addFigure_29 : decode cX8_addFigure 29 = .ok (.return_, 1) := by decide +kernel
theorem dX8_addTribe_0 : decode cX8_addTribe 0 = .ok (.aload_n 0, 1) := by decide +kernel
theorem dX8_addTribe_1 : decode cX8_addTribe 1 = .ok (.getfield 57, 3) := by decide +kernel
theorem dX8_addTribe_4 : decode cX8_addTribe 4 = .ok (.iconst 5, 1) := by decide +kernel
theorem dX8_addTribe_5 : decode cX8_addTribe 5 = .ok (.if_icmp .ge 68, 3) := by decide +kernel
theorem dX8_addTribe_8 : decode cX8_addTribe 8 = .ok (.aload_n 0, 1) := by decide +kernel
theorem dX8_addTribe_9 : decode cX8_addTribe 9 = .ok (.getfield 15, 3) := by decide +kernel
theorem dX8_addTribe_12 : decode cX8_addTribe 12 = .ok (.aload_n 0, 1) := by decide +kernel
theorem dX8_addTribe_13 : decode cX8_addTribe 13 = .ok (.getfield 57, 3) := by decide +kernel
theorem dX8_addTribe_16 : decode cX8_addTribe 16 = .ok (.lload_n 1, 1) := by decide +kernel
theorem dX8_addTribe_17 : decode cX8_addTribe 17 = .ok (.lastore, 1) := by decide +kernel
theorem dX8_addTribe_18 : decode cX8_addTribe 18 = .ok (.aload_n 0, 1) := by decide +kernel
theorem dX8_addTribe_19 : decode cX8_addTribe 19 = .ok (.getfield 18, 3) := by decide +kernel
theorem dX8_addTribe_22 : decode cX8_addTribe 22 = .ok (.aload_n 0, 1) := by decide +kernel
theorem dX8_addTribe_23 : decode cX8_addTribe 23 = .ok (.getfield 57, 3) := by decide +kernel
theorem dX8_addTribe_26 : decode cX8_addTribe 26 = .ok (.iload_n 3, 1) := by decide +kernel
theorem dX8_addTribe_27 : decode cX8_addTribe 27 = .ok (.iastore, 1) := by decide +kernel
theorem dX8_addTribe_28 : decode cX8_addTribe 28 = .ok (.aload_n 0, 1) := by decide +kernel
theorem dX8_addTribe_29 : decode cX8_addTribe 29 = .ok (.getfield 22, 3) := by decide +kernel
theorem dX8_addTribe_32 : decode cX8_addTribe 32 = .ok (.aload_n 0, 1) := by decide +kernel
theorem dX8_addTribe_33 : decode cX8_addTribe 33 = .ok (.getfield 57, 3) := by decide +kernel
theorem dX8_addTribe_36 : decode cX8_addTribe 36 = .ok (.iload 4, 2) := by decide +kernel
theorem dX8_addTribe_38 : decode cX8_addTribe 38 = .ok (.iastore, 1) := by decide +kernel
theorem dX8_addTribe_39 : decode cX8_addTribe 39 = .ok (.aload_n 0, 1) := by decide +kernel
theorem dX8_addTribe_40 : decode cX8_addTribe 40 = .ok (.dup, 1) := by decide +kernel
theorem dX8_addTribe_41 : decode cX8_addTribe 41 = .ok (.getfield 63, 3) := by decide +kernel
theorem dX8_addTribe_44 : decode cX8_addTribe 44 = .ok (.iload 5, 2) := by decide +kernel
theorem dX8_addTribe_46 : decode cX8_addTribe 46 = .ok (.ifCond .eq 12, 3) := by decide +kernel
theorem dX8_addTribe_49 : decode cX8_addTribe 49 = .ok (.iconst 1, 1) := by decide +kernel
theorem dX8_addTribe_50 : decode cX8_addTribe 50 = .ok (.aload_n 0, 1) := by decide +kernel
theorem dX8_addTribe_51 : decode cX8_addTribe 51 = .ok (.getfield 57, 3) := by decide +kernel
theorem dX8_addTribe_54 : decode cX8_addTribe 54 = .ok (.ishl, 1) := by decide +kernel
theorem dX8_addTribe_55 : decode cX8_addTribe 55 = .ok (.goto 4, 3) := by decide +kernel
theorem dX8_addTribe_58 : decode cX8_addTribe 58 = .ok (.iconst 0, 1) := by decide +kernel
theorem dX8_addTribe_59 : decode cX8_addTribe 59 = .ok (.ior, 1) := by decide +kernel
theorem dX8_addTribe_60 : decode cX8_addTribe 60 = .ok (.putfield 63, 3) := by decide +kernel
theorem dX8_addTribe_63 : decode cX8_addTribe 63 = .ok (.aload_n 0, 1) := by decide +kernel
theorem dX8_addTribe_64 : decode cX8_addTribe 64 = .ok (.dup, 1) := by decide +kernel
theorem dX8_addTribe_65 : decode cX8_addTribe 65 = .ok (.getfield 57, 3) := by decide +kernel
theorem dX8_addTribe_68 : decode cX8_addTribe 68 = .ok (.iconst 1, 1) := by decide +kernel
theorem dX8_addTribe_69 : decode cX8_addTribe 69 = .ok (.iadd, 1) := by decide +kernel
theorem dX8_addTribe_70 : decode cX8_addTribe 70 = .ok (.putfield 57, 3) := by decide +kernel
theorem dX8_addTribe_73 : decode cX8_addTribe 73 = .ok (.return_, 1) := by decide +kernel
theorem dX8_addMove_0 : decode cX8_addMove 0 = .ok (.aload_n 0, 1) := by decide +kernel
theorem dX8_addMove_1 : decode cX8_addMove 1 = .ok (.getfield 60, 3) := by decide +kernel
theorem dX8_addMove_4 : decode cX8_addMove 4 = .ok (.bipush 16, 2) := by decide +kernel
theorem dX8_addMove_6 : decode cX8_addMove 6 = .ok (.if_icmp .ge 65, 3) := by decide +kernel
theorem dX8_addMove_9 : decode cX8_addMove 9 = .ok (.aload_n 0, 1) := by decide +kernel
theorem dX8_addMove_10 : decode cX8_addMove 10 = .ok (.getfield 31, 3) := by decide +kernel
theorem dX8_addMove_13 : decode cX8_addMove 13 = .ok (.aload_n 0, 1) := by decide +kernel
theorem dX8_addMove_14 : decode cX8_addMove 14 = .ok (.getfield 60, 3) := by decide +kernel
theorem dX8_addMove_17 : decode cX8_addMove 17 = .ok (.iload_n 1, 1) := by decide +kernel
theorem dX8_addMove_18 : decode cX8_addMove 18 = .ok (.iastore, 1) := by decide +kernel
theorem dX8_addMove_19 : decode cX8_addMove 19 = .ok (.aload_n 0, 1) := by decide +kernel
theorem dX8_addMove_20 : decode cX8_addMove 20 = .ok (.getfield 34, 3) := by decide +kernel
theorem dX8_addMove_23 : decode cX8_addMove 23 = .ok (.aload_n 0, 1) := by decide +kernel
theorem dX8_addMove_24 : decode cX8_addMove 24 = .ok (.getfield 60, 3) := by decide +kernel
theorem dX8_addMove_27 : decode cX8_addMove 27 = .ok (.iload_n 2, 1) := by decide +kernel
theorem dX8_addMove_28 : decode cX8_addMove 28 = .ok (.iastore, 1) := by decide +kernel
theorem dX8_addMove_29 : decode cX8_addMove 29 = .ok (.aload_n 0, 1) := by decide +kernel
theorem dX8_addMove_30 : decode cX8_addMove 30 = .ok (.getfield 37, 3) := by decide +kernel
theorem dX8_addMove_33 : decode cX8_addMove 33 = .ok (.aload_n 0, 1) := by decide +kernel
theorem dX8_addMove_34 : decode cX8_addMove 34 = .ok (.getfield 60, 3) := by decide +kernel
theorem dX8_addMove_37 : decode cX8_addMove 37 = .ok (.iload_n 3, 1) := by decide +kernel
theorem dX8_addMove_38 : decode cX8_addMove 38 = .ok (.iastore, 1) := by decide +kernel
theorem dX8_addMove_39 : decode cX8_addMove 39 = .ok (.aload_n 0, 1) := by decide +kernel
theorem dX8_addMove_40 : decode cX8_addMove 40 = .ok (.getfield 40, 3) := by decide +kernel
theorem dX8_addMove_43 : decode cX8_addMove 43 = .ok (.aload_n 0, 1) := by decide +kernel
theorem dX8_addMove_44 : decode cX8_addMove 44 = .ok (.getfield 60, 3) := by decide +kernel
theorem dX8_addMove_47 : decode cX8_addMove 47 = .ok (.iload 4, 2) := by decide +kernel
theorem dX8_addMove_49 : decode cX8_addMove 49 = .ok (.iastore, 1) := by decide +kernel
theorem dX8_addMove_50 : decode cX8_addMove 50 = .ok (.aload_n 0, 1) := by decide +kernel
theorem dX8_addMove_51 : decode cX8_addMove 51 = .ok (.getfield 43, 3) := by decide +kernel
theorem dX8_addMove_54 : decode cX8_addMove 54 = .ok (.aload_n 0, 1) := by decide +kernel
theorem dX8_addMove_55 : decode cX8_addMove 55 = .ok (.getfield 60, 3) := by decide +kernel
theorem dX8_addMove_58 : decode cX8_addMove 58 = .ok (.iload 5, 2) := by decide +kernel
theorem dX8_addMove_60 : decode cX8_addMove 60 = .ok (.iastore, 1) := by decide +kernel
theorem dX8_addMove_61 : decode cX8_addMove 61 = .ok (.aload_n 0, 1) := by decide +kernel
theorem dX8_addMove_62 : decode cX8_addMove 62 = .ok (.dup, 1) := by decide +kernel
theorem dX8_addMove_63 : decode cX8_addMove 63 = .ok (.getfield 60, 3) := by decide +kernel
theorem dX8_addMove_66 : decode cX8_addMove 66 = .ok (.iconst 1, 1) := by decide +kernel
theorem dX8_addMove_67 : decode cX8_addMove 67 = .ok (.iadd, 1) := by decide +kernel
theorem dX8_addMove_68 : decode cX8_addMove 68 = .ok (.putfield 60, 3) := by decide +kernel
theorem dX8_addMove_71 : decode cX8_addMove 71 = .ok (.return_, 1) := by decide +kernel
theorem dX8_isWorthTold_0 : decode cX8_isWorthTold 0 = .ok (.aload_n 0, 1) := by decide +kernel
theorem dX8_isWorthTold_1 : decode cX8_isWorthTold 1 = .ok (.iload_n 1, 1) := by decide +kernel
theorem dX8_isWorthTold_2 : decode cX8_isWorthTold 2 = .ok (.invokevirtual 81, 3) := by decide +kernel
theorem dX8_isWorthTold_5 : decode cX8_isWorthTold 5 = .ok (.ifCond .eq 30, 3) := by decide +kernel
theorem dX8_isWorthTold_8 : decode cX8_isWorthTold 8 = .ok (.aload_n 0, 1) := by decide +kernel
theorem dX8_isWorthTold_9 : decode cX8_isWorthTold 9 = .ok (.iload_n 2, 1) := by decide +kernel
theorem dX8_isWorthTold_10 : decode cX8_isWorthTold 10 = .ok (.invokevirtual 85, 3) := by decide +kernel
theorem dX8_isWorthTold_13 : decode cX8_isWorthTold 13 = .ok (.ifCond .eq 22, 3) := by decide +kernel
theorem dX8_isWorthTold_16 : decode cX8_isWorthTold 16 = .ok (.aload_n 0, 1) := by decide +kernel
theorem dX8_isWorthTold_17 : decode cX8_isWorthTold 17 = .ok (.getfield 28, 3) := by decide +kernel
theorem dX8_isWorthTold_20 : decode cX8_isWorthTold 20 = .ok (.iload_n 1, 1) := by decide +kernel
theorem dX8_isWorthTold_21 : decode cX8_isWorthTold 21 = .ok (.bipush 8, 2) := by decide +kernel
theorem dX8_isWorthTold_23 : decode cX8_isWorthTold 23 = .ok (.imul, 1) := by decide +kernel
theorem dX8_isWorthTold_24 : decode cX8_isWorthTold 24 = .ok (.iload_n 2, 1) := by decide +kernel
theorem dX8_isWorthTold_25 : decode cX8_isWorthTold 25 = .ok (.iadd, 1) := by decide +kernel
theorem dX8_isWorthTold_26 : decode cX8_isWorthTold 26 = .ok (.iaload, 1) := by decide +kernel
theorem dX8_isWorthTold_27 : decode cX8_isWorthTold 27 = .ok (.iconst (-1), 1) := by decide +kernel
theorem dX8_isWorthTold_28 : decode cX8_isWorthTold 28 = .ok (.if_icmp .eq 7, 3) := by decide +kernel
theorem dX8_isWorthTold_31 : decode cX8_isWorthTold 31 = .ok (.iconst 1, 1) := by decide +kernel
theorem dX8_isWorthTold_32 : decode cX8_isWorthTold 32 = .ok (.goto 4, 3) := by decide +kernel
theorem dX8_isWorthTold_35 : decode cX8_isWorthTold 35 = .ok (.iconst 0, 1) := by decide +kernel
theorem dX8_isWorthTold_36 : decode cX8_isWorthTold 36 = .ok (.ireturn, 1) := by decide +kernel
theorem dX8_tellWorth_0 : decode cX8_tellWorth 0 = .ok (.aload_n 0, 1) := by decide +kernel
theorem dX8_tellWorth_1 : decode cX8_tellWorth 1 = .ok (.iload_n 1, 1) := by decide +kernel
theorem dX8_tellWorth_2 : decode cX8_tellWorth 2 = .ok (.invokevirtual 81, 3) := by decide +kernel
theorem dX8_tellWorth_5 : decode cX8_tellWorth 5 = .ok (.ifCond .eq 23, 3) := by decide +kernel
theorem dX8_tellWorth_8 : decode cX8_tellWorth 8 = .ok (.aload_n 0, 1) := by decide +kernel
theorem dX8_tellWorth_9 : decode cX8_tellWorth 9 = .ok (.iload_n 2, 1) := by decide +kernel
theorem dX8_tellWorth_10 : decode cX8_tellWorth 10 = .ok (.invokevirtual 85, 3) := by decide +kernel
theorem dX8_tellWorth_13 : decode cX8_tellWorth 13 = .ok (.ifCond .eq 15, 3) := by decide +kernel
theorem dX8_tellWorth_16 : decode cX8_tellWorth 16 = .ok (.aload_n 0, 1) := by decide +kernel
theorem dX8_tellWorth_17 : decode cX8_tellWorth 17 = .ok (.getfield 28, 3) := by decide +kernel
theorem dX8_tellWorth_20 : decode cX8_tellWorth 20 = .ok (.iload_n 1, 1) := by decide +kernel
theorem dX8_tellWorth_21 : decode cX8_tellWorth 21 = .ok (.bipush 8, 2) := by decide +kernel
theorem dX8_tellWorth_23 : decode cX8_tellWorth 23 = .ok (.imul, 1) := by decide +kernel
theorem dX8_tellWorth_24 : decode cX8_tellWorth 24 = .ok (.iload_n 2, 1) := by decide +kernel
theorem dX8_tellWorth_25 : decode cX8_tellWorth 25 = .ok (.iadd, 1) := by decide +kernel
theorem dX8_tellWorth_26 : decode cX8_tellWorth 26 = .ok (.iload_n 3, 1) := by decide +kernel
theorem dX8_tellWorth_27 : decode cX8_tellWorth 27 = .ok (.iastore, 1) := by decide +kernel
theorem dX8_tellWorth_28 : decode cX8_tellWorth 28 = .ok (.return_, 1) := by decide +kernel
theorem dX8_worthOf_0 : decode cX8_worthOf 0 = .ok (.aload_n 0, 1) := by decide +kernel
theorem dX8_worthOf_1 : decode cX8_worthOf 1 = .ok (.iload_n 1, 1) := by decide +kernel
theorem dX8_worthOf_2 : decode cX8_worthOf 2 = .ok (.iload_n 2, 1) := by decide +kernel
theorem dX8_worthOf_3 : decode cX8_worthOf 3 = .ok (.invokevirtual 88, 3) := by decide +kernel
theorem dX8_worthOf_6 : decode cX8_worthOf 6 = .ok (.ifCond .eq 17, 3) := by decide +kernel
theorem dX8_worthOf_9 : decode cX8_worthOf 9 = .ok (.aload_n 0, 1) := by decide +kernel
theorem dX8_worthOf_10 : decode cX8_worthOf 10 = .ok (.getfield 28, 3) := by decide +kernel
theorem dX8_worthOf_13 : decode cX8_worthOf 13 = .ok (.iload_n 1, 1) := by decide +kernel
theorem dX8_worthOf_14 : decode cX8_worthOf 14 = .ok (.bipush 8, 2) := by decide +kernel
theorem dX8_worthOf_16 : decode cX8_worthOf 16 = .ok (.imul, 1) := by decide +kernel
theorem dX8_worthOf_17 : decode cX8_worthOf 17 = .ok (.iload_n 2, 1) := by decide +kernel
theorem dX8_worthOf_18 : decode cX8_worthOf 18 = .ok (.iadd, 1) := by decide +kernel
theorem dX8_worthOf_19 : decode cX8_worthOf 19 = .ok (.iaload, 1) := by decide +kernel
theorem dX8_worthOf_20 : decode cX8_worthOf 20 = .ok (.goto 4, 3) := by decide +kernel
theorem dX8_worthOf_23 : decode cX8_worthOf 23 = .ok (.iconst 0, 1) := by decide +kernel
theorem dX8_worthOf_24 : decode cX8_worthOf 24 = .ok (.ireturn, 1) := by decide +kernel
theorem dX8_worthToAll_0 : decode cX8_worthToAll 0 = .ok (.iconst 0, 1) := by decide +kernel
theorem dX8_worthToAll_1 : decode cX8_worthToAll 1 = .ok (.istore_n 2, 1) := by decide +kernel
theorem dX8_worthToAll_2 : decode cX8_worthToAll 2 = .ok (.iconst 0, 1) := by decide +kernel
theorem dX8_worthToAll_3 : decode cX8_worthToAll 3 = .ok (.istore_n 3, 1) := by decide +kernel
theorem dX8_worthToAll_4 : decode cX8_worthToAll 4 = .ok (.iload_n 3, 1) := by decide +kernel
theorem dX8_worthToAll_5 : decode cX8_worthToAll 5 = .ok (.aload_n 0, 1) := by decide +kernel
theorem dX8_worthToAll_6 : decode cX8_worthToAll 6 = .ok (.getfield 57, 3) := by decide +kernel
theorem dX8_worthToAll_9 : decode cX8_worthToAll 9 = .ok (.if_icmp .ge 18, 3) := by decide +kernel
theorem dX8_worthToAll_12 : decode cX8_worthToAll 12 = .ok (.iload_n 2, 1) := by decide +kernel
theorem dX8_worthToAll_13 : decode cX8_worthToAll 13 = .ok (.aload_n 0, 1) := by decide +kernel
theorem dX8_worthToAll_14 : decode cX8_worthToAll 14 = .ok (.iload_n 3, 1) := by decide +kernel
theorem dX8_worthToAll_15 : decode cX8_worthToAll 15 = .ok (.iload_n 1, 1) := by decide +kernel
theorem dX8_worthToAll_16 : decode cX8_worthToAll 16 = .ok (.invokevirtual 92, 3) := by decide +kernel
theorem dX8_worthToAll_19 : decode cX8_worthToAll 19 = .ok (.iadd, 1) := by decide +kernel
theorem dX8_worthToAll_20 : decode cX8_worthToAll 20 = .ok (.istore_n 2, 1) := by decide +kernel
theorem dX8_worthToAll_21 : decode cX8_worthToAll 21 = .ok (.iinc 3 1, 3) := by decide +kernel
theorem dX8_worthToAll_24 : decode cX8_worthToAll 24 = .ok (.goto (-20), 3) := by decide +kernel
theorem dX8_worthToAll_27 : decode cX8_worthToAll 27 = .ok (.iload_n 2, 1) := by decide +kernel
theorem dX8_worthToAll_28 : decode cX8_worthToAll 28 = .ok (.ireturn, 1) := by decide +kernel
theorem dX8_leastWorth_0 : decode cX8_leastWorth 0 = .ok (.aload_n 0, 1) := by decide +kernel
theorem dX8_leastWorth_1 : decode cX8_leastWorth 1 = .ok (.getfield 57, 3) := by decide +kernel
theorem dX8_leastWorth_4 : decode cX8_leastWorth 4 = .ok (.ifCond .ne 7, 3) := by decide +kernel
theorem dX8_leastWorth_7 : decode cX8_leastWorth 7 = .ok (.iconst 0, 1) := by decide +kernel
theorem dX8_leastWorth_8 : decode cX8_leastWorth 8 = .ok (.goto 9, 3) := by decide +kernel
theorem dX8_leastWorth_11 : decode cX8_leastWorth 11 = .ok (.aload_n 0, 1) := by decide +kernel
theorem dX8_leastWorth_12 : decode cX8_leastWorth 12 = .ok (.iconst 0, 1) := by decide +kernel
theorem dX8_leastWorth_13 : decode cX8_leastWorth 13 = .ok (.iload_n 1, 1) := by decide +kernel
theorem dX8_leastWorth_14 : decode cX8_leastWorth 14 = .ok (.invokevirtual 92, 3) := by decide +kernel
theorem dX8_leastWorth_17 : decode cX8_leastWorth 17 = .ok (.istore_n 2, 1) := by decide +kernel
theorem dX8_leastWorth_18 : decode cX8_leastWorth 18 = .ok (.iconst 1, 1) := by decide +kernel
theorem dX8_leastWorth_19 : decode cX8_leastWorth 19 = .ok (.istore_n 3, 1) := by decide +kernel
theorem dX8_leastWorth_20 : decode cX8_leastWorth 20 = .ok (.iload_n 3, 1) := by decide +kernel
theorem dX8_leastWorth_21 : decode cX8_leastWorth 21 = .ok (.aload_n 0, 1) := by decide +kernel
theorem dX8_leastWorth_22 : decode cX8_leastWorth 22 = .ok (.getfield 57, 3) := by decide +kernel
theorem dX8_leastWorth_25 : decode cX8_leastWorth 25 = .ok (.if_icmp .ge 20, 3) := by decide +kernel
theorem dX8_leastWorth_28 : decode cX8_leastWorth 28 = .ok (.iload_n 2, 1) := by decide +kernel
theorem dX8_leastWorth_29 : decode cX8_leastWorth 29 = .ok (.aload_n 0, 1) := by decide +kernel
theorem dX8_leastWorth_30 : decode cX8_leastWorth 30 = .ok (.iload_n 3, 1) := by decide +kernel
theorem dX8_leastWorth_31 : decode cX8_leastWorth 31 = .ok (.iload_n 1, 1) := by decide +kernel
theorem dX8_leastWorth_32 : decode cX8_leastWorth 32 = .ok (.invokevirtual 92, 3) := by decide +kernel
theorem dX8_leastWorth_35 : decode cX8_leastWorth 35 = .ok (.invokestatic 96, 3) := by decide +kernel
theorem dX8_leastWorth_38 : decode cX8_leastWorth 38 = .ok (.istore_n 2, 1) := by decide +kernel
theorem dX8_leastWorth_39 : decode cX8_leastWorth 39 = .ok (.iinc 3 1, 3) := by decide +kernel
theorem dX8_leastWorth_42 : decode cX8_leastWorth 42 = .ok (.goto (-22), 3) := by decide +kernel
theorem dX8_leastWorth_45 : decode cX8_leastWorth 45 = .ok (.iload_n 2, 1) := by decide +kernel
theorem dX8_leastWorth_46 : decode cX8_leastWorth 46 = .ok (.ireturn, 1) := by decide +kernel
theorem dX8_isFairer_0 : decode cX8_isFairer 0 = .ok (.aload_n 0, 1) := by decide +kernel
theorem dX8_isFairer_1 : decode cX8_isFairer 1 = .ok (.iload_n 1, 1) := by decide +kernel
theorem dX8_isFairer_2 : decode cX8_isFairer 2 = .ok (.invokevirtual 101, 3) := by decide +kernel
theorem dX8_isFairer_5 : decode cX8_isFairer 5 = .ok (.istore_n 3, 1) := by decide +kernel
theorem dX8_isFairer_6 : decode cX8_isFairer 6 = .ok (.aload_n 0, 1) := by decide +kernel
theorem dX8_isFairer_7 : decode cX8_isFairer 7 = .ok (.iload_n 2, 1) := by decide +kernel
theorem dX8_isFairer_8 : decode cX8_isFairer 8 = .ok (.invokevirtual 101, 3) := by decide +kernel
theorem dX8_isFairer_11 : decode cX8_isFairer 11 = .ok (.istore 4, 2) := by decide +kernel
theorem dX8_isFairer_13 : decode cX8_isFairer 13 = .ok (.iload_n 3, 1) := by decide +kernel
theorem dX8_isFairer_14 : decode cX8_isFairer 14 = .ok (.iload 4, 2) := by decide +kernel
theorem dX8_isFairer_16 : decode cX8_isFairer 16 = .ok (.if_icmp .eq 15, 3) := by decide +kernel
theorem dX8_isFairer_19 : decode cX8_isFairer 19 = .ok (.iload_n 3, 1) := by decide +kernel
theorem dX8_isFairer_20 : decode cX8_isFairer 20 = .ok (.iload 4, 2) := by decide +kernel
theorem dX8_isFairer_22 : decode cX8_isFairer 22 = .ok (.if_icmp .le 7, 3) := by decide +kernel
theorem dX8_isFairer_25 : decode cX8_isFairer 25 = .ok (.iconst 1, 1) := by decide +kernel
theorem dX8_isFairer_26 : decode cX8_isFairer 26 = .ok (.goto 4, 3) := by decide +kernel
theorem dX8_isFairer_29 : decode cX8_isFairer 29 = .ok (.iconst 0, 1) := by decide +kernel
theorem dX8_isFairer_30 : decode cX8_isFairer 30 = .ok (.ireturn, 1) := by decide +kernel
theorem dX8_isFairer_31 : decode cX8_isFairer 31 = .ok (.aload_n 0, 1) := by decide +kernel
theorem dX8_isFairer_32 : decode cX8_isFairer 32 = .ok (.iload_n 1, 1) := by decide +kernel
theorem dX8_isFairer_33 : decode cX8_isFairer 33 = .ok (.invokevirtual 105, 3) := by decide +kernel
theorem dX8_isFairer_36 : decode cX8_isFairer 36 = .ok (.aload_n 0, 1) := by decide +kernel
theorem dX8_isFairer_37 : decode cX8_isFairer 37 = .ok (.iload_n 2, 1) := by decide +kernel
theorem dX8_isFairer_38 : decode cX8_isFairer 38 = .ok (.invokevirtual 105, 3) := by decide +kernel
theorem dX8_isFairer_41 : decode cX8_isFairer 41 = .ok (.if_icmp .le 7, 3) := by decide +kernel
theorem dX8_isFairer_44 : decode cX8_isFairer 44 = .ok (.iconst 1, 1) := by decide +kernel
theorem dX8_isFairer_45 : decode cX8_isFairer 45 = .ok (.goto 4, 3) := by decide +kernel
theorem dX8_isFairer_48 : decode cX8_isFairer 48 = .ok (.iconst 0, 1) := by decide +kernel
theorem dX8_isFairer_49 : decode cX8_isFairer 49 = .ok (.ireturn, 1) := by decide +kernel
theorem dX8_isBeaten_0 : decode cX8_isBeaten 0 = .ok (.iconst 0, 1) := by decide +kernel
theorem dX8_isBeaten_1 : decode cX8_isBeaten 1 = .ok (.istore_n 2, 1) := by decide +kernel
theorem dX8_isBeaten_2 : decode cX8_isBeaten 2 = .ok (.iload_n 2, 1) := by decide +kernel
theorem dX8_isBeaten_3 : decode cX8_isBeaten 3 = .ok (.aload_n 0, 1) := by decide +kernel
theorem dX8_isBeaten_4 : decode cX8_isBeaten 4 = .ok (.getfield 53, 3) := by decide +kernel
theorem dX8_isBeaten_7 : decode cX8_isBeaten 7 = .ok (.if_icmp .ge 20, 3) := by decide +kernel
theorem dX8_isBeaten_10 : decode cX8_isBeaten 10 = .ok (.aload_n 0, 1) := by decide +kernel
theorem dX8_isBeaten_11 : decode cX8_isBeaten 11 = .ok (.iload_n 2, 1) := by decide +kernel
theorem dX8_isBeaten_12 : decode cX8_isBeaten 12 = .ok (.iload_n 1, 1) := by decide +kernel
theorem dX8_isBeaten_13 : decode cX8_isBeaten 13 = .ok (.invokevirtual 108, 3) := by decide +kernel
theorem dX8_isBeaten_16 : decode cX8_isBeaten 16 = .ok (.ifCond .eq 5, 3) := by decide +kernel
theorem dX8_isBeaten_19 : decode cX8_isBeaten 19 = .ok (.iconst 1, 1) := by decide +kernel
theorem dX8_isBeaten_20 : decode cX8_isBeaten 20 = .ok (.ireturn, 1) := by decide +kernel
theorem dX8_isBeaten_21 : decode cX8_isBeaten 21 = .ok (.iinc 2 1, 3) := by decide +kernel
theorem dX8_isBeaten_24 : decode cX8_isBeaten 24 = .ok (.goto (-22), 3) := by decide +kernel
theorem dX8_isBeaten_27 : decode cX8_isBeaten 27 = .ok (.iconst 0, 1) := by decide +kernel
theorem dX8_isBeaten_28 : decode cX8_isBeaten 28 = .ok (.ireturn, 1) := by decide +kernel
theorem dX8_beats_0 : decode cX8_beats 0 = .ok (.iconst 0, 1) := by decide +kernel
theorem dX8_beats_1 : decode cX8_beats 1 = .ok (.istore_n 3, 1) := by decide +kernel
theorem dX8_beats_2 : decode cX8_beats 2 = .ok (.iconst 0, 1) := by decide +kernel
theorem dX8_beats_3 : decode cX8_beats 3 = .ok (.istore 4, 2) := by decide +kernel
theorem dX8_beats_5 : decode cX8_beats 5 = .ok (.iload 4, 2) := by decide +kernel
theorem dX8_beats_7 : decode cX8_beats 7 = .ok (.aload_n 0, 1) := by decide +kernel
theorem dX8_beats_8 : decode cX8_beats 8 = .ok (.getfield 57, 3) := by decide +kernel
theorem dX8_beats_11 : decode cX8_beats 11 = .ok (.if_icmp .ge 46, 3) := by decide +kernel
theorem dX8_beats_14 : decode cX8_beats 14 = .ok (.aload_n 0, 1) := by decide +kernel
theorem dX8_beats_15 : decode cX8_beats 15 = .ok (.iload 4, 2) := by decide +kernel
theorem dX8_beats_17 : decode cX8_beats 17 = .ok (.iload_n 1, 1) := by decide +kernel
theorem dX8_beats_18 : decode cX8_beats 18 = .ok (.invokevirtual 92, 3) := by decide +kernel
theorem dX8_beats_21 : decode cX8_beats 21 = .ok (.aload_n 0, 1) := by decide +kernel
theorem dX8_beats_22 : decode cX8_beats 22 = .ok (.iload 4, 2) := by decide +kernel
theorem dX8_beats_24 : decode cX8_beats 24 = .ok (.iload_n 2, 1) := by decide +kernel
theorem dX8_beats_25 : decode cX8_beats 25 = .ok (.invokevirtual 92, 3) := by decide +kernel
theorem dX8_beats_28 : decode cX8_beats 28 = .ok (.isub, 1) := by decide +kernel
theorem dX8_beats_29 : decode cX8_beats 29 = .ok (.istore 5, 2) := by decide +kernel
theorem dX8_beats_31 : decode cX8_beats 31 = .ok (.iload 5, 2) := by decide +kernel
theorem dX8_beats_33 : decode cX8_beats 33 = .ok (.ifCond .ge 5, 3) := by decide +kernel
theorem dX8_beats_36 : decode cX8_beats 36 = .ok (.iconst 0, 1) := by decide +kernel
theorem dX8_beats_37 : decode cX8_beats 37 = .ok (.ireturn, 1) := by decide +kernel
theorem dX8_beats_38 : decode cX8_beats 38 = .ok (.iload_n 3, 1) := by decide +kernel
theorem dX8_beats_39 : decode cX8_beats 39 = .ok (.iload 5, 2) := by decide +kernel
theorem dX8_beats_41 : decode cX8_beats 41 = .ok (.ifCond .le 7, 3) := by decide +kernel
theorem dX8_beats_44 : decode cX8_beats 44 = .ok (.iconst 1, 1) := by decide +kernel
theorem dX8_beats_45 : decode cX8_beats 45 = .ok (.goto 4, 3) := by decide +kernel
theorem dX8_beats_48 : decode cX8_beats 48 = .ok (.iconst 0, 1) := by decide +kernel
theorem dX8_beats_49 : decode cX8_beats 49 = .ok (.ior, 1) := by decide +kernel
theorem dX8_beats_50 : decode cX8_beats 50 = .ok (.istore_n 3, 1) := by decide +kernel
theorem dX8_beats_51 : decode cX8_beats 51 = .ok (.iinc 4 1, 3) := by decide +kernel
theorem dX8_beats_54 : decode cX8_beats 54 = .ok (.goto (-49), 3) := by decide +kernel
theorem dX8_beats_57 : decode cX8_beats 57 = .ok (.iload_n 3, 1) := by decide +kernel
theorem dX8_beats_58 : decode cX8_beats 58 = .ok (.ireturn, 1) := by decide +kernel
theorem dX8_seeWhoCan_0 : decode cX8_seeWhoCan 0 = .ok (.iconst 0, 1) := by decide +kernel
theorem dX8_seeWhoCan_1 : decode cX8_seeWhoCan 1 = .ok (.istore_n 1, 1) := by decide +kernel
theorem dX8_seeWhoCan_2 : decode cX8_seeWhoCan 2 = .ok (.iload_n 1, 1) := by decide +kernel
theorem dX8_seeWhoCan_3 : decode cX8_seeWhoCan 3 = .ok (.aload_n 0, 1) := by decide +kernel
theorem dX8_seeWhoCan_4 : decode cX8_seeWhoCan 4 = .ok (.getfield 57, 3) := by decide +kernel
theorem dX8_seeWhoCan_7 : decode cX8_seeWhoCan 7 = .ok (.if_icmp .ge 36, 3) := by decide +kernel
theorem dX8_seeWhoCan_10 : decode cX8_seeWhoCan 10 = .ok (.aload_n 0, 1) := by decide +kernel
theorem dX8_seeWhoCan_11 : decode cX8_seeWhoCan 11 = .ok (.getfield 25, 3) := by decide +kernel
theorem dX8_seeWhoCan_14 : decode cX8_seeWhoCan 14 = .ok (.iload_n 1, 1) := by decide +kernel
theorem dX8_seeWhoCan_15 : decode cX8_seeWhoCan 15 = .ok (.aload_n 0, 1) := by decide +kernel
theorem dX8_seeWhoCan_16 : decode cX8_seeWhoCan 16 = .ok (.iload_n 1, 1) := by decide +kernel
theorem dX8_seeWhoCan_17 : decode cX8_seeWhoCan 17 = .ok (.aload_n 0, 1) := by decide +kernel
theorem dX8_seeWhoCan_18 : decode cX8_seeWhoCan 18 = .ok (.getfield 63, 3) := by decide +kernel
theorem dX8_seeWhoCan_21 : decode cX8_seeWhoCan 21 = .ok (.iload_n 1, 1) := by decide +kernel
theorem dX8_seeWhoCan_22 : decode cX8_seeWhoCan 22 = .ok (.ishr, 1) := by decide +kernel
theorem dX8_seeWhoCan_23 : decode cX8_seeWhoCan 23 = .ok (.iconst 1, 1) := by decide +kernel
theorem dX8_seeWhoCan_24 : decode cX8_seeWhoCan 24 = .ok (.iand, 1) := by decide +kernel
theorem dX8_seeWhoCan_25 : decode cX8_seeWhoCan 25 = .ok (.ifCond .eq 7, 3) := by decide +kernel
theorem dX8_seeWhoCan_28 : decode cX8_seeWhoCan 28 = .ok (.iconst 1, 1) := by decide +kernel
theorem dX8_seeWhoCan_29 : decode cX8_seeWhoCan 29 = .ok (.goto 4, 3) := by decide +kernel
theorem dX8_seeWhoCan_32 : decode cX8_seeWhoCan 32 = .ok (.iconst 0, 1) := by decide +kernel
theorem dX8_seeWhoCan_33 : decode cX8_seeWhoCan 33 = .ok (.invokevirtual 111, 3) := by decide +kernel
theorem dX8_seeWhoCan_36 : decode cX8_seeWhoCan 36 = .ok (.iastore, 1) := by decide +kernel
theorem dX8_seeWhoCan_37 : decode cX8_seeWhoCan 37 = .ok (.iinc 1 1, 3) := by decide +kernel
theorem dX8_seeWhoCan_40 : decode cX8_seeWhoCan 40 = .ok (.goto (-38), 3) := by decide +kernel
theorem dX8_seeWhoCan_43 : decode cX8_seeWhoCan 43 = .ok (.return_, 1) := by decide +kernel
theorem dX8_ableIf_0 : decode cX8_ableIf 0 = .ok (.iconst 0, 1) := by decide +kernel
theorem dX8_ableIf_1 : decode cX8_ableIf 1 = .ok (.istore_n 3, 1) := by decide +kernel
theorem dX8_ableIf_2 : decode cX8_ableIf 2 = .ok (.iconst 0, 1) := by decide +kernel
theorem dX8_ableIf_3 : decode cX8_ableIf 3 = .ok (.istore 4, 2) := by decide +kernel
theorem dX8_ableIf_5 : decode cX8_ableIf 5 = .ok (.iload 4, 2) := by decide +kernel
theorem dX8_ableIf_7 : decode cX8_ableIf 7 = .ok (.aload_n 0, 1) := by decide +kernel
theorem dX8_ableIf_8 : decode cX8_ableIf 8 = .ok (.getfield 60, 3) := by decide +kernel
theorem dX8_ableIf_11 : decode cX8_ableIf 11 = .ok (.if_icmp .ge 64, 3) := by decide +kernel
theorem dX8_ableIf_14 : decode cX8_ableIf 14 = .ok (.iload_n 2, 1) := by decide +kernel
theorem dX8_ableIf_15 : decode cX8_ableIf 15 = .ok (.ifCond .eq 16, 3) := by decide +kernel
theorem dX8_ableIf_18 : decode cX8_ableIf 18 = .ok (.bipush 9, 2) := by decide +kernel
theorem dX8_ableIf_20 : decode cX8_ableIf 20 = .ok (.aload_n 0, 1) := by decide +kernel
theorem dX8_ableIf_21 : decode cX8_ableIf 21 = .ok (.getfield 37, 3) := by decide +kernel
theorem dX8_ableIf_24 : decode cX8_ableIf 24 = .ok (.iload 4, 2) := by decide +kernel
theorem dX8_ableIf_26 : decode cX8_ableIf 26 = .ok (.iaload, 1) := by decide +kernel
theorem dX8_ableIf_27 : decode cX8_ableIf 27 = .ok (.isub, 1) := by decide +kernel
theorem dX8_ableIf_28 : decode cX8_ableIf 28 = .ok (.goto 10, 3) := by decide +kernel
theorem dX8_ableIf_31 : decode cX8_ableIf 31 = .ok (.aload_n 0, 1) := by decide +kernel
theorem dX8_ableIf_32 : decode cX8_ableIf 32 = .ok (.getfield 37, 3) := by decide +kernel
theorem dX8_ableIf_35 : decode cX8_ableIf 35 = .ok (.iload 4, 2) := by decide +kernel
theorem dX8_ableIf_37 : decode cX8_ableIf 37 = .ok (.iaload, 1) := by decide +kernel
theorem dX8_ableIf_38 : decode cX8_ableIf 38 = .ok (.istore 5, 2) := by decide +kernel
theorem dX8_ableIf_40 : decode cX8_ableIf 40 = .ok (.aload_n 0, 1) := by decide +kernel
theorem dX8_ableIf_41 : decode cX8_ableIf 41 = .ok (.iload_n 1, 1) := by decide +kernel
theorem dX8_ableIf_42 : decode cX8_ableIf 42 = .ok (.invokevirtual 81, 3) := by decide +kernel
theorem dX8_ableIf_45 : decode cX8_ableIf 45 = .ok (.ifCond .eq 24, 3) := by decide +kernel
theorem dX8_ableIf_48 : decode cX8_ableIf 48 = .ok (.aload_n 0, 1) := by decide +kernel
theorem dX8_ableIf_49 : decode cX8_ableIf 49 = .ok (.getfield 22, 3) := by decide +kernel
theorem dX8_ableIf_52 : decode cX8_ableIf 52 = .ok (.iload_n 1, 1) := by decide +kernel
theorem dX8_ableIf_53 : decode cX8_ableIf 53 = .ok (.iaload, 1) := by decide +kernel
theorem dX8_ableIf_54 : decode cX8_ableIf 54 = .ok (.iload 5, 2) := by decide +kernel
theorem dX8_ableIf_56 : decode cX8_ableIf 56 = .ok (.ishr, 1) := by decide +kernel
theorem dX8_ableIf_57 : decode cX8_ableIf 57 = .ok (.iconst 1, 1) := by decide +kernel
theorem dX8_ableIf_58 : decode cX8_ableIf 58 = .ok (.iand, 1) := by decide +kernel
theorem dX8_ableIf_59 : decode cX8_ableIf 59 = .ok (.ifCond .ne 10, 3) := by decide +kernel
theorem dX8_ableIf_62 : decode cX8_ableIf 62 = .ok (.iload_n 3, 1) := by decide +kernel
theorem dX8_ableIf_63 : decode cX8_ableIf 63 = .ok (.iconst 1, 1) := by decide +kernel
theorem dX8_ableIf_64 : decode cX8_ableIf 64 = .ok (.iload 4, 2) := by decide +kernel
theorem dX8_ableIf_66 : decode cX8_ableIf 66 = .ok (.ishl, 1) := by decide +kernel
theorem dX8_ableIf_67 : decode cX8_ableIf 67 = .ok (.ior, 1) := by decide +kernel
theorem dX8_ableIf_68 : decode cX8_ableIf 68 = .ok (.istore_n 3, 1) := by decide +kernel
theorem dX8_ableIf_69 : decode cX8_ableIf 69 = .ok (.iinc 4 1, 3) := by decide +kernel
theorem dX8_ableIf_72 : decode cX8_ableIf 72 = .ok (.goto (-67), 3) := by decide +kernel
theorem dX8_ableIf_75 : decode cX8_ableIf 75 = .ok (.iload_n 3, 1) := by decide +kernel
theorem dX8_ableIf_76 : decode cX8_ableIf 76 = .ok (.ireturn, 1) := by decide +kernel
theorem dX8_can_0 : decode cX8_can 0 = .ok (.aload_n 0, 1) := by decide +kernel
theorem dX8_can_1 : decode cX8_can 1 = .ok (.iload_n 1, 1) := by decide +kernel
theorem dX8_can_2 : decode cX8_can 2 = .ok (.invokevirtual 81, 3) := by decide +kernel
theorem dX8_can_5 : decode cX8_can 5 = .ok (.ifCond .eq 28, 3) := by decide +kernel
theorem dX8_can_8 : decode cX8_can 8 = .ok (.aload_n 0, 1) := by decide +kernel
theorem dX8_can_9 : decode cX8_can 9 = .ok (.iload_n 2, 1) := by decide +kernel
theorem dX8_can_10 : decode cX8_can 10 = .ok (.invokevirtual 115, 3) := by decide +kernel
theorem dX8_can_13 : decode cX8_can 13 = .ok (.ifCond .eq 20, 3) := by decide +kernel
theorem dX8_can_16 : decode cX8_can 16 = .ok (.aload_n 0, 1) := by decide +kernel
theorem dX8_can_17 : decode cX8_can 17 = .ok (.getfield 25, 3) := by decide +kernel
theorem dX8_can_20 : decode cX8_can 20 = .ok (.iload_n 1, 1) := by decide +kernel
theorem dX8_can_21 : decode cX8_can 21 = .ok (.iaload, 1) := by decide +kernel
theorem dX8_can_22 : decode cX8_can 22 = .ok (.iload_n 2, 1) := by decide +kernel
theorem dX8_can_23 : decode cX8_can 23 = .ok (.ishr, 1) := by decide +kernel
theorem dX8_can_24 : decode cX8_can 24 = .ok (.iconst 1, 1) := by decide +kernel
theorem dX8_can_25 : decode cX8_can 25 = .ok (.iand, 1) := by decide +kernel
theorem dX8_can_26 : decode cX8_can 26 = .ok (.ifCond .eq 7, 3) := by decide +kernel
theorem dX8_can_29 : decode cX8_can 29 = .ok (.iconst 1, 1) := by decide +kernel
theorem dX8_can_30 : decode cX8_can 30 = .ok (.goto 4, 3) := by decide +kernel
theorem dX8_can_33 : decode cX8_can 33 = .ok (.iconst 0, 1) := by decide +kernel
theorem dX8_can_34 : decode cX8_can 34 = .ok (.ireturn, 1) := by decide +kernel
theorem dX8_ableAny_0 : decode cX8_ableAny 0 = .ok (.iconst 0, 1) := by decide +kernel
theorem dX8_ableAny_1 : decode cX8_ableAny 1 = .ok (.istore_n 1, 1) := by decide +kernel
theorem dX8_ableAny_2 : decode cX8_ableAny 2 = .ok (.iconst 0, 1) := by decide +kernel
theorem dX8_ableAny_3 : decode cX8_ableAny 3 = .ok (.istore_n 2, 1) := by decide +kernel
theorem dX8_ableAny_4 : decode cX8_ableAny 4 = .ok (.iload_n 2, 1) := by decide +kernel
theorem dX8_ableAny_5 : decode cX8_ableAny 5 = .ok (.aload_n 0, 1) := by decide +kernel
theorem dX8_ableAny_6 : decode cX8_ableAny 6 = .ok (.getfield 57, 3) := by decide +kernel
theorem dX8_ableAny_9 : decode cX8_ableAny 9 = .ok (.if_icmp .ge 18, 3) := by decide +kernel
theorem dX8_ableAny_12 : decode cX8_ableAny 12 = .ok (.iload_n 1, 1) := by decide +kernel
theorem dX8_ableAny_13 : decode cX8_ableAny 13 = .ok (.aload_n 0, 1) := by decide +kernel
theorem dX8_ableAny_14 : decode cX8_ableAny 14 = .ok (.getfield 25, 3) := by decide +kernel
theorem dX8_ableAny_17 : decode cX8_ableAny 17 = .ok (.iload_n 2, 1) := by decide +kernel
theorem dX8_ableAny_18 : decode cX8_ableAny 18 = .ok (.iaload, 1) := by decide +kernel
theorem dX8_ableAny_19 : decode cX8_ableAny 19 = .ok (.ior, 1) := by decide +kernel
theorem dX8_ableAny_20 : decode cX8_ableAny 20 = .ok (.istore_n 1, 1) := by decide +kernel
theorem dX8_ableAny_21 : decode cX8_ableAny 21 = .ok (.iinc 2 1, 3) := by decide +kernel
theorem dX8_ableAny_24 : decode cX8_ableAny 24 = .ok (.goto (-20), 3) := by decide +kernel
theorem dX8_ableAny_27 : decode cX8_ableAny 27 = .ok (.iload_n 1, 1) := by decide +kernel
theorem dX8_ableAny_28 : decode cX8_ableAny 28 = .ok (.ireturn, 1) := by decide +kernel
theorem dX8_tribesFor_0 : decode cX8_tribesFor 0 = .ok (.iconst 0, 1) := by decide +kernel
theorem dX8_tribesFor_1 : decode cX8_tribesFor 1 = .ok (.istore_n 2, 1) := by decide +kernel
theorem dX8_tribesFor_2 : decode cX8_tribesFor 2 = .ok (.iconst 0, 1) := by decide +kernel
theorem dX8_tribesFor_3 : decode cX8_tribesFor 3 = .ok (.istore_n 3, 1) := by decide +kernel
theorem dX8_tribesFor_4 : decode cX8_tribesFor 4 = .ok (.iload_n 3, 1) := by decide +kernel
theorem dX8_tribesFor_5 : decode cX8_tribesFor 5 = .ok (.aload_n 0, 1) := by decide +kernel
theorem dX8_tribesFor_6 : decode cX8_tribesFor 6 = .ok (.getfield 57, 3) := by decide +kernel
theorem dX8_tribesFor_9 : decode cX8_tribesFor 9 = .ok (.if_icmp .ge 24, 3) := by decide +kernel
theorem dX8_tribesFor_12 : decode cX8_tribesFor 12 = .ok (.aload_n 0, 1) := by decide +kernel
theorem dX8_tribesFor_13 : decode cX8_tribesFor 13 = .ok (.iload_n 3, 1) := by decide +kernel
theorem dX8_tribesFor_14 : decode cX8_tribesFor 14 = .ok (.iload_n 1, 1) := by decide +kernel
theorem dX8_tribesFor_15 : decode cX8_tribesFor 15 = .ok (.invokevirtual 118, 3) := by decide +kernel
theorem dX8_tribesFor_18 : decode cX8_tribesFor 18 = .ok (.ifCond .eq 9, 3) := by decide +kernel
theorem dX8_tribesFor_21 : decode cX8_tribesFor 21 = .ok (.iload_n 2, 1) := by decide +kernel
theorem dX8_tribesFor_22 : decode cX8_tribesFor 22 = .ok (.iconst 1, 1) := by decide +kernel
theorem dX8_tribesFor_23 : decode cX8_tribesFor 23 = .ok (.iload_n 3, 1) := by decide +kernel
theorem dX8_tribesFor_24 : decode cX8_tribesFor 24 = .ok (.ishl, 1) := by decide +kernel
theorem dX8_tribesFor_25 : decode cX8_tribesFor 25 = .ok (.ior, 1) := by decide +kernel
theorem dX8_tribesFor_26 : decode cX8_tribesFor 26 = .ok (.istore_n 2, 1) := by decide +kernel
theorem dX8_tribesFor_27 : decode cX8_tribesFor 27 = .ok (.iinc 3 1, 3) := by decide +kernel
theorem dX8_tribesFor_30 : decode cX8_tribesFor 30 = .ok (.goto (-26), 3) := by decide +kernel
theorem dX8_tribesFor_33 : decode cX8_tribesFor 33 = .ok (.iload_n 2, 1) := by decide +kernel
theorem dX8_tribesFor_34 : decode cX8_tribesFor 34 = .ok (.ireturn, 1) := by decide +kernel
theorem dX8_movesFrom_0 : decode cX8_movesFrom 0 = .ok (.iconst 0, 1) := by decide +kernel
theorem dX8_movesFrom_1 : decode cX8_movesFrom 1 = .ok (.istore_n 2, 1) := by decide +kernel
theorem dX8_movesFrom_2 : decode cX8_movesFrom 2 = .ok (.iconst 0, 1) := by decide +kernel
theorem dX8_movesFrom_3 : decode cX8_movesFrom 3 = .ok (.istore_n 3, 1) := by decide +kernel
theorem dX8_movesFrom_4 : decode cX8_movesFrom 4 = .ok (.iload_n 3, 1) := by decide +kernel
theorem dX8_movesFrom_5 : decode cX8_movesFrom 5 = .ok (.aload_n 0, 1) := by decide +kernel
theorem dX8_movesFrom_6 : decode cX8_movesFrom 6 = .ok (.getfield 60, 3) := by decide +kernel
theorem dX8_movesFrom_9 : decode cX8_movesFrom 9 = .ok (.if_icmp .ge 25, 3) := by decide +kernel
theorem dX8_movesFrom_12 : decode cX8_movesFrom 12 = .ok (.aload_n 0, 1) := by decide +kernel
theorem dX8_movesFrom_13 : decode cX8_movesFrom 13 = .ok (.getfield 31, 3) := by decide +kernel
theorem dX8_movesFrom_16 : decode cX8_movesFrom 16 = .ok (.iload_n 3, 1) := by decide +kernel
theorem dX8_movesFrom_17 : decode cX8_movesFrom 17 = .ok (.iaload, 1) := by decide +kernel
theorem dX8_movesFrom_18 : decode cX8_movesFrom 18 = .ok (.iload_n 1, 1) := by decide +kernel
theorem dX8_movesFrom_19 : decode cX8_movesFrom 19 = .ok (.if_icmp .ne 9, 3) := by decide +kernel
theorem dX8_movesFrom_22 : decode cX8_movesFrom 22 = .ok (.iload_n 2, 1) := by decide +kernel
theorem dX8_movesFrom_23 : decode cX8_movesFrom 23 = .ok (.iconst 1, 1) := by decide +kernel
theorem dX8_movesFrom_24 : decode cX8_movesFrom 24 = .ok (.iload_n 3, 1) := by decide +kernel
theorem dX8_movesFrom_25 : decode cX8_movesFrom 25 = .ok (.ishl, 1) := by decide +kernel
theorem dX8_movesFrom_26 : decode cX8_movesFrom 26 = .ok (.ior, 1) := by decide +kernel
theorem dX8_movesFrom_27 : decode cX8_movesFrom 27 = .ok (.istore_n 2, 1) := by decide +kernel
theorem dX8_movesFrom_28 : decode cX8_movesFrom 28 = .ok (.iinc 3 1, 3) := by decide +kernel
theorem dX8_movesFrom_31 : decode cX8_movesFrom 31 = .ok (.goto (-27), 3) := by decide +kernel
theorem dX8_movesFrom_34 : decode cX8_movesFrom 34 = .ok (.iload_n 2, 1) := by decide +kernel
theorem dX8_movesFrom_35 : decode cX8_movesFrom 35 = .ok (.ireturn, 1) := by decide +kernel
theorem dX8_behind_0 : decode cX8_behind 0 = .ok (.iconst 0, 1) := by decide +kernel
theorem dX8_behind_1 : decode cX8_behind 1 = .ok (.istore_n 3, 1) := by decide +kernel
theorem dX8_behind_2 : decode cX8_behind 2 = .ok (.iconst 0, 1) := by decide +kernel
theorem dX8_behind_3 : decode cX8_behind 3 = .ok (.istore 4, 2) := by decide +kernel
theorem dX8_behind_5 : decode cX8_behind 5 = .ok (.iload 4, 2) := by decide +kernel
theorem dX8_behind_7 : decode cX8_behind 7 = .ok (.aload_n 0, 1) := by decide +kernel
theorem dX8_behind_8 : decode cX8_behind 8 = .ok (.getfield 60, 3) := by decide +kernel
theorem dX8_behind_11 : decode cX8_behind 11 = .ok (.if_icmp .ge 44, 3) := by decide +kernel
theorem dX8_behind_14 : decode cX8_behind 14 = .ok (.iload_n 2, 1) := by decide +kernel
theorem dX8_behind_15 : decode cX8_behind 15 = .ok (.iload 4, 2) := by decide +kernel
theorem dX8_behind_17 : decode cX8_behind 17 = .ok (.ishr, 1) := by decide +kernel
theorem dX8_behind_18 : decode cX8_behind 18 = .ok (.iconst 1, 1) := by decide +kernel
theorem dX8_behind_19 : decode cX8_behind 19 = .ok (.iand, 1) := by decide +kernel
theorem dX8_behind_20 : decode cX8_behind 20 = .ok (.ifCond .eq 29, 3) := by decide +kernel
theorem dX8_behind_23 : decode cX8_behind 23 = .ok (.iload_n 1, 1) := by decide +kernel
theorem dX8_behind_24 : decode cX8_behind 24 = .ok (.aload_n 0, 1) := by decide +kernel
theorem dX8_behind_25 : decode cX8_behind 25 = .ok (.getfield 31, 3) := by decide +kernel
theorem dX8_behind_28 : decode cX8_behind 28 = .ok (.iload 4, 2) := by decide +kernel
theorem dX8_behind_30 : decode cX8_behind 30 = .ok (.iaload, 1) := by decide +kernel
theorem dX8_behind_31 : decode cX8_behind 31 = .ok (.ishr, 1) := by decide +kernel
theorem dX8_behind_32 : decode cX8_behind 32 = .ok (.iconst 1, 1) := by decide +kernel
theorem dX8_behind_33 : decode cX8_behind 33 = .ok (.iand, 1) := by decide +kernel
theorem dX8_behind_34 : decode cX8_behind 34 = .ok (.ifCond .eq 15, 3) := by decide +kernel
theorem dX8_behind_37 : decode cX8_behind 37 = .ok (.iload_n 3, 1) := by decide +kernel
theorem dX8_behind_38 : decode cX8_behind 38 = .ok (.iconst 1, 1) := by decide +kernel
theorem dX8_behind_39 : decode cX8_behind 39 = .ok (.aload_n 0, 1) := by decide +kernel
theorem dX8_behind_40 : decode cX8_behind 40 = .ok (.getfield 34, 3) := by decide +kernel
theorem dX8_behind_43 : decode cX8_behind 43 = .ok (.iload 4, 2) := by decide +kernel
theorem dX8_behind_45 : decode cX8_behind 45 = .ok (.iaload, 1) := by decide +kernel
theorem dX8_behind_46 : decode cX8_behind 46 = .ok (.ishl, 1) := by decide +kernel
theorem dX8_behind_47 : decode cX8_behind 47 = .ok (.ior, 1) := by decide +kernel
theorem dX8_behind_48 : decode cX8_behind 48 = .ok (.istore_n 3, 1) := by decide +kernel
theorem dX8_behind_49 : decode cX8_behind 49 = .ok (.iinc 4 1, 3) := by decide +kernel
theorem dX8_behind_52 : decode cX8_behind 52 = .ok (.goto (-47), 3) := by decide +kernel
theorem dX8_behind_55 : decode cX8_behind 55 = .ok (.iload_n 3, 1) := by decide +kernel
theorem dX8_behind_56 : decode cX8_behind 56 = .ok (.ireturn, 1) := by decide +kernel
theorem dX8_othersLedTo_0 : decode cX8_othersLedTo 0 = .ok (.aload_n 0, 1) := by decide +kernel
theorem dX8_othersLedTo_1 : decode cX8_othersLedTo 1 = .ok (.iload_n 1, 1) := by decide +kernel
theorem dX8_othersLedTo_2 : decode cX8_othersLedTo 2 = .ok (.invokevirtual 115, 3) := by decide +kernel
theorem dX8_othersLedTo_5 : decode cX8_othersLedTo 5 = .ok (.ifCond .ne 5, 3) := by decide +kernel
theorem dX8_othersLedTo_8 : decode cX8_othersLedTo 8 = .ok (.iconst 0, 1) := by decide +kernel
theorem dX8_othersLedTo_9 : decode cX8_othersLedTo 9 = .ok (.ireturn, 1) := by decide +kernel
theorem dX8_othersLedTo_10 : decode cX8_othersLedTo 10 = .ok (.iconst 1, 1) := by decide +kernel
theorem dX8_othersLedTo_11 : decode cX8_othersLedTo 11 = .ok (.aload_n 0, 1) := by decide +kernel
theorem dX8_othersLedTo_12 : decode cX8_othersLedTo 12 = .ok (.getfield 34, 3) := by decide +kernel
theorem dX8_othersLedTo_15 : decode cX8_othersLedTo 15 = .ok (.iload_n 1, 1) := by decide +kernel
theorem dX8_othersLedTo_16 : decode cX8_othersLedTo 16 = .ok (.iaload, 1) := by decide +kernel
theorem dX8_othersLedTo_17 : decode cX8_othersLedTo 17 = .ok (.ishl, 1) := by decide +kernel
theorem dX8_othersLedTo_18 : decode cX8_othersLedTo 18 = .ok (.istore_n 2, 1) := by decide +kernel
theorem dX8_othersLedTo_19 : decode cX8_othersLedTo 19 = .ok (.aload_n 0, 1) := by decide +kernel
theorem dX8_othersLedTo_20 : decode cX8_othersLedTo 20 = .ok (.getfield 43, 3) := by decide +kernel
theorem dX8_othersLedTo_23 : decode cX8_othersLedTo 23 = .ok (.iload_n 1, 1) := by decide +kernel
theorem dX8_othersLedTo_24 : decode cX8_othersLedTo 24 = .ok (.iaload, 1) := by decide +kernel
theorem dX8_othersLedTo_25 : decode cX8_othersLedTo 25 = .ok (.iconst (-1), 1) := by decide +kernel
theorem dX8_othersLedTo_26 : decode cX8_othersLedTo 26 = .ok (.if_icmp .eq 14, 3) := by decide +kernel
theorem dX8_othersLedTo_29 : decode cX8_othersLedTo 29 = .ok (.iload_n 2, 1) := by decide +kernel
theorem dX8_othersLedTo_30 : decode cX8_othersLedTo 30 = .ok (.iconst 1, 1) := by decide +kernel
theorem dX8_othersLedTo_31 : decode cX8_othersLedTo 31 = .ok (.aload_n 0, 1) := by decide +kernel
theorem dX8_othersLedTo_32 : decode cX8_othersLedTo 32 = .ok (.getfield 43, 3) := by decide +kernel
theorem dX8_othersLedTo_35 : decode cX8_othersLedTo 35 = .ok (.iload_n 1, 1) := by decide +kernel
theorem dX8_othersLedTo_36 : decode cX8_othersLedTo 36 = .ok (.iaload, 1) := by decide +kernel
theorem dX8_othersLedTo_37 : decode cX8_othersLedTo 37 = .ok (.ishl, 1) := by decide +kernel
theorem dX8_othersLedTo_38 : decode cX8_othersLedTo 38 = .ok (.ior, 1) := by decide +kernel
theorem dX8_othersLedTo_39 : decode cX8_othersLedTo 39 = .ok (.istore_n 2, 1) := by decide +kernel
theorem dX8_othersLedTo_40 : decode cX8_othersLedTo 40 = .ok (.iload_n 2, 1) := by decide +kernel
theorem dX8_othersLedTo_41 : decode cX8_othersLedTo 41 = .ok (.iconst 1, 1) := by decide +kernel
theorem dX8_othersLedTo_42 : decode cX8_othersLedTo 42 = .ok (.aload_n 0, 1) := by decide +kernel
theorem dX8_othersLedTo_43 : decode cX8_othersLedTo 43 = .ok (.getfield 31, 3) := by decide +kernel
theorem dX8_othersLedTo_46 : decode cX8_othersLedTo 46 = .ok (.iload_n 1, 1) := by decide +kernel
theorem dX8_othersLedTo_47 : decode cX8_othersLedTo 47 = .ok (.iaload, 1) := by decide +kernel
theorem dX8_othersLedTo_48 : decode cX8_othersLedTo 48 = .ok (.ishl, 1) := by decide +kernel
theorem dX8_othersLedTo_49 : decode cX8_othersLedTo 49 = .ok (.iconst (-1), 1) := by decide +kernel
theorem dX8_othersLedTo_50 : decode cX8_othersLedTo 50 = .ok (.ixor, 1) := by decide +kernel
theorem dX8_othersLedTo_51 : decode cX8_othersLedTo 51 = .ok (.iand, 1) := by decide +kernel
theorem dX8_othersLedTo_52 : decode cX8_othersLedTo 52 = .ok (.ireturn, 1) := by decide +kernel
theorem dX8_slipOf_0 : decode cX8_slipOf 0 = .ok (.aload_n 0, 1) := by decide +kernel
theorem dX8_slipOf_1 : decode cX8_slipOf 1 = .ok (.iload_n 1, 1) := by decide +kernel
theorem dX8_slipOf_2 : decode cX8_slipOf 2 = .ok (.invokevirtual 81, 3) := by decide +kernel
theorem dX8_slipOf_5 : decode cX8_slipOf 5 = .ok (.ifCond .eq 11, 3) := by decide +kernel
theorem dX8_slipOf_8 : decode cX8_slipOf 8 = .ok (.aload_n 0, 1) := by decide +kernel
theorem dX8_slipOf_9 : decode cX8_slipOf 9 = .ok (.iload_n 2, 1) := by decide +kernel
theorem dX8_slipOf_10 : decode cX8_slipOf 10 = .ok (.invokevirtual 115, 3) := by decide +kernel
theorem dX8_slipOf_13 : decode cX8_slipOf 13 = .ok (.ifCond .ne 5, 3) := by decide +kernel
theorem dX8_slipOf_16 : decode cX8_slipOf 16 = .ok (.iconst 0, 1) := by decide +kernel
theorem dX8_slipOf_17 : decode cX8_slipOf 17 = .ok (.ireturn, 1) := by decide +kernel
theorem dX8_slipOf_18 : decode cX8_slipOf 18 = .ok (.aload_n 0, 1) := by decide +kernel
theorem dX8_slipOf_19 : decode cX8_slipOf 19 = .ok (.getfield 49, 3) := by decide +kernel
theorem dX8_slipOf_22 : decode cX8_slipOf 22 = .ok (.invokevirtual 121, 3) := by decide +kernel
theorem dX8_slipOf_25 : decode cX8_slipOf 25 = .ok (.ifCond .eq 26, 3) := by decide +kernel
theorem dX8_slipOf_28 : decode cX8_slipOf 28 = .ok (.aload_n 0, 1) := by decide +kernel
theorem dX8_slipOf_29 : decode cX8_slipOf 29 = .ok (.getfield 49, 3) := by decide +kernel
theorem dX8_slipOf_32 : decode cX8_slipOf 32 = .ok (.aload_n 0, 1) := by decide +kernel
theorem dX8_slipOf_33 : decode cX8_slipOf 33 = .ok (.getfield 40, 3) := by decide +kernel
theorem dX8_slipOf_36 : decode cX8_slipOf 36 = .ok (.iload_n 2, 1) := by decide +kernel
theorem dX8_slipOf_37 : decode cX8_slipOf 37 = .ok (.iaload, 1) := by decide +kernel
theorem dX8_slipOf_38 : decode cX8_slipOf 38 = .ok (.aload_n 0, 1) := by decide +kernel
theorem dX8_slipOf_39 : decode cX8_slipOf 39 = .ok (.getfield 18, 3) := by decide +kernel
theorem dX8_slipOf_42 : decode cX8_slipOf 42 = .ok (.iload_n 1, 1) := by decide +kernel
theorem dX8_slipOf_43 : decode cX8_slipOf 43 = .ok (.iaload, 1) := by decide +kernel
theorem dX8_slipOf_44 : decode cX8_slipOf 44 = .ok (.aload_n 3, 1) := by decide +kernel
theorem dX8_slipOf_45 : decode cX8_slipOf 45 = .ok (.invokevirtual 125, 3) := by decide +kernel
theorem dX8_slipOf_48 : decode cX8_slipOf 48 = .ok (.goto 21, 3) := by decide +kernel
theorem dX8_slipOf_51 : decode cX8_slipOf 51 = .ok (.bipush 10, 2) := by decide +kernel
theorem dX8_slipOf_53 : decode cX8_slipOf 53 = .ok (.aload_n 0, 1) := by decide +kernel
theorem dX8_slipOf_54 : decode cX8_slipOf 54 = .ok (.getfield 40, 3) := by decide +kernel
theorem dX8_slipOf_57 : decode cX8_slipOf 57 = .ok (.iload_n 2, 1) := by decide +kernel
theorem dX8_slipOf_58 : decode cX8_slipOf 58 = .ok (.iaload, 1) := by decide +kernel
theorem dX8_slipOf_59 : decode cX8_slipOf 59 = .ok (.imul, 1) := by decide +kernel
theorem dX8_slipOf_60 : decode cX8_slipOf 60 = .ok (.iconst 5, 1) := by decide +kernel
theorem dX8_slipOf_61 : decode cX8_slipOf 61 = .ok (.aload_n 0, 1) := by decide +kernel
theorem dX8_slipOf_62 : decode cX8_slipOf 62 = .ok (.getfield 18, 3) := by decide +kernel
theorem dX8_slipOf_65 : decode cX8_slipOf 65 = .ok (.iload_n 1, 1) := by decide +kernel
theorem dX8_slipOf_66 : decode cX8_slipOf 66 = .ok (.iaload, 1) := by decide +kernel
theorem dX8_slipOf_67 : decode cX8_slipOf 67 = .ok (.imul, 1) := by decide +kernel
theorem dX8_slipOf_68 : decode cX8_slipOf 68 = .ok (.isub, 1) := by decide +kernel
theorem dX8_slipOf_69 : decode cX8_slipOf 69 = .ok (.istore 4, 2) := by decide +kernel
theorem dX8_slipOf_71 : decode cX8_slipOf 71 = .ok (.iconst 0, 1) := by decide +kernel
theorem dX8_slipOf_72 : decode cX8_slipOf 72 = .ok (.bipush 100, 2) := by decide +kernel
theorem dX8_slipOf_74 : decode cX8_slipOf 74 = .ok (.iload 4, 2) := by decide +kernel
theorem dX8_slipOf_76 : decode cX8_slipOf 76 = .ok (.invokestatic 96, 3) := by decide +kernel
theorem dX8_slipOf_79 : decode cX8_slipOf 79 = .ok (.invokestatic 129, 3) := by decide +kernel
theorem dX8_slipOf_82 : decode cX8_slipOf 82 = .ok (.ireturn, 1) := by decide +kernel
theorem dX9_init_0 : decode cX9_init 0 = .ok (.aload_n 0, 1) := by decide +kernel
theorem dX9_init_1 : decode cX9_init 1 = .ok (.invokespecial 3, 3) := by decide +kernel
theorem dX9_init_4 : decode cX9_init 4 = .ok (.aload_n 0, 1) := by decide +kernel
theorem dX9_init_5 : decode cX9_init 5 = .ok (.iconst 2, 1) := by decide +kernel
theorem dX9_init_6 : decode cX9_init 6 = .ok (.newarray .int, 2) := by decide +kernel
theorem dX9_init_8 : decode cX9_init 8 = .ok (.putfield 9, 3) := by decide +kernel
theorem dX9_init_11 : decode cX9_init 11 = .ok (.aload_n 0, 1) := by decide +kernel
theorem dX9_init_12 : decode cX9_init 12 = .ok (.bipush 16, 2) := by decide +kernel
theorem dX9_init_14 : decode cX9_init 14 = .ok (.newarray .int, 2) := by decide +kernel
theorem dX9_init_16 : decode cX9_init 16 = .ok (.putfield 15, 3) := by decide +kernel
theorem dX9_init_19 : decode cX9_init 19 = .ok (.aload_n 0, 1) := by decide +kernel
theorem dX9_init_20 : decode cX9_init 20 = .ok (.iconst 2, 1) := by decide +kernel
theorem dX9_init_21 : decode cX9_init 21 = .ok (.bipush 8, 2) := by decide +kernel
theorem dX9_init_23 : decode cX9_init 23 = .ok (.multianewarray 18 2, 4) := by decide +kernel
theorem dX9_init_27 : decode cX9_init 27 = .ok (.putfield 20, 3) := by decide +kernel
theorem dX9_init_30 : decode cX9_init 30 = .ok (.aload_n 0, 1) := by decide +kernel
theorem dX9_init_31 : decode cX9_init 31 = .ok (.iconst 2, 1) := by decide +kernel
theorem dX9_init_32 : decode cX9_init 32 = .ok (.bipush 16, 2) := by decide +kernel
theorem dX9_init_34 : decode cX9_init 34 = .ok (.multianewarray 18 2, 4) := by decide +kernel
theorem dX9_init_38 : decode cX9_init 38 = .ok (.putfield 23, 3) := by decide +kernel
theorem dX9_init_41 : decode cX9_init 41 = .ok (.aload_n 0, 1) := by decide +kernel
theorem dX9_init_42 : decode cX9_init 42 = .ok (.iconst 5, 1) := by decide +kernel
theorem dX9_init_43 : decode cX9_init 43 = .ok (.bipush 16, 2) := by decide +kernel
theorem dX9_init_45 : decode cX9_init 45 = .ok (.multianewarray 18 2, 4) := by decide +kernel
theorem dX9_init_49 : decode cX9_init 49 = .ok (.putfield 26, 3) := by decide +kernel
theorem dX9_init_52 : decode cX9_init 52 = .ok (.aload_n 0, 1) := by decide +kernel
theorem dX9_init_53 : decode cX9_init 53 = .ok (.bipush 8, 2) := by decide +kernel
theorem dX9_init_55 : decode cX9_init 55 = .ok (.newarray .int, 2) := by decide +kernel
theorem dX9_init_57 : decode cX9_init 57 = .ok (.putfield 29, 3) := by decide +kernel
theorem dX9_init_60 : decode cX9_init 60 = .ok (.aload_n 0, 1) := by decide +kernel
theorem dX9_init_61 : decode cX9_init 61 = .ok (.bipush 8, 2) := by decide +kernel
theorem dX9_init_63 : decode cX9_init 63 = .ok (.newarray .int, 2) := by decide +kernel
theorem dX9_init_65 : decode cX9_init 65 = .ok (.putfield 32, 3) := by decide +kernel
theorem dX9_init_68 : decode cX9_init 68 = .ok (.aload_n 0, 1) := by decide +kernel
theorem dX9_init_69 : decode cX9_init 69 = .ok (.iconst 0, 1) := by decide +kernel
theorem dX9_init_70 : decode cX9_init 70 = .ok (.putfield 35, 3) := by decide +kernel
theorem dX9_init_73 : decode cX9_init 73 = .ok (.aload_n 0, 1) := by decide +kernel
theorem dX9_init_74 : decode cX9_init 74 = .ok (.iconst 0, 1) := by decide +kernel
theorem dX9_init_75 : decode cX9_init 75 = .ok (.putfield 39, 3) := by decide +kernel
theorem dX9_init_78 : decode cX9_init 78 = .ok (.aload_n 0, 1) := by decide +kernel
theorem dX9_init_79 : decode cX9_init 79 = .ok (.iconst 1, 1) := by decide +kernel
theorem dX9_init_80 : decode cX9_init 80 = .ok (.putfield 42, 3) := by decide +kernel
theorem dX9_init_83 : decode cX9_init 83 = .ok (.return_, 1) := by decide +kernel
theorem dX9_clear_0 : decode cX9_clear 0 = .ok (.aload_n 0, 1) := by decide +kernel
theorem dX9_clear_1 : decode cX9_clear 1 = .ok (.iconst 0, 1) := by decide +kernel
theorem dX9_clear_2 : decode cX9_clear 2 = .ok (.putfield 35, 3) := by decide +kernel
theorem dX9_clear_5 : decode cX9_clear 5 = .ok (.return_, 1) := by decide +kernel
theorem dX9_lyingAt_0 : decode cX9_lyingAt 0 = .ok (.iload_n 1, 1) := by decide +kernel
theorem dX9_lyingAt_1 : decode cX9_lyingAt 1 = .ok (.ifCond .lt 26, 3) := by decide +kernel
theorem dX9_lyingAt_4 : decode cX9_lyingAt 4 = .ok (.iload_n 1, 1) := by decide +kernel
theorem dX9_lyingAt_5 : decode cX9_lyingAt 5 = .ok (.aload_n 0, 1) := by decide +kernel
theorem dX9_lyingAt_6 : decode cX9_lyingAt 6 = .ok (.getfield 35, 3) := by decide +kernel
theorem dX9_lyingAt_9 : decode cX9_lyingAt 9 = .ok (.if_icmp .ge 18, 3) := by decide +kernel
theorem dX9_lyingAt_12 : decode cX9_lyingAt 12 = .ok (.iload_n 1, 1) := by decide +kernel
theorem dX9_lyingAt_13 : decode cX9_lyingAt 13 = .ok (.bipush 16, 2) := by decide +kernel
theorem dX9_lyingAt_15 : decode cX9_lyingAt 15 = .ok (.if_icmp .ge 12, 3) := by decide +kernel
theorem dX9_lyingAt_18 : decode cX9_lyingAt 18 = .ok (.aload_n 0, 1) := by decide +kernel
theorem dX9_lyingAt_19 : decode cX9_lyingAt 19 = .ok (.getfield 15, 3) := by decide +kernel
theorem dX9_lyingAt_22 : decode cX9_lyingAt 22 = .ok (.iload_n 1, 1) := by decide +kernel
theorem dX9_lyingAt_23 : decode cX9_lyingAt 23 = .ok (.iaload, 1) := by decide +kernel
theorem dX9_lyingAt_24 : decode cX9_lyingAt 24 = .ok (.goto 4, 3) := by decide +kernel
theorem dX9_lyingAt_27 : decode cX9_lyingAt 27 = .ok (.iconst (-1), 1) := by decide +kernel
theorem dX9_lyingAt_28 : decode cX9_lyingAt 28 = .ok (.ireturn, 1) := by decide +kernel
theorem dX9_lay_0 : decode cX9_lay 0 = .ok (.aload_n 0, 1) := by decide +kernel
theorem dX9_lay_1 : decode cX9_lay 1 = .ok (.getfield 35, 3) := by decide +kernel
theorem dX9_lay_4 : decode cX9_lay 4 = .ok (.bipush 16, 2) := by decide +kernel
theorem dX9_lay_6 : decode cX9_lay 6 = .ok (.if_icmp .ge 23, 3) := by decide +kernel
theorem dX9_lay_9 : decode cX9_lay 9 = .ok (.aload_n 0, 1) := by decide +kernel
theorem dX9_lay_10 : decode cX9_lay 10 = .ok (.getfield 15, 3) := by decide +kernel
theorem dX9_lay_13 : decode cX9_lay 13 = .ok (.aload_n 0, 1) := by decide +kernel
theorem dX9_lay_14 : decode cX9_lay 14 = .ok (.getfield 35, 3) := by decide +kernel
theorem dX9_lay_17 : decode cX9_lay 17 = .ok (.iload_n 1, 1) := by decide +kernel
theorem dX9_lay_18 : decode cX9_lay 18 = .ok (.iastore, 1) := by decide +kernel
theorem dX9_lay_19 : decode cX9_lay 19 = .ok (.aload_n 0, 1) := by decide +kernel
theorem dX9_lay_20 : decode cX9_lay 20 = .ok (.dup, 1) := by decide +kernel
theorem dX9_lay_21 : decode cX9_lay 21 = .ok (.getfield 35, 3) := by decide +kernel
theorem dX9_lay_24 : decode cX9_lay 24 = .ok (.iconst 1, 1) := by decide +kernel
theorem dX9_lay_25 : decode cX9_lay 25 = .ok (.iadd, 1) := by decide +kernel
theorem dX9_lay_26 : decode cX9_lay 26 = .ok (.putfield 35, 3) := by decide +kernel
theorem dX9_lay_29 : decode cX9_lay 29 = .ok (.return_, 1) := by decide +kernel
theorem dX9_sit_0 : decode cX9_sit 0 = .ok (.aload_n 0, 1) := by decide +kernel
theorem dX9_sit_1 : decode cX9_sit 1 = .ok (.getfield 9, 3) := by decide +kernel
theorem dX9_sit_4 : decode cX9_sit 4 = .ok (.iconst 0, 1) := by decide +kernel
theorem dX9_sit_5 : decode cX9_sit 5 = .ok (.iload_n 2, 1) := by decide +kernel
theorem dX9_sit_6 : decode cX9_sit 6 = .ok (.iastore, 1) := by decide +kernel
theorem dX9_sit_7 : decode cX9_sit 7 = .ok (.aload_n 0, 1) := by decide +kernel
theorem dX9_sit_8 : decode cX9_sit 8 = .ok (.getfield 9, 3) := by decide +kernel
theorem dX9_sit_11 : decode cX9_sit 11 = .ok (.iconst 1, 1) := by decide +kernel
theorem dX9_sit_12 : decode cX9_sit 12 = .ok (.aload_n 1, 1) := by decide +kernel
theorem dX9_sit_13 : decode cX9_sit 13 = .ok (.getfield 45, 3) := by decide +kernel
theorem dX9_sit_16 : decode cX9_sit 16 = .ok (.iastore, 1) := by decide +kernel
theorem dX9_sit_17 : decode cX9_sit 17 = .ok (.return_, 1) := by decide +kernel
theorem dX9_fewest_0 : decode cX9_fewest 0 = .ok (.aload_n 1, 1) := by decide +kernel
theorem dX9_fewest_1 : decode cX9_fewest 1 = .ok (.aload_n 2, 1) := by decide +kernel
theorem dX9_fewest_2 : decode cX9_fewest 2 = .ok (.getfield 50, 3) := by decide +kernel
theorem dX9_fewest_5 : decode cX9_fewest 5 = .ok (.invokevirtual 53, 3) := by decide +kernel
theorem dX9_fewest_8 : decode cX9_fewest 8 = .ok (.ifCond .eq 12, 3) := by decide +kernel
theorem dX9_fewest_11 : decode cX9_fewest 11 = .ok (.aload_n 1, 1) := by decide +kernel
theorem dX9_fewest_12 : decode cX9_fewest 12 = .ok (.iload 4, 2) := by decide +kernel
theorem dX9_fewest_14 : decode cX9_fewest 14 = .ok (.invokevirtual 53, 3) := by decide +kernel
theorem dX9_fewest_17 : decode cX9_fewest 17 = .ok (.ifCond .ne 5, 3) := by decide +kernel
theorem dX9_fewest_20 : decode cX9_fewest 20 = .ok (.iconst (-1), 1) := by decide +kernel
theorem dX9_fewest_21 : decode cX9_fewest 21 = .ok (.ireturn, 1) := by decide +kernel
theorem dX9_fewest_22 : decode cX9_fewest 22 = .ok (.aload_n 0, 1) := by decide +kernel
theorem dX9_fewest_23 : decode cX9_fewest 23 = .ok (.aload_n 2, 1) := by decide +kernel
theorem dX9_fewest_24 : decode cX9_fewest 24 = .ok (.iload_n 3, 1) := by decide +kernel
theorem dX9_fewest_25 : decode cX9_fewest 25 = .ok (.invokevirtual 59, 3) := by decide +kernel
theorem dX9_fewest_28 : decode cX9_fewest 28 = .ok (.aload_n 0, 1) := by decide +kernel
theorem dX9_fewest_29 : decode cX9_fewest 29 = .ok (.aload_n 1, 1) := by decide +kernel
theorem dX9_fewest_30 : decode cX9_fewest 30 = .ok (.iload 4, 2) := by decide +kernel
theorem dX9_fewest_32 : decode cX9_fewest 32 = .ok (.invokevirtual 63, 3) := by decide +kernel
theorem dX9_fewest_35 : decode cX9_fewest 35 = .ok (.aload_n 0, 1) := by decide +kernel
theorem dX9_fewest_36 : decode cX9_fewest 36 = .ok (.getfield 20, 3) := by decide +kernel
theorem dX9_fewest_39 : decode cX9_fewest 39 = .ok (.iconst 0, 1) := by decide +kernel
theorem dX9_fewest_40 : decode cX9_fewest 40 = .ok (.aaload, 1) := by decide +kernel
theorem dX9_fewest_41 : decode cX9_fewest 41 = .ok (.aload_n 2, 1) := by decide +kernel
theorem dX9_fewest_42 : decode cX9_fewest 42 = .ok (.getfield 50, 3) := by decide +kernel
theorem dX9_fewest_45 : decode cX9_fewest 45 = .ok (.iaload, 1) := by decide +kernel
theorem dX9_fewest_46 : decode cX9_fewest 46 = .ok (.istore 5, 2) := by decide +kernel
theorem dX9_fewest_48 : decode cX9_fewest 48 = .ok (.iload 5, 2) := by decide +kernel
theorem dX9_fewest_50 : decode cX9_fewest 50 = .ok (.bipush 99, 2) := by decide +kernel
theorem dX9_fewest_52 : decode cX9_fewest 52 = .ok (.if_icmp .lt 5, 3) := by decide +kernel
theorem dX9_fewest_55 : decode cX9_fewest 55 = .ok (.iconst (-1), 1) := by decide +kernel
theorem dX9_fewest_56 : decode cX9_fewest 56 = .ok (.ireturn, 1) := by decide +kernel
theorem dX9_fewest_57 : decode cX9_fewest 57 = .ok (.aload_n 0, 1) := by decide +kernel
theorem dX9_fewest_58 : decode cX9_fewest 58 = .ok (.aload_n 1, 1) := by decide +kernel
theorem dX9_fewest_59 : decode cX9_fewest 59 = .ok (.aload_n 2, 1) := by decide +kernel
theorem dX9_fewest_60 : decode cX9_fewest 60 = .ok (.getfield 50, 3) := by decide +kernel
theorem dX9_fewest_63 : decode cX9_fewest 63 = .ok (.iload 5, 2) := by decide +kernel
theorem dX9_fewest_65 : decode cX9_fewest 65 = .ok (.invokevirtual 67, 3) := by decide +kernel
theorem dX9_fewest_68 : decode cX9_fewest 68 = .ok (.iload 5, 2) := by decide +kernel
theorem dX9_fewest_70 : decode cX9_fewest 70 = .ok (.ireturn, 1) := by decide +kernel
theorem dX9_measure_0 : decode cX9_measure 0 = .ok (.aload_n 0, 1) := by decide +kernel
theorem dX9_measure_1 : decode cX9_measure 1 = .ok (.getfield 20, 3) := by decide +kernel
theorem dX9_measure_4 : decode cX9_measure 4 = .ok (.iconst 0, 1) := by decide +kernel
theorem dX9_measure_5 : decode cX9_measure 5 = .ok (.aaload, 1) := by decide +kernel
theorem dX9_measure_6 : decode cX9_measure 6 = .ok (.bipush 99, 2) := by decide +kernel
theorem dX9_measure_8 : decode cX9_measure 8 = .ok (.invokestatic 71, 3) := by decide +kernel
theorem dX9_measure_11 : decode cX9_measure 11 = .ok (.aload_n 0, 1) := by decide +kernel
theorem dX9_measure_12 : decode cX9_measure 12 = .ok (.getfield 20, 3) := by decide +kernel
theorem dX9_measure_15 : decode cX9_measure 15 = .ok (.iconst 1, 1) := by decide +kernel
theorem dX9_measure_16 : decode cX9_measure 16 = .ok (.aaload, 1) := by decide +kernel
theorem dX9_measure_17 : decode cX9_measure 17 = .ok (.bipush 99, 2) := by decide +kernel
theorem dX9_measure_19 : decode cX9_measure 19 = .ok (.invokestatic 71, 3) := by decide +kernel
theorem dX9_measure_22 : decode cX9_measure 22 = .ok (.aload_n 0, 1) := by decide +kernel
theorem dX9_measure_23 : decode cX9_measure 23 = .ok (.getfield 20, 3) := by decide +kernel
theorem dX9_measure_26 : decode cX9_measure 26 = .ok (.iconst 0, 1) := by decide +kernel
theorem dX9_measure_27 : decode cX9_measure 27 = .ok (.aaload, 1) := by decide +kernel
theorem dX9_measure_28 : decode cX9_measure 28 = .ok (.iload_n 2, 1) := by decide +kernel
theorem dX9_measure_29 : decode cX9_measure 29 = .ok (.iconst 0, 1) := by decide +kernel
theorem dX9_measure_30 : decode cX9_measure 30 = .ok (.iastore, 1) := by decide +kernel
theorem dX9_measure_31 : decode cX9_measure 31 = .ok (.aload_n 0, 1) := by decide +kernel
theorem dX9_measure_32 : decode cX9_measure 32 = .ok (.getfield 20, 3) := by decide +kernel
theorem dX9_measure_35 : decode cX9_measure 35 = .ok (.iconst 1, 1) := by decide +kernel
theorem dX9_measure_36 : decode cX9_measure 36 = .ok (.aaload, 1) := by decide +kernel
theorem dX9_measure_37 : decode cX9_measure 37 = .ok (.iload_n 2, 1) := by decide +kernel
theorem dX9_measure_38 : decode cX9_measure 38 = .ok (.iconst 0, 1) := by decide +kernel
theorem dX9_measure_39 : decode cX9_measure 39 = .ok (.iastore, 1) := by decide +kernel
theorem dX9_measure_40 : decode cX9_measure 40 = .ok (.iconst 1, 1) := by decide +kernel
theorem dX9_measure_41 : decode cX9_measure 41 = .ok (.istore_n 3, 1) := by decide +kernel
theorem dX9_measure_42 : decode cX9_measure 42 = .ok (.iconst 0, 1) := by decide +kernel
theorem dX9_measure_43 : decode cX9_measure 43 = .ok (.istore 4, 2) := by decide +kernel
theorem dX9_measure_45 : decode cX9_measure 45 = .ok (.iload 4, 2) := by decide +kernel
theorem dX9_measure_47 : decode cX9_measure 47 = .ok (.bipush 16, 2) := by decide +kernel
theorem dX9_measure_49 : decode cX9_measure 49 = .ok (.if_icmp .ge 45, 3) := by decide +kernel
theorem dX9_measure_52 : decode cX9_measure 52 = .ok (.iload_n 3, 1) := by decide +kernel
theorem dX9_measure_53 : decode cX9_measure 53 = .ok (.ifCond .eq 41, 3) := by decide +kernel
theorem dX9_measure_56 : decode cX9_measure 56 = .ok (.aload_n 0, 1) := by decide +kernel
theorem dX9_measure_57 : decode cX9_measure 57 = .ok (.aload_n 1, 1) := by decide +kernel
theorem dX9_measure_58 : decode cX9_measure 58 = .ok (.iconst 0, 1) := by decide +kernel
theorem dX9_measure_59 : decode cX9_measure 59 = .ok (.invokevirtual 77, 3) := by decide +kernel
theorem dX9_measure_62 : decode cX9_measure 62 = .ok (.istore 5, 2) := by decide +kernel
theorem dX9_measure_64 : decode cX9_measure 64 = .ok (.aload_n 0, 1) := by decide +kernel
theorem dX9_measure_65 : decode cX9_measure 65 = .ok (.aload_n 1, 1) := by decide +kernel
theorem dX9_measure_66 : decode cX9_measure 66 = .ok (.iconst 1, 1) := by decide +kernel
theorem dX9_measure_67 : decode cX9_measure 67 = .ok (.invokevirtual 77, 3) := by decide +kernel
theorem dX9_measure_70 : decode cX9_measure 70 = .ok (.istore 6, 2) := by decide +kernel
theorem dX9_measure_72 : decode cX9_measure 72 = .ok (.iload 5, 2) := by decide +kernel
theorem dX9_measure_74 : decode cX9_measure 74 = .ok (.ifCond .ne 8, 3) := by decide +kernel
theorem dX9_measure_77 : decode cX9_measure 77 = .ok (.iload 6, 2) := by decide +kernel
theorem dX9_measure_79 : decode cX9_measure 79 = .ok (.ifCond .eq 7, 3) := by decide +kernel
theorem dX9_measure_82 : decode cX9_measure 82 = .ok (.iconst 1, 1) := by decide +kernel
theorem dX9_measure_83 : decode cX9_measure 83 = .ok (.goto 4, 3) := by decide +kernel
theorem dX9_measure_86 : decode cX9_measure 86 = .ok (.iconst 0, 1) := by decide +kernel
theorem dX9_measure_87 : decode cX9_measure 87 = .ok (.istore_n 3, 1) := by decide +kernel
theorem dX9_measure_88 : decode cX9_measure 88 = .ok (.iinc 4 1, 3) := by decide +kernel
theorem dX9_measure_91 : decode cX9_measure 91 = .ok (.goto (-46), 3) := by decide +kernel
theorem dX9_measure_94 : decode cX9_measure 94 = .ok (.return_, 1) := by decide +kernel
theorem dX9_measureMoves_0 : decode cX9_measureMoves 0 = .ok (.iconst 0, 1) := by decide +kernel
theorem dX9_measureMoves_1 : decode cX9_measureMoves 1 = .ok (.istore_n 3, 1) := by decide +kernel
theorem dX9_measureMoves_2 : decode cX9_measureMoves 2 = .ok (.iconst 0, 1) := by decide +kernel
theorem dX9_measureMoves_3 : decode cX9_measureMoves 3 = .ok (.istore 4, 2) := by decide +kernel
theorem dX9_measureMoves_5 : decode cX9_measureMoves 5 = .ok (.iload 4, 2) := by decide +kernel
theorem dX9_measureMoves_7 : decode cX9_measureMoves 7 = .ok (.aload_n 1, 1) := by decide +kernel
theorem dX9_measureMoves_8 : decode cX9_measureMoves 8 = .ok (.getfield 81, 3) := by decide +kernel
theorem dX9_measureMoves_11 : decode cX9_measureMoves 11 = .ok (.if_icmp .ge 81, 3) := by decide +kernel
theorem dX9_measureMoves_14 : decode cX9_measureMoves 14 = .ok (.aload_n 0, 1) := by decide +kernel
theorem dX9_measureMoves_15 : decode cX9_measureMoves 15 = .ok (.getfield 20, 3) := by decide +kernel
theorem dX9_measureMoves_18 : decode cX9_measureMoves 18 = .ok (.iconst 1, 1) := by decide +kernel
theorem dX9_measureMoves_19 : decode cX9_measureMoves 19 = .ok (.iload_n 2, 1) := by decide +kernel
theorem dX9_measureMoves_20 : decode cX9_measureMoves 20 = .ok (.isub, 1) := by decide +kernel
theorem dX9_measureMoves_21 : decode cX9_measureMoves 21 = .ok (.aaload, 1) := by decide +kernel
theorem dX9_measureMoves_22 : decode cX9_measureMoves 22 = .ok (.aload_n 1, 1) := by decide +kernel
theorem dX9_measureMoves_23 : decode cX9_measureMoves 23 = .ok (.getfield 84, 3) := by decide +kernel
theorem dX9_measureMoves_26 : decode cX9_measureMoves 26 = .ok (.iload 4, 2) := by decide +kernel
theorem dX9_measureMoves_28 : decode cX9_measureMoves 28 = .ok (.iaload, 1) := by decide +kernel
theorem dX9_measureMoves_29 : decode cX9_measureMoves 29 = .ok (.iaload, 1) := by decide +kernel
theorem dX9_measureMoves_30 : decode cX9_measureMoves 30 = .ok (.iconst 1, 1) := by decide +kernel
theorem dX9_measureMoves_31 : decode cX9_measureMoves 31 = .ok (.iadd, 1) := by decide +kernel
theorem dX9_measureMoves_32 : decode cX9_measureMoves 32 = .ok (.istore 5, 2) := by decide +kernel
theorem dX9_measureMoves_34 : decode cX9_measureMoves 34 = .ok (.iload 5, 2) := by decide +kernel
theorem dX9_measureMoves_36 : decode cX9_measureMoves 36 = .ok (.aload_n 0, 1) := by decide +kernel
theorem dX9_measureMoves_37 : decode cX9_measureMoves 37 = .ok (.getfield 20, 3) := by decide +kernel
theorem dX9_measureMoves_40 : decode cX9_measureMoves 40 = .ok (.iload_n 2, 1) := by decide +kernel
theorem dX9_measureMoves_41 : decode cX9_measureMoves 41 = .ok (.aaload, 1) := by decide +kernel
theorem dX9_measureMoves_42 : decode cX9_measureMoves 42 = .ok (.aload_n 1, 1) := by decide +kernel
theorem dX9_measureMoves_43 : decode cX9_measureMoves 43 = .ok (.getfield 87, 3) := by decide +kernel
theorem dX9_measureMoves_46 : decode cX9_measureMoves 46 = .ok (.iload 4, 2) := by decide +kernel
theorem dX9_measureMoves_48 : decode cX9_measureMoves 48 = .ok (.iaload, 1) := by decide +kernel
theorem dX9_measureMoves_49 : decode cX9_measureMoves 49 = .ok (.iaload, 1) := by decide +kernel
theorem dX9_measureMoves_50 : decode cX9_measureMoves 50 = .ok (.if_icmp .ge 36, 3) := by decide +kernel
theorem dX9_measureMoves_53 : decode cX9_measureMoves 53 = .ok (.aload_n 1, 1) := by decide +kernel
theorem dX9_measureMoves_54 : decode cX9_measureMoves 54 = .ok (.aload_n 0, 1) := by decide +kernel
theorem dX9_measureMoves_55 : decode cX9_measureMoves 55 = .ok (.getfield 9, 3) := by decide +kernel
theorem dX9_measureMoves_58 : decode cX9_measureMoves 58 = .ok (.iload_n 2, 1) := by decide +kernel
theorem dX9_measureMoves_59 : decode cX9_measureMoves 59 = .ok (.iaload, 1) := by decide +kernel
theorem dX9_measureMoves_60 : decode cX9_measureMoves 60 = .ok (.iload 4, 2) := by decide +kernel
theorem dX9_measureMoves_62 : decode cX9_measureMoves 62 = .ok (.invokevirtual 90, 3) := by decide +kernel
theorem dX9_measureMoves_65 : decode cX9_measureMoves 65 = .ok (.ifCond .eq 21, 3) := by decide +kernel
theorem dX9_measureMoves_68 : decode cX9_measureMoves 68 = .ok (.aload_n 0, 1) := by decide +kernel
theorem dX9_measureMoves_69 : decode cX9_measureMoves 69 = .ok (.getfield 20, 3) := by decide +kernel
theorem dX9_measureMoves_72 : decode cX9_measureMoves 72 = .ok (.iload_n 2, 1) := by decide +kernel
theorem dX9_measureMoves_73 : decode cX9_measureMoves 73 = .ok (.aaload, 1) := by decide +kernel
theorem dX9_measureMoves_74 : decode cX9_measureMoves 74 = .ok (.aload_n 1, 1) := by decide +kernel
theorem dX9_measureMoves_75 : decode cX9_measureMoves 75 = .ok (.getfield 87, 3) := by decide +kernel
theorem dX9_measureMoves_78 : decode cX9_measureMoves 78 = .ok (.iload 4, 2) := by decide +kernel
theorem dX9_measureMoves_80 : decode cX9_measureMoves 80 = .ok (.iaload, 1) := by decide +kernel
theorem dX9_measureMoves_81 : decode cX9_measureMoves 81 = .ok (.iload 5, 2) := by decide +kernel
theorem dX9_measureMoves_83 : decode cX9_measureMoves 83 = .ok (.iastore, 1) := by decide +kernel
theorem dX9_measureMoves_84 : decode cX9_measureMoves 84 = .ok (.iconst 1, 1) := by decide +kernel
theorem dX9_measureMoves_85 : decode cX9_measureMoves 85 = .ok (.istore_n 3, 1) := by decide +kernel
theorem dX9_measureMoves_86 : decode cX9_measureMoves 86 = .ok (.iinc 4 1, 3) := by decide +kernel
theorem dX9_measureMoves_89 : decode cX9_measureMoves 89 = .ok (.goto (-84), 3) := by decide +kernel
theorem dX9_measureMoves_92 : decode cX9_measureMoves 92 = .ok (.iload_n 3, 1) := by decide +kernel
theorem dX9_measureMoves_93 : decode cX9_measureMoves 93 = .ok (.ireturn, 1) := by decide +kernel
theorem dX9_layFewest_0 : decode cX9_layFewest 0 = .ok (.iload_n 2, 1) := by decide +kernel
theorem dX9_layFewest_1 : decode cX9_layFewest 1 = .ok (.istore 4, 2) := by decide +kernel
theorem dX9_layFewest_3 : decode cX9_layFewest 3 = .ok (.iconst 0, 1) := by decide +kernel
theorem dX9_layFewest_4 : decode cX9_layFewest 4 = .ok (.istore 5, 2) := by decide +kernel
theorem dX9_layFewest_6 : decode cX9_layFewest 6 = .ok (.iload 5, 2) := by decide +kernel
theorem dX9_layFewest_8 : decode cX9_layFewest 8 = .ok (.iload_n 3, 1) := by decide +kernel
theorem dX9_layFewest_9 : decode cX9_layFewest 9 = .ok (.if_icmp .ge 50, 3) := by decide +kernel
theorem dX9_layFewest_12 : decode cX9_layFewest 12 = .ok (.aload_n 0, 1) := by decide +kernel
theorem dX9_layFewest_13 : decode cX9_layFewest 13 = .ok (.aload_n 1, 1) := by decide +kernel
theorem dX9_layFewest_14 : decode cX9_layFewest 14 = .ok (.iload 4, 2) := by decide +kernel
theorem dX9_layFewest_16 : decode cX9_layFewest 16 = .ok (.iload 5, 2) := by decide +kernel
theorem dX9_layFewest_18 : decode cX9_layFewest 18 = .ok (.iconst 1, 1) := by decide +kernel
theorem dX9_layFewest_19 : decode cX9_layFewest 19 = .ok (.iand, 1) := by decide +kernel
theorem dX9_layFewest_20 : decode cX9_layFewest 20 = .ok (.iload_n 3, 1) := by decide +kernel
theorem dX9_layFewest_21 : decode cX9_layFewest 21 = .ok (.iload 5, 2) := by decide +kernel
theorem dX9_layFewest_23 : decode cX9_layFewest 23 = .ok (.isub, 1) := by decide +kernel
theorem dX9_layFewest_24 : decode cX9_layFewest 24 = .ok (.iconst 1, 1) := by decide +kernel
theorem dX9_layFewest_25 : decode cX9_layFewest 25 = .ok (.isub, 1) := by decide +kernel
theorem dX9_layFewest_26 : decode cX9_layFewest 26 = .ok (.invokevirtual 94, 3) := by decide +kernel
theorem dX9_layFewest_29 : decode cX9_layFewest 29 = .ok (.istore 6, 2) := by decide +kernel
theorem dX9_layFewest_31 : decode cX9_layFewest 31 = .ok (.iload 6, 2) := by decide +kernel
theorem dX9_layFewest_33 : decode cX9_layFewest 33 = .ok (.iconst (-1), 1) := by decide +kernel
theorem dX9_layFewest_34 : decode cX9_layFewest 34 = .ok (.if_icmp .ne 4, 3) := by decide +kernel
theorem dX9_layFewest_37 : decode cX9_layFewest 37 = .ok (.return_, 1) := by decide +kernel
theorem dX9_layFewest_38 : decode cX9_layFewest 38 = .ok (.aload_n 0, 1) := by decide +kernel
theorem dX9_layFewest_39 : decode cX9_layFewest 39 = .ok (.iload 6, 2) := by decide +kernel
theorem dX9_layFewest_41 : decode cX9_layFewest 41 = .ok (.invokevirtual 98, 3) := by decide +kernel
theorem dX9_layFewest_44 : decode cX9_layFewest 44 = .ok (.aload_n 1, 1) := by decide +kernel
theorem dX9_layFewest_45 : decode cX9_layFewest 45 = .ok (.getfield 84, 3) := by decide +kernel
theorem dX9_layFewest_48 : decode cX9_layFewest 48 = .ok (.iload 6, 2) := by decide +kernel
theorem dX9_layFewest_50 : decode cX9_layFewest 50 = .ok (.iaload, 1) := by decide +kernel
theorem dX9_layFewest_51 : decode cX9_layFewest 51 = .ok (.istore 4, 2) := by decide +kernel
theorem dX9_layFewest_53 : decode cX9_layFewest 53 = .ok (.iinc 5 1, 3) := by decide +kernel
theorem dX9_layFewest_56 : decode cX9_layFewest 56 = .ok (.goto (-50), 3) := by decide +kernel
theorem dX9_layFewest_59 : decode cX9_layFewest 59 = .ok (.return_, 1) := by decide +kernel
theorem dX9_firstNearer_0 : decode cX9_firstNearer 0 = .ok (.iconst 0, 1) := by decide +kernel
theorem dX9_firstNearer_1 : decode cX9_firstNearer 1 = .ok (.istore 5, 2) := by decide +kernel
theorem dX9_firstNearer_3 : decode cX9_firstNearer 3 = .ok (.iload 5, 2) := by decide +kernel
theorem dX9_firstNearer_5 : decode cX9_firstNearer 5 = .ok (.aload_n 1, 1) := by decide +kernel
theorem dX9_firstNearer_6 : decode cX9_firstNearer 6 = .ok (.getfield 81, 3) := by decide +kernel
theorem dX9_firstNearer_9 : decode cX9_firstNearer 9 = .ok (.if_icmp .ge 59, 3) := by decide +kernel
theorem dX9_firstNearer_12 : decode cX9_firstNearer 12 = .ok (.aload_n 1, 1) := by decide +kernel
theorem dX9_firstNearer_13 : decode cX9_firstNearer 13 = .ok (.getfield 87, 3) := by decide +kernel
theorem dX9_firstNearer_16 : decode cX9_firstNearer 16 = .ok (.iload 5, 2) := by decide +kernel
theorem dX9_firstNearer_18 : decode cX9_firstNearer 18 = .ok (.iaload, 1) := by decide +kernel
theorem dX9_firstNearer_19 : decode cX9_firstNearer 19 = .ok (.iload_n 2, 1) := by decide +kernel
theorem dX9_firstNearer_20 : decode cX9_firstNearer 20 = .ok (.if_icmp .ne 42, 3) := by decide +kernel
theorem dX9_firstNearer_23 : decode cX9_firstNearer 23 = .ok (.aload_n 0, 1) := by decide +kernel
theorem dX9_firstNearer_24 : decode cX9_firstNearer 24 = .ok (.getfield 20, 3) := by decide +kernel
theorem dX9_firstNearer_27 : decode cX9_firstNearer 27 = .ok (.iconst 1, 1) := by decide +kernel
theorem dX9_firstNearer_28 : decode cX9_firstNearer 28 = .ok (.iload_n 3, 1) := by decide +kernel
theorem dX9_firstNearer_29 : decode cX9_firstNearer 29 = .ok (.isub, 1) := by decide +kernel
theorem dX9_firstNearer_30 : decode cX9_firstNearer 30 = .ok (.aaload, 1) := by decide +kernel
theorem dX9_firstNearer_31 : decode cX9_firstNearer 31 = .ok (.aload_n 1, 1) := by decide +kernel
theorem dX9_firstNearer_32 : decode cX9_firstNearer 32 = .ok (.getfield 84, 3) := by decide +kernel
theorem dX9_firstNearer_35 : decode cX9_firstNearer 35 = .ok (.iload 5, 2) := by decide +kernel
theorem dX9_firstNearer_37 : decode cX9_firstNearer 37 = .ok (.iaload, 1) := by decide +kernel
theorem dX9_firstNearer_38 : decode cX9_firstNearer 38 = .ok (.iaload, 1) := by decide +kernel
theorem dX9_firstNearer_39 : decode cX9_firstNearer 39 = .ok (.iload 4, 2) := by decide +kernel
theorem dX9_firstNearer_41 : decode cX9_firstNearer 41 = .ok (.if_icmp .ne 21, 3) := by decide +kernel
theorem dX9_firstNearer_44 : decode cX9_firstNearer 44 = .ok (.aload_n 1, 1) := by decide +kernel
theorem dX9_firstNearer_45 : decode cX9_firstNearer 45 = .ok (.aload_n 0, 1) := by decide +kernel
theorem dX9_firstNearer_46 : decode cX9_firstNearer 46 = .ok (.getfield 9, 3) := by decide +kernel
theorem dX9_firstNearer_49 : decode cX9_firstNearer 49 = .ok (.iload_n 3, 1) := by decide +kernel
theorem dX9_firstNearer_50 : decode cX9_firstNearer 50 = .ok (.iaload, 1) := by decide +kernel
theorem dX9_firstNearer_51 : decode cX9_firstNearer 51 = .ok (.iload 5, 2) := by decide +kernel
theorem dX9_firstNearer_53 : decode cX9_firstNearer 53 = .ok (.invokevirtual 90, 3) := by decide +kernel
theorem dX9_firstNearer_56 : decode cX9_firstNearer 56 = .ok (.ifCond .eq 6, 3) := by decide +kernel
theorem dX9_firstNearer_59 : decode cX9_firstNearer 59 = .ok (.iload 5, 2) := by decide +kernel
theorem dX9_firstNearer_61 : decode cX9_firstNearer 61 = .ok (.ireturn, 1) := by decide +kernel
theorem dX9_firstNearer_62 : decode cX9_firstNearer 62 = .ok (.iinc 5 1, 3) := by decide +kernel
theorem dX9_firstNearer_65 : decode cX9_firstNearer 65 = .ok (.goto (-62), 3) := by decide +kernel
theorem dX9_firstNearer_68 : decode cX9_firstNearer 68 = .ok (.iconst (-1), 1) := by decide +kernel
theorem dX9_firstNearer_69 : decode cX9_firstNearer 69 = .ok (.ireturn, 1) := by decide +kernel
theorem dX9_likeliest_0 : decode cX9_likeliest 0 = .ok (.aload_n 1, 1) := by decide +kernel
theorem dX9_likeliest_1 : decode cX9_likeliest 1 = .ok (.aload_n 2, 1) := by decide +kernel
theorem dX9_likeliest_2 : decode cX9_likeliest 2 = .ok (.getfield 50, 3) := by decide +kernel
theorem dX9_likeliest_5 : decode cX9_likeliest 5 = .ok (.invokevirtual 53, 3) := by decide +kernel
theorem dX9_likeliest_8 : decode cX9_likeliest 8 = .ok (.ifCond .eq 12, 3) := by decide +kernel
theorem dX9_likeliest_11 : decode cX9_likeliest 11 = .ok (.aload_n 1, 1) := by decide +kernel
theorem dX9_likeliest_12 : decode cX9_likeliest 12 = .ok (.iload 4, 2) := by decide +kernel
theorem dX9_likeliest_14 : decode cX9_likeliest 14 = .ok (.invokevirtual 53, 3) := by decide +kernel
theorem dX9_likeliest_17 : decode cX9_likeliest 17 = .ok (.ifCond .ne 5, 3) := by decide +kernel
theorem dX9_likeliest_20 : decode cX9_likeliest 20 = .ok (.iconst 0, 1) := by decide +kernel
theorem dX9_likeliest_21 : decode cX9_likeliest 21 = .ok (.ireturn, 1) := by decide +kernel
theorem dX9_likeliest_22 : decode cX9_likeliest 22 = .ok (.aload_n 0, 1) := by decide +kernel
theorem dX9_likeliest_23 : decode cX9_likeliest 23 = .ok (.aload_n 2, 1) := by decide +kernel
theorem dX9_likeliest_24 : decode cX9_likeliest 24 = .ok (.iload_n 3, 1) := by decide +kernel
theorem dX9_likeliest_25 : decode cX9_likeliest 25 = .ok (.invokevirtual 59, 3) := by decide +kernel
theorem dX9_likeliest_28 : decode cX9_likeliest 28 = .ok (.aload_n 0, 1) := by decide +kernel
theorem dX9_likeliest_29 : decode cX9_likeliest 29 = .ok (.aload_n 1, 1) := by decide +kernel
theorem dX9_likeliest_30 : decode cX9_likeliest 30 = .ok (.aload_n 2, 1) := by decide +kernel
theorem dX9_likeliest_31 : decode cX9_likeliest 31 = .ok (.iload 4, 2) := by decide +kernel
theorem dX9_likeliest_33 : decode cX9_likeliest 33 = .ok (.invokevirtual 102, 3) := by decide +kernel
theorem dX9_likeliest_36 : decode cX9_likeliest 36 = .ok (.aload_n 0, 1) := by decide +kernel
theorem dX9_likeliest_37 : decode cX9_likeliest 37 = .ok (.aload_n 2, 1) := by decide +kernel
theorem dX9_likeliest_38 : decode cX9_likeliest 38 = .ok (.getfield 50, 3) := by decide +kernel
theorem dX9_likeliest_41 : decode cX9_likeliest 41 = .ok (.invokevirtual 106, 3) := by decide +kernel
theorem dX9_likeliest_44 : decode cX9_likeliest 44 = .ok (.istore 5, 2) := by decide +kernel
theorem dX9_likeliest_46 : decode cX9_likeliest 46 = .ok (.iload 5, 2) := by decide +kernel
theorem dX9_likeliest_48 : decode cX9_likeliest 48 = .ok (.iconst (-1), 1) := by decide +kernel
theorem dX9_likeliest_49 : decode cX9_likeliest 49 = .ok (.if_icmp .ne 5, 3) := by decide +kernel
theorem dX9_likeliest_52 : decode cX9_likeliest 52 = .ok (.iconst 0, 1) := by decide +kernel
theorem dX9_likeliest_53 : decode cX9_likeliest 53 = .ok (.ireturn, 1) := by decide +kernel
theorem dX9_likeliest_54 : decode cX9_likeliest 54 = .ok (.aload_n 0, 1) := by decide +kernel
theorem dX9_likeliest_55 : decode cX9_likeliest 55 = .ok (.getfield 26, 3) := by decide +kernel
theorem dX9_likeliest_58 : decode cX9_likeliest 58 = .ok (.iload 5, 2) := by decide +kernel
theorem dX9_likeliest_60 : decode cX9_likeliest 60 = .ok (.aaload, 1) := by decide +kernel
theorem dX9_likeliest_61 : decode cX9_likeliest 61 = .ok (.aload_n 2, 1) := by decide +kernel
theorem dX9_likeliest_62 : decode cX9_likeliest 62 = .ok (.getfield 50, 3) := by decide +kernel
theorem dX9_likeliest_65 : decode cX9_likeliest 65 = .ok (.iaload, 1) := by decide +kernel
theorem dX9_likeliest_66 : decode cX9_likeliest 66 = .ok (.istore 6, 2) := by decide +kernel
theorem dX9_likeliest_68 : decode cX9_likeliest 68 = .ok (.aload_n 0, 1) := by decide +kernel
theorem dX9_likeliest_69 : decode cX9_likeliest 69 = .ok (.aload_n 1, 1) := by decide +kernel
theorem dX9_likeliest_70 : decode cX9_likeliest 70 = .ok (.aload_n 2, 1) := by decide +kernel
theorem dX9_likeliest_71 : decode cX9_likeliest 71 = .ok (.getfield 50, 3) := by decide +kernel
theorem dX9_likeliest_74 : decode cX9_likeliest 74 = .ok (.iload 5, 2) := by decide +kernel
theorem dX9_likeliest_76 : decode cX9_likeliest 76 = .ok (.iload 6, 2) := by decide +kernel
theorem dX9_likeliest_78 : decode cX9_likeliest 78 = .ok (.invokevirtual 110, 3) := by decide +kernel
theorem dX9_likeliest_81 : decode cX9_likeliest 81 = .ok (.iload 5, 2) := by decide +kernel
theorem dX9_likeliest_83 : decode cX9_likeliest 83 = .ok (.invokestatic 114, 3) := by decide +kernel
theorem dX9_likeliest_86 : decode cX9_likeliest 86 = .ok (.istore 7, 2) := by decide +kernel
theorem dX9_likeliest_88 : decode cX9_likeliest 88 = .ok (.iload 6, 2) := by decide +kernel
theorem dX9_likeliest_90 : decode cX9_likeliest 90 = .ok (.iload 7, 2) := by decide +kernel
theorem dX9_likeliest_92 : decode cX9_likeliest 92 = .ok (.invokestatic 117, 3) := by decide +kernel
theorem dX9_likeliest_95 : decode cX9_likeliest 95 = .ok (.istore 8, 2) := by decide +kernel
theorem dX9_likeliest_97 : decode cX9_likeliest 97 = .ok (.aload_n 0, 1) := by decide +kernel
theorem dX9_likeliest_98 : decode cX9_likeliest 98 = .ok (.iload 6, 2) := by decide +kernel
theorem dX9_likeliest_100 : decode cX9_likeliest 100 = .ok (.iload 8, 2) := by decide +kernel
theorem dX9_likeliest_102 : decode cX9_likeliest 102 = .ok (.idiv, 1) := by decide +kernel
theorem dX9_likeliest_103 : decode cX9_likeliest 103 = .ok (.putfield 39, 3) := by decide +kernel
theorem dX9_likeliest_106 : decode cX9_likeliest 106 = .ok (.aload_n 0, 1) := by decide +kernel
theorem dX9_likeliest_107 : decode cX9_likeliest 107 = .ok (.iload 7, 2) := by decide +kernel
theorem dX9_likeliest_109 : decode cX9_likeliest 109 = .ok (.iload 8, 2) := by decide +kernel
theorem dX9_likeliest_111 : decode cX9_likeliest 111 = .ok (.idiv, 1) := by decide +kernel
theorem dX9_likeliest_112 : decode cX9_likeliest 112 = .ok (.putfield 42, 3) := by decide +kernel
theorem dX9_likeliest_115 : decode cX9_likeliest 115 = .ok (.iconst 1, 1) := by decide +kernel
theorem dX9_likeliest_116 : decode cX9_likeliest 116 = .ok (.ireturn, 1) := by decide +kernel
theorem dX9_weigh_0 : decode cX9_weigh 0 = .ok (.iconst 0, 1) := by decide +kernel
theorem dX9_weigh_1 : decode cX9_weigh 1 = .ok (.istore 4, 2) := by decide +kernel
theorem dX9_weigh_3 : decode cX9_weigh 3 = .ok (.iload 4, 2) := by decide +kernel
theorem dX9_weigh_5 : decode cX9_weigh 5 = .ok (.aload_n 1, 1) := by decide +kernel
theorem dX9_weigh_6 : decode cX9_weigh 6 = .ok (.getfield 81, 3) := by decide +kernel
theorem dX9_weigh_9 : decode cX9_weigh 9 = .ok (.if_icmp .ge 59, 3) := by decide +kernel
theorem dX9_weigh_12 : decode cX9_weigh 12 = .ok (.aload_n 0, 1) := by decide +kernel
theorem dX9_weigh_13 : decode cX9_weigh 13 = .ok (.getfield 23, 3) := by decide +kernel
theorem dX9_weigh_16 : decode cX9_weigh 16 = .ok (.iconst 0, 1) := by decide +kernel
theorem dX9_weigh_17 : decode cX9_weigh 17 = .ok (.aaload, 1) := by decide +kernel
theorem dX9_weigh_18 : decode cX9_weigh 18 = .ok (.iload 4, 2) := by decide +kernel
theorem dX9_weigh_20 : decode cX9_weigh 20 = .ok (.bipush 100, 2) := by decide +kernel
theorem dX9_weigh_22 : decode cX9_weigh 22 = .ok (.aload_n 1, 1) := by decide +kernel
theorem dX9_weigh_23 : decode cX9_weigh 23 = .ok (.aload_n 0, 1) := by decide +kernel
theorem dX9_weigh_24 : decode cX9_weigh 24 = .ok (.getfield 9, 3) := by decide +kernel
theorem dX9_weigh_27 : decode cX9_weigh 27 = .ok (.iconst 0, 1) := by decide +kernel
theorem dX9_weigh_28 : decode cX9_weigh 28 = .ok (.iaload, 1) := by decide +kernel
theorem dX9_weigh_29 : decode cX9_weigh 29 = .ok (.iload 4, 2) := by decide +kernel
theorem dX9_weigh_31 : decode cX9_weigh 31 = .ok (.aload_n 2, 1) := by decide +kernel
theorem dX9_weigh_32 : decode cX9_weigh 32 = .ok (.invokevirtual 121, 3) := by decide +kernel
theorem dX9_weigh_35 : decode cX9_weigh 35 = .ok (.isub, 1) := by decide +kernel
theorem dX9_weigh_36 : decode cX9_weigh 36 = .ok (.iastore, 1) := by decide +kernel
theorem dX9_weigh_37 : decode cX9_weigh 37 = .ok (.aload_n 0, 1) := by decide +kernel
theorem dX9_weigh_38 : decode cX9_weigh 38 = .ok (.getfield 23, 3) := by decide +kernel
theorem dX9_weigh_41 : decode cX9_weigh 41 = .ok (.iconst 1, 1) := by decide +kernel
theorem dX9_weigh_42 : decode cX9_weigh 42 = .ok (.aaload, 1) := by decide +kernel
theorem dX9_weigh_43 : decode cX9_weigh 43 = .ok (.iload 4, 2) := by decide +kernel
theorem dX9_weigh_45 : decode cX9_weigh 45 = .ok (.bipush 100, 2) := by decide +kernel
theorem dX9_weigh_47 : decode cX9_weigh 47 = .ok (.aload_n 1, 1) := by decide +kernel
theorem dX9_weigh_48 : decode cX9_weigh 48 = .ok (.aload_n 0, 1) := by decide +kernel
theorem dX9_weigh_49 : decode cX9_weigh 49 = .ok (.getfield 9, 3) := by decide +kernel
theorem dX9_weigh_52 : decode cX9_weigh 52 = .ok (.iconst 1, 1) := by decide +kernel
theorem dX9_weigh_53 : decode cX9_weigh 53 = .ok (.iaload, 1) := by decide +kernel
theorem dX9_weigh_54 : decode cX9_weigh 54 = .ok (.iload 4, 2) := by decide +kernel
theorem dX9_weigh_56 : decode cX9_weigh 56 = .ok (.aload_n 2, 1) := by decide +kernel
theorem dX9_weigh_57 : decode cX9_weigh 57 = .ok (.invokevirtual 121, 3) := by decide +kernel
theorem dX9_weigh_60 : decode cX9_weigh 60 = .ok (.isub, 1) := by decide +kernel
theorem dX9_weigh_61 : decode cX9_weigh 61 = .ok (.iastore, 1) := by decide +kernel
theorem dX9_weigh_62 : decode cX9_weigh 62 = .ok (.iinc 4 1, 3) := by decide +kernel
theorem dX9_weigh_65 : decode cX9_weigh 65 = .ok (.goto (-62), 3) := by decide +kernel
theorem dX9_weigh_68 : decode cX9_weigh 68 = .ok (.aload_n 0, 1) := by decide +kernel
theorem dX9_weigh_69 : decode cX9_weigh 69 = .ok (.getfield 26, 3) := by decide +kernel
theorem dX9_weigh_72 : decode cX9_weigh 72 = .ok (.iconst 0, 1) := by decide +kernel
theorem dX9_weigh_73 : decode cX9_weigh 73 = .ok (.aaload, 1) := by decide +kernel
theorem dX9_weigh_74 : decode cX9_weigh 74 = .ok (.iconst (-1), 1) := by decide +kernel
theorem dX9_weigh_75 : decode cX9_weigh 75 = .ok (.invokestatic 71, 3) := by decide +kernel
theorem dX9_weigh_78 : decode cX9_weigh 78 = .ok (.aload_n 0, 1) := by decide +kernel
theorem dX9_weigh_79 : decode cX9_weigh 79 = .ok (.getfield 26, 3) := by decide +kernel
theorem dX9_weigh_82 : decode cX9_weigh 82 = .ok (.iconst 0, 1) := by decide +kernel
theorem dX9_weigh_83 : decode cX9_weigh 83 = .ok (.aaload, 1) := by decide +kernel
theorem dX9_weigh_84 : decode cX9_weigh 84 = .ok (.iload_n 3, 1) := by decide +kernel
theorem dX9_weigh_85 : decode cX9_weigh 85 = .ok (.iconst 1, 1) := by decide +kernel
theorem dX9_weigh_86 : decode cX9_weigh 86 = .ok (.iastore, 1) := by decide +kernel
theorem dX9_weigh_87 : decode cX9_weigh 87 = .ok (.aload_n 0, 1) := by decide +kernel
theorem dX9_weigh_88 : decode cX9_weigh 88 = .ok (.getfield 26, 3) := by decide +kernel
theorem dX9_weigh_91 : decode cX9_weigh 91 = .ok (.iconst 0, 1) := by decide +kernel
theorem dX9_weigh_92 : decode cX9_weigh 92 = .ok (.aaload, 1) := by decide +kernel
theorem dX9_weigh_93 : decode cX9_weigh 93 = .ok (.bipush 8, 2) := by decide +kernel
theorem dX9_weigh_95 : decode cX9_weigh 95 = .ok (.iload_n 3, 1) := by decide +kernel
theorem dX9_weigh_96 : decode cX9_weigh 96 = .ok (.iadd, 1) := by decide +kernel
theorem dX9_weigh_97 : decode cX9_weigh 97 = .ok (.iconst 1, 1) := by decide +kernel
theorem dX9_weigh_98 : decode cX9_weigh 98 = .ok (.iastore, 1) := by decide +kernel
theorem dX9_weigh_99 : decode cX9_weigh 99 = .ok (.iconst 1, 1) := by decide +kernel
theorem dX9_weigh_100 : decode cX9_weigh 100 = .ok (.istore 4, 2) := by decide +kernel
theorem dX9_weigh_102 : decode cX9_weigh 102 = .ok (.iload 4, 2) := by decide +kernel
theorem dX9_weigh_104 : decode cX9_weigh 104 = .ok (.iconst 4, 1) := by decide +kernel
theorem dX9_weigh_105 : decode cX9_weigh 105 = .ok (.if_icmp .gt 36, 3) := by decide +kernel
theorem dX9_weigh_108 : decode cX9_weigh 108 = .ok (.aload_n 0, 1) := by decide +kernel
theorem dX9_weigh_109 : decode cX9_weigh 109 = .ok (.getfield 26, 3) := by decide +kernel
theorem dX9_weigh_112 : decode cX9_weigh 112 = .ok (.iload 4, 2) := by decide +kernel
theorem dX9_weigh_114 : decode cX9_weigh 114 = .ok (.aaload, 1) := by decide +kernel
theorem dX9_weigh_115 : decode cX9_weigh 115 = .ok (.iconst (-1), 1) := by decide +kernel
