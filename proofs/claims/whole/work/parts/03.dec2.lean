theorem dX9_weigh_116 : decode cX9_weigh 116 = .ok (.invokestatic 71, 3) := by decide +kernel
theorem dX9_weigh_119 : decode cX9_weigh 119 = .ok (.aload_n 0, 1) := by decide +kernel
theorem dX9_weigh_120 : decode cX9_weigh 120 = .ok (.aload_n 1, 1) := by decide +kernel
theorem dX9_weigh_121 : decode cX9_weigh 121 = .ok (.iload 4, 2) := by decide +kernel
theorem dX9_weigh_123 : decode cX9_weigh 123 = .ok (.iconst 0, 1) := by decide +kernel
theorem dX9_weigh_124 : decode cX9_weigh 124 = .ok (.invokevirtual 125, 3) := by decide +kernel
theorem dX9_weigh_127 : decode cX9_weigh 127 = .ok (.aload_n 0, 1) := by decide +kernel
theorem dX9_weigh_128 : decode cX9_weigh 128 = .ok (.aload_n 1, 1) := by decide +kernel
theorem dX9_weigh_129 : decode cX9_weigh 129 = .ok (.iload 4, 2) := by decide +kernel
theorem dX9_weigh_131 : decode cX9_weigh 131 = .ok (.iconst 1, 1) := by decide +kernel
theorem dX9_weigh_132 : decode cX9_weigh 132 = .ok (.invokevirtual 125, 3) := by decide +kernel
theorem dX9_weigh_135 : decode cX9_weigh 135 = .ok (.iinc 4 1, 3) := by decide +kernel
theorem dX9_weigh_138 : decode cX9_weigh 138 = .ok (.goto (-36), 3) := by decide +kernel
theorem dX9_weigh_141 : decode cX9_weigh 141 = .ok (.return_, 1) := by decide +kernel
theorem dX9_weighMoves_0 : decode cX9_weighMoves 0 = .ok (.iconst 0, 1) := by decide +kernel
theorem dX9_weighMoves_1 : decode cX9_weighMoves 1 = .ok (.istore 4, 2) := by decide +kernel
theorem dX9_weighMoves_3 : decode cX9_weighMoves 3 = .ok (.iload 4, 2) := by decide +kernel
theorem dX9_weighMoves_5 : decode cX9_weighMoves 5 = .ok (.aload_n 1, 1) := by decide +kernel
theorem dX9_weighMoves_6 : decode cX9_weighMoves 6 = .ok (.getfield 81, 3) := by decide +kernel
theorem dX9_weighMoves_9 : decode cX9_weighMoves 9 = .ok (.if_icmp .ge 102, 3) := by decide +kernel
theorem dX9_weighMoves_12 : decode cX9_weighMoves 12 = .ok (.aload_n 0, 1) := by decide +kernel
theorem dX9_weighMoves_13 : decode cX9_weighMoves 13 = .ok (.getfield 26, 3) := by decide +kernel
theorem dX9_weighMoves_16 : decode cX9_weighMoves 16 = .ok (.iload_n 2, 1) := by decide +kernel
theorem dX9_weighMoves_17 : decode cX9_weighMoves 17 = .ok (.iconst 1, 1) := by decide +kernel
theorem dX9_weighMoves_18 : decode cX9_weighMoves 18 = .ok (.isub, 1) := by decide +kernel
theorem dX9_weighMoves_19 : decode cX9_weighMoves 19 = .ok (.aaload, 1) := by decide +kernel
theorem dX9_weighMoves_20 : decode cX9_weighMoves 20 = .ok (.iconst 1, 1) := by decide +kernel
theorem dX9_weighMoves_21 : decode cX9_weighMoves 21 = .ok (.iload_n 3, 1) := by decide +kernel
theorem dX9_weighMoves_22 : decode cX9_weighMoves 22 = .ok (.isub, 1) := by decide +kernel
theorem dX9_weighMoves_23 : decode cX9_weighMoves 23 = .ok (.bipush 8, 2) := by decide +kernel
theorem dX9_weighMoves_25 : decode cX9_weighMoves 25 = .ok (.imul, 1) := by decide +kernel
theorem dX9_weighMoves_26 : decode cX9_weighMoves 26 = .ok (.aload_n 1, 1) := by decide +kernel
theorem dX9_weighMoves_27 : decode cX9_weighMoves 27 = .ok (.getfield 84, 3) := by decide +kernel
theorem dX9_weighMoves_30 : decode cX9_weighMoves 30 = .ok (.iload 4, 2) := by decide +kernel
theorem dX9_weighMoves_32 : decode cX9_weighMoves 32 = .ok (.iaload, 1) := by decide +kernel
theorem dX9_weighMoves_33 : decode cX9_weighMoves 33 = .ok (.iadd, 1) := by decide +kernel
theorem dX9_weighMoves_34 : decode cX9_weighMoves 34 = .ok (.iaload, 1) := by decide +kernel
theorem dX9_weighMoves_35 : decode cX9_weighMoves 35 = .ok (.istore 5, 2) := by decide +kernel
theorem dX9_weighMoves_37 : decode cX9_weighMoves 37 = .ok (.iload 5, 2) := by decide +kernel
theorem dX9_weighMoves_39 : decode cX9_weighMoves 39 = .ok (.iconst (-1), 1) := by decide +kernel
theorem dX9_weighMoves_40 : decode cX9_weighMoves 40 = .ok (.if_icmp .eq 65, 3) := by decide +kernel
theorem dX9_weighMoves_43 : decode cX9_weighMoves 43 = .ok (.aload_n 1, 1) := by decide +kernel
theorem dX9_weighMoves_44 : decode cX9_weighMoves 44 = .ok (.aload_n 0, 1) := by decide +kernel
theorem dX9_weighMoves_45 : decode cX9_weighMoves 45 = .ok (.getfield 9, 3) := by decide +kernel
theorem dX9_weighMoves_48 : decode cX9_weighMoves 48 = .ok (.iload_n 3, 1) := by decide +kernel
theorem dX9_weighMoves_49 : decode cX9_weighMoves 49 = .ok (.iaload, 1) := by decide +kernel
theorem dX9_weighMoves_50 : decode cX9_weighMoves 50 = .ok (.iload 4, 2) := by decide +kernel
theorem dX9_weighMoves_52 : decode cX9_weighMoves 52 = .ok (.invokevirtual 90, 3) := by decide +kernel
theorem dX9_weighMoves_55 : decode cX9_weighMoves 55 = .ok (.ifCond .eq 50, 3) := by decide +kernel
theorem dX9_weighMoves_58 : decode cX9_weighMoves 58 = .ok (.iload_n 3, 1) := by decide +kernel
theorem dX9_weighMoves_59 : decode cX9_weighMoves 59 = .ok (.bipush 8, 2) := by decide +kernel
theorem dX9_weighMoves_61 : decode cX9_weighMoves 61 = .ok (.imul, 1) := by decide +kernel
theorem dX9_weighMoves_62 : decode cX9_weighMoves 62 = .ok (.aload_n 1, 1) := by decide +kernel
theorem dX9_weighMoves_63 : decode cX9_weighMoves 63 = .ok (.getfield 87, 3) := by decide +kernel
theorem dX9_weighMoves_66 : decode cX9_weighMoves 66 = .ok (.iload 4, 2) := by decide +kernel
theorem dX9_weighMoves_68 : decode cX9_weighMoves 68 = .ok (.iaload, 1) := by decide +kernel
theorem dX9_weighMoves_69 : decode cX9_weighMoves 69 = .ok (.iadd, 1) := by decide +kernel
theorem dX9_weighMoves_70 : decode cX9_weighMoves 70 = .ok (.istore 6, 2) := by decide +kernel
theorem dX9_weighMoves_72 : decode cX9_weighMoves 72 = .ok (.aload_n 0, 1) := by decide +kernel
theorem dX9_weighMoves_73 : decode cX9_weighMoves 73 = .ok (.getfield 26, 3) := by decide +kernel
theorem dX9_weighMoves_76 : decode cX9_weighMoves 76 = .ok (.iload_n 2, 1) := by decide +kernel
theorem dX9_weighMoves_77 : decode cX9_weighMoves 77 = .ok (.aaload, 1) := by decide +kernel
theorem dX9_weighMoves_78 : decode cX9_weighMoves 78 = .ok (.iload 6, 2) := by decide +kernel
theorem dX9_weighMoves_80 : decode cX9_weighMoves 80 = .ok (.aload_n 0, 1) := by decide +kernel
theorem dX9_weighMoves_81 : decode cX9_weighMoves 81 = .ok (.getfield 26, 3) := by decide +kernel
theorem dX9_weighMoves_84 : decode cX9_weighMoves 84 = .ok (.iload_n 2, 1) := by decide +kernel
theorem dX9_weighMoves_85 : decode cX9_weighMoves 85 = .ok (.aaload, 1) := by decide +kernel
theorem dX9_weighMoves_86 : decode cX9_weighMoves 86 = .ok (.iload 6, 2) := by decide +kernel
theorem dX9_weighMoves_88 : decode cX9_weighMoves 88 = .ok (.iaload, 1) := by decide +kernel
theorem dX9_weighMoves_89 : decode cX9_weighMoves 89 = .ok (.aload_n 0, 1) := by decide +kernel
theorem dX9_weighMoves_90 : decode cX9_weighMoves 90 = .ok (.getfield 23, 3) := by decide +kernel
theorem dX9_weighMoves_93 : decode cX9_weighMoves 93 = .ok (.iload_n 3, 1) := by decide +kernel
theorem dX9_weighMoves_94 : decode cX9_weighMoves 94 = .ok (.aaload, 1) := by decide +kernel
theorem dX9_weighMoves_95 : decode cX9_weighMoves 95 = .ok (.iload 4, 2) := by decide +kernel
theorem dX9_weighMoves_97 : decode cX9_weighMoves 97 = .ok (.iaload, 1) := by decide +kernel
theorem dX9_weighMoves_98 : decode cX9_weighMoves 98 = .ok (.iload 5, 2) := by decide +kernel
theorem dX9_weighMoves_100 : decode cX9_weighMoves 100 = .ok (.imul, 1) := by decide +kernel
theorem dX9_weighMoves_101 : decode cX9_weighMoves 101 = .ok (.invokestatic 128, 3) := by decide +kernel
theorem dX9_weighMoves_104 : decode cX9_weighMoves 104 = .ok (.iastore, 1) := by decide +kernel
theorem dX9_weighMoves_105 : decode cX9_weighMoves 105 = .ok (.iinc 4 1, 3) := by decide +kernel
theorem dX9_weighMoves_108 : decode cX9_weighMoves 108 = .ok (.goto (-105), 3) := by decide +kernel
theorem dX9_weighMoves_111 : decode cX9_weighMoves 111 = .ok (.return_, 1) := by decide +kernel
theorem dX9_likeliestLength_0 : decode cX9_likeliestLength 0 = .ok (.iconst (-1), 1) := by decide +kernel
theorem dX9_likeliestLength_1 : decode cX9_likeliestLength 1 = .ok (.istore_n 2, 1) := by decide +kernel
theorem dX9_likeliestLength_2 : decode cX9_likeliestLength 2 = .ok (.iconst (-1), 1) := by decide +kernel
theorem dX9_likeliestLength_3 : decode cX9_likeliestLength 3 = .ok (.istore_n 3, 1) := by decide +kernel
theorem dX9_likeliestLength_4 : decode cX9_likeliestLength 4 = .ok (.iconst 0, 1) := by decide +kernel
theorem dX9_likeliestLength_5 : decode cX9_likeliestLength 5 = .ok (.istore 4, 2) := by decide +kernel
theorem dX9_likeliestLength_7 : decode cX9_likeliestLength 7 = .ok (.iload 4, 2) := by decide +kernel
theorem dX9_likeliestLength_9 : decode cX9_likeliestLength 9 = .ok (.iconst 4, 1) := by decide +kernel
theorem dX9_likeliestLength_10 : decode cX9_likeliestLength 10 = .ok (.if_icmp .gt 54, 3) := by decide +kernel
theorem dX9_likeliestLength_13 : decode cX9_likeliestLength 13 = .ok (.aload_n 0, 1) := by decide +kernel
theorem dX9_likeliestLength_14 : decode cX9_likeliestLength 14 = .ok (.getfield 26, 3) := by decide +kernel
theorem dX9_likeliestLength_17 : decode cX9_likeliestLength 17 = .ok (.iload 4, 2) := by decide +kernel
theorem dX9_likeliestLength_19 : decode cX9_likeliestLength 19 = .ok (.aaload, 1) := by decide +kernel
theorem dX9_likeliestLength_20 : decode cX9_likeliestLength 20 = .ok (.iload_n 1, 1) := by decide +kernel
theorem dX9_likeliestLength_21 : decode cX9_likeliestLength 21 = .ok (.iaload, 1) := by decide +kernel
theorem dX9_likeliestLength_22 : decode cX9_likeliestLength 22 = .ok (.istore 5, 2) := by decide +kernel
theorem dX9_likeliestLength_24 : decode cX9_likeliestLength 24 = .ok (.iload 5, 2) := by decide +kernel
theorem dX9_likeliestLength_26 : decode cX9_likeliestLength 26 = .ok (.iconst (-1), 1) := by decide +kernel
theorem dX9_likeliestLength_27 : decode cX9_likeliestLength 27 = .ok (.if_icmp .ne 7, 3) := by decide +kernel
theorem dX9_likeliestLength_30 : decode cX9_likeliestLength 30 = .ok (.iconst (-1), 1) := by decide +kernel
theorem dX9_likeliestLength_31 : decode cX9_likeliestLength 31 = .ok (.goto 13, 3) := by decide +kernel
theorem dX9_likeliestLength_34 : decode cX9_likeliestLength 34 = .ok (.iload 5, 2) := by decide +kernel
theorem dX9_likeliestLength_36 : decode cX9_likeliestLength 36 = .ok (.iconst 4, 1) := by decide +kernel
theorem dX9_likeliestLength_37 : decode cX9_likeliestLength 37 = .ok (.iload 4, 2) := by decide +kernel
theorem dX9_likeliestLength_39 : decode cX9_likeliestLength 39 = .ok (.isub, 1) := by decide +kernel
theorem dX9_likeliestLength_40 : decode cX9_likeliestLength 40 = .ok (.invokestatic 114, 3) := by decide +kernel
theorem dX9_likeliestLength_43 : decode cX9_likeliestLength 43 = .ok (.imul, 1) := by decide +kernel
theorem dX9_likeliestLength_44 : decode cX9_likeliestLength 44 = .ok (.istore 6, 2) := by decide +kernel
theorem dX9_likeliestLength_46 : decode cX9_likeliestLength 46 = .ok (.iload 6, 2) := by decide +kernel
theorem dX9_likeliestLength_48 : decode cX9_likeliestLength 48 = .ok (.iload_n 3, 1) := by decide +kernel
theorem dX9_likeliestLength_49 : decode cX9_likeliestLength 49 = .ok (.if_icmp .le 9, 3) := by decide +kernel
theorem dX9_likeliestLength_52 : decode cX9_likeliestLength 52 = .ok (.iload 6, 2) := by decide +kernel
theorem dX9_likeliestLength_54 : decode cX9_likeliestLength 54 = .ok (.istore_n 3, 1) := by decide +kernel
theorem dX9_likeliestLength_55 : decode cX9_likeliestLength 55 = .ok (.iload 4, 2) := by decide +kernel
theorem dX9_likeliestLength_57 : decode cX9_likeliestLength 57 = .ok (.istore_n 2, 1) := by decide +kernel
theorem dX9_likeliestLength_58 : decode cX9_likeliestLength 58 = .ok (.iinc 4 1, 3) := by decide +kernel
theorem dX9_likeliestLength_61 : decode cX9_likeliestLength 61 = .ok (.goto (-54), 3) := by decide +kernel
theorem dX9_likeliestLength_64 : decode cX9_likeliestLength 64 = .ok (.iload_n 2, 1) := by decide +kernel
theorem dX9_likeliestLength_65 : decode cX9_likeliestLength 65 = .ok (.ireturn, 1) := by decide +kernel
theorem dX9_layLikeliest_0 : decode cX9_layLikeliest 0 = .ok (.iload_n 2, 1) := by decide +kernel
theorem dX9_layLikeliest_1 : decode cX9_layLikeliest 1 = .ok (.istore 5, 2) := by decide +kernel
theorem dX9_layLikeliest_3 : decode cX9_layLikeliest 3 = .ok (.iconst 1, 1) := by decide +kernel
theorem dX9_layLikeliest_4 : decode cX9_layLikeliest 4 = .ok (.istore 6, 2) := by decide +kernel
theorem dX9_layLikeliest_6 : decode cX9_layLikeliest 6 = .ok (.iconst 0, 1) := by decide +kernel
theorem dX9_layLikeliest_7 : decode cX9_layLikeliest 7 = .ok (.istore 7, 2) := by decide +kernel
theorem dX9_layLikeliest_9 : decode cX9_layLikeliest 9 = .ok (.iload 7, 2) := by decide +kernel
theorem dX9_layLikeliest_11 : decode cX9_layLikeliest 11 = .ok (.iload_n 3, 1) := by decide +kernel
theorem dX9_layLikeliest_12 : decode cX9_layLikeliest 12 = .ok (.if_icmp .ge 162, 3) := by decide +kernel
theorem dX9_layLikeliest_15 : decode cX9_layLikeliest 15 = .ok (.iload 7, 2) := by decide +kernel
theorem dX9_layLikeliest_17 : decode cX9_layLikeliest 17 = .ok (.iconst 1, 1) := by decide +kernel
theorem dX9_layLikeliest_18 : decode cX9_layLikeliest 18 = .ok (.iand, 1) := by decide +kernel
theorem dX9_layLikeliest_19 : decode cX9_layLikeliest 19 = .ok (.istore 8, 2) := by decide +kernel
theorem dX9_layLikeliest_21 : decode cX9_layLikeliest 21 = .ok (.iconst (-1), 1) := by decide +kernel
theorem dX9_layLikeliest_22 : decode cX9_layLikeliest 22 = .ok (.istore 9, 2) := by decide +kernel
theorem dX9_layLikeliest_24 : decode cX9_layLikeliest 24 = .ok (.aload_n 1, 1) := by decide +kernel
theorem dX9_layLikeliest_25 : decode cX9_layLikeliest 25 = .ok (.getfield 81, 3) := by decide +kernel
theorem dX9_layLikeliest_28 : decode cX9_layLikeliest 28 = .ok (.iconst 1, 1) := by decide +kernel
theorem dX9_layLikeliest_29 : decode cX9_layLikeliest 29 = .ok (.isub, 1) := by decide +kernel
theorem dX9_layLikeliest_30 : decode cX9_layLikeliest 30 = .ok (.istore 10, 2) := by decide +kernel
theorem dX9_layLikeliest_32 : decode cX9_layLikeliest 32 = .ok (.iload 10, 2) := by decide +kernel
theorem dX9_layLikeliest_34 : decode cX9_layLikeliest 34 = .ok (.ifCond .lt 97, 3) := by decide +kernel
theorem dX9_layLikeliest_37 : decode cX9_layLikeliest 37 = .ok (.aload_n 0, 1) := by decide +kernel
theorem dX9_layLikeliest_38 : decode cX9_layLikeliest 38 = .ok (.getfield 26, 3) := by decide +kernel
theorem dX9_layLikeliest_41 : decode cX9_layLikeliest 41 = .ok (.iload_n 3, 1) := by decide +kernel
theorem dX9_layLikeliest_42 : decode cX9_layLikeliest 42 = .ok (.iload 7, 2) := by decide +kernel
theorem dX9_layLikeliest_44 : decode cX9_layLikeliest 44 = .ok (.isub, 1) := by decide +kernel
theorem dX9_layLikeliest_45 : decode cX9_layLikeliest 45 = .ok (.iconst 1, 1) := by decide +kernel
theorem dX9_layLikeliest_46 : decode cX9_layLikeliest 46 = .ok (.isub, 1) := by decide +kernel
theorem dX9_layLikeliest_47 : decode cX9_layLikeliest 47 = .ok (.aaload, 1) := by decide +kernel
theorem dX9_layLikeliest_48 : decode cX9_layLikeliest 48 = .ok (.iconst 1, 1) := by decide +kernel
theorem dX9_layLikeliest_49 : decode cX9_layLikeliest 49 = .ok (.iload 8, 2) := by decide +kernel
theorem dX9_layLikeliest_51 : decode cX9_layLikeliest 51 = .ok (.isub, 1) := by decide +kernel
theorem dX9_layLikeliest_52 : decode cX9_layLikeliest 52 = .ok (.bipush 8, 2) := by decide +kernel
theorem dX9_layLikeliest_54 : decode cX9_layLikeliest 54 = .ok (.imul, 1) := by decide +kernel
theorem dX9_layLikeliest_55 : decode cX9_layLikeliest 55 = .ok (.aload_n 1, 1) := by decide +kernel
theorem dX9_layLikeliest_56 : decode cX9_layLikeliest 56 = .ok (.getfield 84, 3) := by decide +kernel
theorem dX9_layLikeliest_59 : decode cX9_layLikeliest 59 = .ok (.iload 10, 2) := by decide +kernel
theorem dX9_layLikeliest_61 : decode cX9_layLikeliest 61 = .ok (.iaload, 1) := by decide +kernel
theorem dX9_layLikeliest_62 : decode cX9_layLikeliest 62 = .ok (.iadd, 1) := by decide +kernel
theorem dX9_layLikeliest_63 : decode cX9_layLikeliest 63 = .ok (.iaload, 1) := by decide +kernel
theorem dX9_layLikeliest_64 : decode cX9_layLikeliest 64 = .ok (.istore 11, 2) := by decide +kernel
theorem dX9_layLikeliest_66 : decode cX9_layLikeliest 66 = .ok (.aload_n 1, 1) := by decide +kernel
theorem dX9_layLikeliest_67 : decode cX9_layLikeliest 67 = .ok (.getfield 87, 3) := by decide +kernel
theorem dX9_layLikeliest_70 : decode cX9_layLikeliest 70 = .ok (.iload 10, 2) := by decide +kernel
theorem dX9_layLikeliest_72 : decode cX9_layLikeliest 72 = .ok (.iaload, 1) := by decide +kernel
theorem dX9_layLikeliest_73 : decode cX9_layLikeliest 73 = .ok (.iload 5, 2) := by decide +kernel
theorem dX9_layLikeliest_75 : decode cX9_layLikeliest 75 = .ok (.if_icmp .ne 50, 3) := by decide +kernel
theorem dX9_layLikeliest_78 : decode cX9_layLikeliest 78 = .ok (.iload 11, 2) := by decide +kernel
theorem dX9_layLikeliest_80 : decode cX9_layLikeliest 80 = .ok (.iconst (-1), 1) := by decide +kernel
theorem dX9_layLikeliest_81 : decode cX9_layLikeliest 81 = .ok (.if_icmp .eq 44, 3) := by decide +kernel
theorem dX9_layLikeliest_84 : decode cX9_layLikeliest 84 = .ok (.aload_n 1, 1) := by decide +kernel
theorem dX9_layLikeliest_85 : decode cX9_layLikeliest 85 = .ok (.aload_n 0, 1) := by decide +kernel
theorem dX9_layLikeliest_86 : decode cX9_layLikeliest 86 = .ok (.getfield 9, 3) := by decide +kernel
theorem dX9_layLikeliest_89 : decode cX9_layLikeliest 89 = .ok (.iload 8, 2) := by decide +kernel
theorem dX9_layLikeliest_91 : decode cX9_layLikeliest 91 = .ok (.iaload, 1) := by decide +kernel
theorem dX9_layLikeliest_92 : decode cX9_layLikeliest 92 = .ok (.iload 10, 2) := by decide +kernel
theorem dX9_layLikeliest_94 : decode cX9_layLikeliest 94 = .ok (.invokevirtual 90, 3) := by decide +kernel
theorem dX9_layLikeliest_97 : decode cX9_layLikeliest 97 = .ok (.ifCond .eq 28, 3) := by decide +kernel
theorem dX9_layLikeliest_100 : decode cX9_layLikeliest 100 = .ok (.iload 6, 2) := by decide +kernel
theorem dX9_layLikeliest_102 : decode cX9_layLikeliest 102 = .ok (.aload_n 0, 1) := by decide +kernel
theorem dX9_layLikeliest_103 : decode cX9_layLikeliest 103 = .ok (.getfield 23, 3) := by decide +kernel
theorem dX9_layLikeliest_106 : decode cX9_layLikeliest 106 = .ok (.iload 8, 2) := by decide +kernel
theorem dX9_layLikeliest_108 : decode cX9_layLikeliest 108 = .ok (.aaload, 1) := by decide +kernel
theorem dX9_layLikeliest_109 : decode cX9_layLikeliest 109 = .ok (.iload 10, 2) := by decide +kernel
theorem dX9_layLikeliest_111 : decode cX9_layLikeliest 111 = .ok (.iaload, 1) := by decide +kernel
theorem dX9_layLikeliest_112 : decode cX9_layLikeliest 112 = .ok (.imul, 1) := by decide +kernel
theorem dX9_layLikeliest_113 : decode cX9_layLikeliest 113 = .ok (.iload 11, 2) := by decide +kernel
theorem dX9_layLikeliest_115 : decode cX9_layLikeliest 115 = .ok (.imul, 1) := by decide +kernel
theorem dX9_layLikeliest_116 : decode cX9_layLikeliest 116 = .ok (.iload 4, 2) := by decide +kernel
theorem dX9_layLikeliest_118 : decode cX9_layLikeliest 118 = .ok (.if_icmp .ne 7, 3) := by decide +kernel
theorem dX9_layLikeliest_121 : decode cX9_layLikeliest 121 = .ok (.iload 10, 2) := by decide +kernel
theorem dX9_layLikeliest_123 : decode cX9_layLikeliest 123 = .ok (.istore 9, 2) := by decide +kernel
theorem dX9_layLikeliest_125 : decode cX9_layLikeliest 125 = .ok (.iinc 10 (-1), 3) := by decide +kernel
theorem dX9_layLikeliest_128 : decode cX9_layLikeliest 128 = .ok (.goto (-96), 3) := by decide +kernel
theorem dX9_layLikeliest_131 : decode cX9_layLikeliest 131 = .ok (.iload 9, 2) := by decide +kernel
theorem dX9_layLikeliest_133 : decode cX9_layLikeliest 133 = .ok (.iconst (-1), 1) := by decide +kernel
theorem dX9_layLikeliest_134 : decode cX9_layLikeliest 134 = .ok (.if_icmp .ne 4, 3) := by decide +kernel
theorem dX9_layLikeliest_137 : decode cX9_layLikeliest 137 = .ok (.return_, 1) := by decide +kernel
theorem dX9_layLikeliest_138 : decode cX9_layLikeliest 138 = .ok (.aload_n 0, 1) := by decide +kernel
theorem dX9_layLikeliest_139 : decode cX9_layLikeliest 139 = .ok (.iload 9, 2) := by decide +kernel
theorem dX9_layLikeliest_141 : decode cX9_layLikeliest 141 = .ok (.invokevirtual 98, 3) := by decide +kernel
theorem dX9_layLikeliest_144 : decode cX9_layLikeliest 144 = .ok (.iload 6, 2) := by decide +kernel
theorem dX9_layLikeliest_146 : decode cX9_layLikeliest 146 = .ok (.aload_n 0, 1) := by decide +kernel
theorem dX9_layLikeliest_147 : decode cX9_layLikeliest 147 = .ok (.getfield 23, 3) := by decide +kernel
theorem dX9_layLikeliest_150 : decode cX9_layLikeliest 150 = .ok (.iload 8, 2) := by decide +kernel
theorem dX9_layLikeliest_152 : decode cX9_layLikeliest 152 = .ok (.aaload, 1) := by decide +kernel
theorem dX9_layLikeliest_153 : decode cX9_layLikeliest 153 = .ok (.iload 9, 2) := by decide +kernel
theorem dX9_layLikeliest_155 : decode cX9_layLikeliest 155 = .ok (.iaload, 1) := by decide +kernel
theorem dX9_layLikeliest_156 : decode cX9_layLikeliest 156 = .ok (.imul, 1) := by decide +kernel
theorem dX9_layLikeliest_157 : decode cX9_layLikeliest 157 = .ok (.istore 6, 2) := by decide +kernel
theorem dX9_layLikeliest_159 : decode cX9_layLikeliest 159 = .ok (.aload_n 1, 1) := by decide +kernel
theorem dX9_layLikeliest_160 : decode cX9_layLikeliest 160 = .ok (.getfield 84, 3) := by decide +kernel
theorem dX9_layLikeliest_163 : decode cX9_layLikeliest 163 = .ok (.iload 9, 2) := by decide +kernel
theorem dX9_layLikeliest_165 : decode cX9_layLikeliest 165 = .ok (.iaload, 1) := by decide +kernel
theorem dX9_layLikeliest_166 : decode cX9_layLikeliest 166 = .ok (.istore 5, 2) := by decide +kernel
theorem dX9_layLikeliest_168 : decode cX9_layLikeliest 168 = .ok (.iinc 7 1, 3) := by decide +kernel
theorem dX9_layLikeliest_171 : decode cX9_layLikeliest 171 = .ok (.goto (-162), 3) := by decide +kernel
theorem dX9_layLikeliest_174 : decode cX9_layLikeliest 174 = .ok (.return_, 1) := by decide +kernel
theorem dX9_power_0 : decode cX9_power 0 = .ok (.iconst 1, 1) := by decide +kernel
theorem dX9_power_1 : decode cX9_power 1 = .ok (.istore_n 1, 1) := by decide +kernel
theorem dX9_power_2 : decode cX9_power 2 = .ok (.iconst 0, 1) := by decide +kernel
theorem dX9_power_3 : decode cX9_power 3 = .ok (.istore_n 2, 1) := by decide +kernel
theorem dX9_power_4 : decode cX9_power 4 = .ok (.iload_n 2, 1) := by decide +kernel
theorem dX9_power_5 : decode cX9_power 5 = .ok (.iload_n 0, 1) := by decide +kernel
theorem dX9_power_6 : decode cX9_power 6 = .ok (.if_icmp .ge 14, 3) := by decide +kernel
theorem dX9_power_9 : decode cX9_power 9 = .ok (.iload_n 1, 1) := by decide +kernel
theorem dX9_power_10 : decode cX9_power 10 = .ok (.bipush 100, 2) := by decide +kernel
theorem dX9_power_12 : decode cX9_power 12 = .ok (.imul, 1) := by decide +kernel
theorem dX9_power_13 : decode cX9_power 13 = .ok (.istore_n 1, 1) := by decide +kernel
theorem dX9_power_14 : decode cX9_power 14 = .ok (.iinc 2 1, 3) := by decide +kernel
theorem dX9_power_17 : decode cX9_power 17 = .ok (.goto (-13), 3) := by decide +kernel
theorem dX9_power_20 : decode cX9_power 20 = .ok (.iload_n 1, 1) := by decide +kernel
theorem dX9_power_21 : decode cX9_power 21 = .ok (.ireturn, 1) := by decide +kernel
theorem dX9_commonPart_0 : decode cX9_commonPart 0 = .ok (.iload_n 1, 1) := by decide +kernel
theorem dX9_commonPart_1 : decode cX9_commonPart 1 = .ok (.istore_n 2, 1) := by decide +kernel
theorem dX9_commonPart_2 : decode cX9_commonPart 2 = .ok (.iload_n 0, 1) := by decide +kernel
theorem dX9_commonPart_3 : decode cX9_commonPart 3 = .ok (.istore_n 3, 1) := by decide +kernel
theorem dX9_commonPart_4 : decode cX9_commonPart 4 = .ok (.iconst 0, 1) := by decide +kernel
theorem dX9_commonPart_5 : decode cX9_commonPart 5 = .ok (.istore 4, 2) := by decide +kernel
theorem dX9_commonPart_7 : decode cX9_commonPart 7 = .ok (.iload 4, 2) := by decide +kernel
theorem dX9_commonPart_9 : decode cX9_commonPart 9 = .ok (.bipush 40, 2) := by decide +kernel
theorem dX9_commonPart_11 : decode cX9_commonPart 11 = .ok (.if_icmp .ge 23, 3) := by decide +kernel
theorem dX9_commonPart_14 : decode cX9_commonPart 14 = .ok (.iload_n 3, 1) := by decide +kernel
theorem dX9_commonPart_15 : decode cX9_commonPart 15 = .ok (.ifCond .eq 19, 3) := by decide +kernel
theorem dX9_commonPart_18 : decode cX9_commonPart 18 = .ok (.iload_n 2, 1) := by decide +kernel
theorem dX9_commonPart_19 : decode cX9_commonPart 19 = .ok (.iload_n 3, 1) := by decide +kernel
theorem dX9_commonPart_20 : decode cX9_commonPart 20 = .ok (.irem, 1) := by decide +kernel
theorem dX9_commonPart_21 : decode cX9_commonPart 21 = .ok (.istore 5, 2) := by decide +kernel
theorem dX9_commonPart_23 : decode cX9_commonPart 23 = .ok (.iload_n 3, 1) := by decide +kernel
theorem dX9_commonPart_24 : decode cX9_commonPart 24 = .ok (.istore_n 2, 1) := by decide +kernel
theorem dX9_commonPart_25 : decode cX9_commonPart 25 = .ok (.iload 5, 2) := by decide +kernel
theorem dX9_commonPart_27 : decode cX9_commonPart 27 = .ok (.istore_n 3, 1) := by decide +kernel
theorem dX9_commonPart_28 : decode cX9_commonPart 28 = .ok (.iinc 4 1, 3) := by decide +kernel
theorem dX9_commonPart_31 : decode cX9_commonPart 31 = .ok (.goto (-24), 3) := by decide +kernel
theorem dX9_commonPart_34 : decode cX9_commonPart 34 = .ok (.iload_n 2, 1) := by decide +kernel
theorem dX9_commonPart_35 : decode cX9_commonPart 35 = .ok (.ifCond .ne 7, 3) := by decide +kernel
theorem dX9_commonPart_38 : decode cX9_commonPart 38 = .ok (.iconst 1, 1) := by decide +kernel
theorem dX9_commonPart_39 : decode cX9_commonPart 39 = .ok (.goto 4, 3) := by decide +kernel
theorem dX9_commonPart_42 : decode cX9_commonPart 42 = .ok (.iload_n 2, 1) := by decide +kernel
theorem dX9_commonPart_43 : decode cX9_commonPart 43 = .ok (.ireturn, 1) := by decide +kernel
theorem dX9_settle_0 : decode cX9_settle 0 = .ok (.aload_n 1, 1) := by decide +kernel
theorem dX9_settle_1 : decode cX9_settle 1 = .ok (.aload_n 2, 1) := by decide +kernel
theorem dX9_settle_2 : decode cX9_settle 2 = .ok (.getfield 50, 3) := by decide +kernel
theorem dX9_settle_5 : decode cX9_settle 5 = .ok (.invokevirtual 53, 3) := by decide +kernel
theorem dX9_settle_8 : decode cX9_settle 8 = .ok (.ifCond .ne 5, 3) := by decide +kernel
theorem dX9_settle_11 : decode cX9_settle 11 = .ok (.iconst (-1), 1) := by decide +kernel
theorem dX9_settle_12 : decode cX9_settle 12 = .ok (.ireturn, 1) := by decide +kernel
theorem dX9_settle_13 : decode cX9_settle 13 = .ok (.aload_n 0, 1) := by decide +kernel
theorem dX9_settle_14 : decode cX9_settle 14 = .ok (.aload_n 2, 1) := by decide +kernel
theorem dX9_settle_15 : decode cX9_settle 15 = .ok (.iload_n 3, 1) := by decide +kernel
theorem dX9_settle_16 : decode cX9_settle 16 = .ok (.invokevirtual 59, 3) := by decide +kernel
theorem dX9_settle_19 : decode cX9_settle 19 = .ok (.iconst 0, 1) := by decide +kernel
theorem dX9_settle_20 : decode cX9_settle 20 = .ok (.istore 5, 2) := by decide +kernel
theorem dX9_settle_22 : decode cX9_settle 22 = .ok (.iload 5, 2) := by decide +kernel
theorem dX9_settle_24 : decode cX9_settle 24 = .ok (.bipush 8, 2) := by decide +kernel
theorem dX9_settle_26 : decode cX9_settle 26 = .ok (.if_icmp .ge 18, 3) := by decide +kernel
theorem dX9_settle_29 : decode cX9_settle 29 = .ok (.aload_n 0, 1) := by decide +kernel
theorem dX9_settle_30 : decode cX9_settle 30 = .ok (.getfield 29, 3) := by decide +kernel
theorem dX9_settle_33 : decode cX9_settle 33 = .ok (.iload 5, 2) := by decide +kernel
theorem dX9_settle_35 : decode cX9_settle 35 = .ok (.iload 5, 2) := by decide +kernel
theorem dX9_settle_37 : decode cX9_settle 37 = .ok (.iastore, 1) := by decide +kernel
theorem dX9_settle_38 : decode cX9_settle 38 = .ok (.iinc 5 1, 3) := by decide +kernel
theorem dX9_settle_41 : decode cX9_settle 41 = .ok (.goto (-19), 3) := by decide +kernel
theorem dX9_settle_44 : decode cX9_settle 44 = .ok (.iload 4, 2) := by decide +kernel
theorem dX9_settle_46 : decode cX9_settle 46 = .ok (.iconst 1, 1) := by decide +kernel
theorem dX9_settle_47 : decode cX9_settle 47 = .ok (.isub, 1) := by decide +kernel
theorem dX9_settle_48 : decode cX9_settle 48 = .ok (.istore 5, 2) := by decide +kernel
theorem dX9_settle_50 : decode cX9_settle 50 = .ok (.iload 5, 2) := by decide +kernel
theorem dX9_settle_52 : decode cX9_settle 52 = .ok (.ifCond .lt 65, 3) := by decide +kernel
theorem dX9_settle_55 : decode cX9_settle 55 = .ok (.aload_n 0, 1) := by decide +kernel
theorem dX9_settle_56 : decode cX9_settle 56 = .ok (.getfield 29, 3) := by decide +kernel
theorem dX9_settle_59 : decode cX9_settle 59 = .ok (.iconst 0, 1) := by decide +kernel
theorem dX9_settle_60 : decode cX9_settle 60 = .ok (.aload_n 0, 1) := by decide +kernel
theorem dX9_settle_61 : decode cX9_settle 61 = .ok (.getfield 32, 3) := by decide +kernel
theorem dX9_settle_64 : decode cX9_settle 64 = .ok (.iconst 0, 1) := by decide +kernel
theorem dX9_settle_65 : decode cX9_settle 65 = .ok (.bipush 8, 2) := by decide +kernel
theorem dX9_settle_67 : decode cX9_settle 67 = .ok (.invokestatic 133, 3) := by decide +kernel
theorem dX9_settle_70 : decode cX9_settle 70 = .ok (.iconst 0, 1) := by decide +kernel
theorem dX9_settle_71 : decode cX9_settle 71 = .ok (.istore 6, 2) := by decide +kernel
theorem dX9_settle_73 : decode cX9_settle 73 = .ok (.iload 6, 2) := by decide +kernel
theorem dX9_settle_75 : decode cX9_settle 75 = .ok (.aload_n 1, 1) := by decide +kernel
theorem dX9_settle_76 : decode cX9_settle 76 = .ok (.getfield 139, 3) := by decide +kernel
theorem dX9_settle_79 : decode cX9_settle 79 = .ok (.if_icmp .ge 32, 3) := by decide +kernel
theorem dX9_settle_82 : decode cX9_settle 82 = .ok (.aload_n 0, 1) := by decide +kernel
theorem dX9_settle_83 : decode cX9_settle 83 = .ok (.getfield 29, 3) := by decide +kernel
theorem dX9_settle_86 : decode cX9_settle 86 = .ok (.iload 6, 2) := by decide +kernel
theorem dX9_settle_88 : decode cX9_settle 88 = .ok (.aload_n 0, 1) := by decide +kernel
theorem dX9_settle_89 : decode cX9_settle 89 = .ok (.aload_n 1, 1) := by decide +kernel
theorem dX9_settle_90 : decode cX9_settle 90 = .ok (.aload_n 0, 1) := by decide +kernel
theorem dX9_settle_91 : decode cX9_settle 91 = .ok (.getfield 9, 3) := by decide +kernel
theorem dX9_settle_94 : decode cX9_settle 94 = .ok (.iload 5, 2) := by decide +kernel
theorem dX9_settle_96 : decode cX9_settle 96 = .ok (.iconst 1, 1) := by decide +kernel
theorem dX9_settle_97 : decode cX9_settle 97 = .ok (.iand, 1) := by decide +kernel
theorem dX9_settle_98 : decode cX9_settle 98 = .ok (.iaload, 1) := by decide +kernel
theorem dX9_settle_99 : decode cX9_settle 99 = .ok (.iload 6, 2) := by decide +kernel
theorem dX9_settle_101 : decode cX9_settle 101 = .ok (.invokevirtual 142, 3) := by decide +kernel
theorem dX9_settle_104 : decode cX9_settle 104 = .ok (.iastore, 1) := by decide +kernel
theorem dX9_settle_105 : decode cX9_settle 105 = .ok (.iinc 6 1, 3) := by decide +kernel
theorem dX9_settle_108 : decode cX9_settle 108 = .ok (.goto (-35), 3) := by decide +kernel
theorem dX9_settle_111 : decode cX9_settle 111 = .ok (.iinc 5 (-1), 3) := by decide +kernel
theorem dX9_settle_114 : decode cX9_settle 114 = .ok (.goto (-64), 3) := by decide +kernel
theorem dX9_settle_117 : decode cX9_settle 117 = .ok (.aload_n 0, 1) := by decide +kernel
theorem dX9_settle_118 : decode cX9_settle 118 = .ok (.getfield 29, 3) := by decide +kernel
theorem dX9_settle_121 : decode cX9_settle 121 = .ok (.aload_n 2, 1) := by decide +kernel
theorem dX9_settle_122 : decode cX9_settle 122 = .ok (.getfield 50, 3) := by decide +kernel
theorem dX9_settle_125 : decode cX9_settle 125 = .ok (.iaload, 1) := by decide +kernel
theorem dX9_settle_126 : decode cX9_settle 126 = .ok (.ireturn, 1) := by decide +kernel
theorem dX9_choose_0 : decode cX9_choose 0 = .ok (.iload_n 3, 1) := by decide +kernel
theorem dX9_choose_1 : decode cX9_choose 1 = .ok (.istore 4, 2) := by decide +kernel
theorem dX9_choose_3 : decode cX9_choose 3 = .ok (.iconst 0, 1) := by decide +kernel
theorem dX9_choose_4 : decode cX9_choose 4 = .ok (.istore 5, 2) := by decide +kernel
theorem dX9_choose_6 : decode cX9_choose 6 = .ok (.iload 5, 2) := by decide +kernel
theorem dX9_choose_8 : decode cX9_choose 8 = .ok (.aload_n 1, 1) := by decide +kernel
theorem dX9_choose_9 : decode cX9_choose 9 = .ok (.getfield 81, 3) := by decide +kernel
theorem dX9_choose_12 : decode cX9_choose 12 = .ok (.if_icmp .ge 65, 3) := by decide +kernel
theorem dX9_choose_15 : decode cX9_choose 15 = .ok (.aload_n 1, 1) := by decide +kernel
theorem dX9_choose_16 : decode cX9_choose 16 = .ok (.getfield 87, 3) := by decide +kernel
theorem dX9_choose_19 : decode cX9_choose 19 = .ok (.iload 5, 2) := by decide +kernel
theorem dX9_choose_21 : decode cX9_choose 21 = .ok (.iaload, 1) := by decide +kernel
theorem dX9_choose_22 : decode cX9_choose 22 = .ok (.iload_n 3, 1) := by decide +kernel
theorem dX9_choose_23 : decode cX9_choose 23 = .ok (.if_icmp .ne 48, 3) := by decide +kernel
theorem dX9_choose_26 : decode cX9_choose 26 = .ok (.aload_n 1, 1) := by decide +kernel
theorem dX9_choose_27 : decode cX9_choose 27 = .ok (.iload_n 2, 1) := by decide +kernel
theorem dX9_choose_28 : decode cX9_choose 28 = .ok (.iload 5, 2) := by decide +kernel
theorem dX9_choose_30 : decode cX9_choose 30 = .ok (.invokevirtual 90, 3) := by decide +kernel
theorem dX9_choose_33 : decode cX9_choose 33 = .ok (.ifCond .eq 38, 3) := by decide +kernel
theorem dX9_choose_36 : decode cX9_choose 36 = .ok (.aload_n 0, 1) := by decide +kernel
theorem dX9_choose_37 : decode cX9_choose 37 = .ok (.getfield 32, 3) := by decide +kernel
theorem dX9_choose_40 : decode cX9_choose 40 = .ok (.aload_n 1, 1) := by decide +kernel
theorem dX9_choose_41 : decode cX9_choose 41 = .ok (.getfield 84, 3) := by decide +kernel
theorem dX9_choose_44 : decode cX9_choose 44 = .ok (.iload 5, 2) := by decide +kernel
theorem dX9_choose_46 : decode cX9_choose 46 = .ok (.iaload, 1) := by decide +kernel
theorem dX9_choose_47 : decode cX9_choose 47 = .ok (.iaload, 1) := by decide +kernel
theorem dX9_choose_48 : decode cX9_choose 48 = .ok (.istore 6, 2) := by decide +kernel
theorem dX9_choose_50 : decode cX9_choose 50 = .ok (.aload_n 1, 1) := by decide +kernel
theorem dX9_choose_51 : decode cX9_choose 51 = .ok (.iload_n 2, 1) := by decide +kernel
theorem dX9_choose_52 : decode cX9_choose 52 = .ok (.iload 6, 2) := by decide +kernel
theorem dX9_choose_54 : decode cX9_choose 54 = .ok (.invokevirtual 146, 3) := by decide +kernel
theorem dX9_choose_57 : decode cX9_choose 57 = .ok (.aload_n 1, 1) := by decide +kernel
theorem dX9_choose_58 : decode cX9_choose 58 = .ok (.iload_n 2, 1) := by decide +kernel
theorem dX9_choose_59 : decode cX9_choose 59 = .ok (.iload 4, 2) := by decide +kernel
theorem dX9_choose_61 : decode cX9_choose 61 = .ok (.invokevirtual 146, 3) := by decide +kernel
theorem dX9_choose_64 : decode cX9_choose 64 = .ok (.if_icmp .le 7, 3) := by decide +kernel
theorem dX9_choose_67 : decode cX9_choose 67 = .ok (.iload 6, 2) := by decide +kernel
theorem dX9_choose_69 : decode cX9_choose 69 = .ok (.istore 4, 2) := by decide +kernel
theorem dX9_choose_71 : decode cX9_choose 71 = .ok (.iinc 5 1, 3) := by decide +kernel
theorem dX9_choose_74 : decode cX9_choose 74 = .ok (.goto (-68), 3) := by decide +kernel
theorem dX9_choose_77 : decode cX9_choose 77 = .ok (.iload 4, 2) := by decide +kernel
theorem dX9_choose_79 : decode cX9_choose 79 = .ok (.ireturn, 1) := by decide +kernel
theorem dX10_init_0 : decode cX10_init 0 = .ok (.aload_n 0, 1) := by decide +kernel
theorem dX10_init_1 : decode cX10_init 1 = .ok (.invokespecial 1, 3) := by decide +kernel
theorem dX10_init_4 : decode cX10_init 4 = .ok (.aload_n 0, 1) := by decide +kernel
theorem dX10_init_5 : decode cX10_init 5 = .ok (.new 7, 3) := by decide +kernel
theorem dX10_init_8 : decode cX10_init 8 = .ok (.dup, 1) := by decide +kernel
theorem dX10_init_9 : decode cX10_init 9 = .ok (.invokespecial 9, 3) := by decide +kernel
theorem dX10_init_12 : decode cX10_init 12 = .ok (.putfield 10, 3) := by decide +kernel
theorem dX10_init_15 : decode cX10_init 15 = .ok (.aload_n 0, 1) := by decide +kernel
theorem dX10_init_16 : decode cX10_init 16 = .ok (.new 16, 3) := by decide +kernel
theorem dX10_init_19 : decode cX10_init 19 = .ok (.dup, 1) := by decide +kernel
theorem dX10_init_20 : decode cX10_init 20 = .ok (.aload_n 0, 1) := by decide +kernel
theorem dX10_init_21 : decode cX10_init 21 = .ok (.getfield 10, 3) := by decide +kernel
theorem dX10_init_24 : decode cX10_init 24 = .ok (.invokespecial 18, 3) := by decide +kernel
theorem dX10_init_27 : decode cX10_init 27 = .ok (.putfield 21, 3) := by decide +kernel
theorem dX10_init_30 : decode cX10_init 30 = .ok (.aload_n 0, 1) := by decide +kernel
theorem dX10_init_31 : decode cX10_init 31 = .ok (.new 25, 3) := by decide +kernel
theorem dX10_init_34 : decode cX10_init 34 = .ok (.dup, 1) := by decide +kernel
theorem dX10_init_35 : decode cX10_init 35 = .ok (.invokespecial 27, 3) := by decide +kernel
theorem dX10_init_38 : decode cX10_init 38 = .ok (.putfield 28, 3) := by decide +kernel
theorem dX10_init_41 : decode cX10_init 41 = .ok (.aload_n 0, 1) := by decide +kernel
theorem dX10_init_42 : decode cX10_init 42 = .ok (.new 32, 3) := by decide +kernel
theorem dX10_init_45 : decode cX10_init 45 = .ok (.dup, 1) := by decide +kernel
theorem dX10_init_46 : decode cX10_init 46 = .ok (.invokespecial 34, 3) := by decide +kernel
theorem dX10_init_49 : decode cX10_init 49 = .ok (.putfield 35, 3) := by decide +kernel
theorem dX10_init_52 : decode cX10_init 52 = .ok (.aload_n 0, 1) := by decide +kernel
theorem dX10_init_53 : decode cX10_init 53 = .ok (.iconst 3, 1) := by decide +kernel
theorem dX10_init_54 : decode cX10_init 54 = .ok (.anewarray 25, 3) := by decide +kernel
theorem dX10_init_57 : decode cX10_init 57 = .ok (.putfield 39, 3) := by decide +kernel
theorem dX10_init_60 : decode cX10_init 60 = .ok (.aload_n 0, 1) := by decide +kernel
theorem dX10_init_61 : decode cX10_init 61 = .ok (.iconst 3, 1) := by decide +kernel
theorem dX10_init_62 : decode cX10_init 62 = .ok (.newarray .boolean, 2) := by decide +kernel
theorem dX10_init_64 : decode cX10_init 64 = .ok (.putfield 43, 3) := by decide +kernel
theorem dX10_init_67 : decode cX10_init 67 = .ok (.aload_n 0, 1) := by decide +kernel
theorem dX10_init_68 : decode cX10_init 68 = .ok (.new 47, 3) := by decide +kernel
theorem dX10_init_71 : decode cX10_init 71 = .ok (.dup, 1) := by decide +kernel
theorem dX10_init_72 : decode cX10_init 72 = .ok (.invokespecial 49, 3) := by decide +kernel
theorem dX10_init_75 : decode cX10_init 75 = .ok (.putfield 50, 3) := by decide +kernel
theorem dX10_init_78 : decode cX10_init 78 = .ok (.aload_n 0, 1) := by decide +kernel
theorem dX10_init_79 : decode cX10_init 79 = .ok (.new 54, 3) := by decide +kernel
theorem dX10_init_82 : decode cX10_init 82 = .ok (.dup, 1) := by decide +kernel
theorem dX10_init_83 : decode cX10_init 83 = .ok (.invokespecial 56, 3) := by decide +kernel
theorem dX10_init_86 : decode cX10_init 86 = .ok (.putfield 57, 3) := by decide +kernel
theorem dX10_init_89 : decode cX10_init 89 = .ok (.aload_n 0, 1) := by decide +kernel
theorem dX10_init_90 : decode cX10_init 90 = .ok (.new 61, 3) := by decide +kernel
theorem dX10_init_93 : decode cX10_init 93 = .ok (.dup, 1) := by decide +kernel
theorem dX10_init_94 : decode cX10_init 94 = .ok (.invokespecial 63, 3) := by decide +kernel
theorem dX10_init_97 : decode cX10_init 97 = .ok (.putfield 64, 3) := by decide +kernel
theorem dX10_init_100 : decode cX10_init 100 = .ok (.aload_n 0, 1) := by decide +kernel
theorem dX10_init_101 : decode cX10_init 101 = .ok (.new 68, 3) := by decide +kernel
theorem dX10_init_104 : decode cX10_init 104 = .ok (.dup, 1) := by decide +kernel
theorem dX10_init_105 : decode cX10_init 105 = .ok (.invokespecial 70, 3) := by decide +kernel
theorem dX10_init_108 : decode cX10_init 108 = .ok (.putfield 71, 3) := by decide +kernel
theorem dX10_init_111 : decode cX10_init 111 = .ok (.iconst 0, 1) := by decide +kernel
theorem dX10_init_112 : decode cX10_init 112 = .ok (.istore_n 1, 1) := by decide +kernel
theorem dX10_init_113 : decode cX10_init 113 = .ok (.iload_n 1, 1) := by decide +kernel
theorem dX10_init_114 : decode cX10_init 114 = .ok (.iconst 3, 1) := by decide +kernel
theorem dX10_init_115 : decode cX10_init 115 = .ok (.if_icmp .ge 22, 3) := by decide +kernel
theorem dX10_init_118 : decode cX10_init 118 = .ok (.aload_n 0, 1) := by decide +kernel
theorem dX10_init_119 : decode cX10_init 119 = .ok (.getfield 39, 3) := by decide +kernel
theorem dX10_init_122 : decode cX10_init 122 = .ok (.iload_n 1, 1) := by decide +kernel
theorem dX10_init_123 : decode cX10_init 123 = .ok (.new 25, 3) := by decide +kernel
theorem dX10_init_126 : decode cX10_init 126 = .ok (.dup, 1) := by decide +kernel
theorem dX10_init_127 : decode cX10_init 127 = .ok (.invokespecial 27, 3) := by decide +kernel
theorem dX10_init_130 : decode cX10_init 130 = .ok (.aastore, 1) := by decide +kernel
theorem dX10_init_131 : decode cX10_init 131 = .ok (.iinc 1 1, 3) := by decide +kernel
theorem dX10_init_134 : decode cX10_init 134 = .ok (.goto (-21), 3) := by decide +kernel
theorem dX10_init_137 : decode cX10_init 137 = .ok (.aload_n 0, 1) := by decide +kernel
theorem dX10_init_138 : decode cX10_init 138 = .ok (.invokevirtual 75, 3) := by decide +kernel
theorem dX10_init_141 : decode cX10_init 141 = .ok (.return_, 1) := by decide +kernel
theorem dX10_beginAnew_0 : decode cX10_beginAnew 0 = .ok (.aload_n 0, 1) := by decide +kernel
theorem dX10_beginAnew_1 : decode cX10_beginAnew 1 = .ok (.getfield 28, 3) := by decide +kernel
theorem dX10_beginAnew_4 : decode cX10_beginAnew 4 = .ok (.aload_n 0, 1) := by decide +kernel
theorem dX10_beginAnew_5 : decode cX10_beginAnew 5 = .ok (.getfield 71, 3) := by decide +kernel
theorem dX10_beginAnew_8 : decode cX10_beginAnew 8 = .ok (.invokevirtual 78, 3) := by decide +kernel
theorem dX10_beginAnew_11 : decode cX10_beginAnew 11 = .ok (.aload_n 0, 1) := by decide +kernel
theorem dX10_beginAnew_12 : decode cX10_beginAnew 12 = .ok (.getfield 35, 3) := by decide +kernel
theorem dX10_beginAnew_15 : decode cX10_beginAnew 15 = .ok (.aload_n 0, 1) := by decide +kernel
theorem dX10_beginAnew_16 : decode cX10_beginAnew 16 = .ok (.getfield 28, 3) := by decide +kernel
theorem dX10_beginAnew_19 : decode cX10_beginAnew 19 = .ok (.invokevirtual 82, 3) := by decide +kernel
theorem dX10_beginAnew_22 : decode cX10_beginAnew 22 = .ok (.aload_n 0, 1) := by decide +kernel
theorem dX10_beginAnew_23 : decode cX10_beginAnew 23 = .ok (.getfield 50, 3) := by decide +kernel
theorem dX10_beginAnew_26 : decode cX10_beginAnew 26 = .ok (.invokevirtual 86, 3) := by decide +kernel
theorem dX10_beginAnew_29 : decode cX10_beginAnew 29 = .ok (.aload_n 0, 1) := by decide +kernel
theorem dX10_beginAnew_30 : decode cX10_beginAnew 30 = .ok (.getfield 64, 3) := by decide +kernel
theorem dX10_beginAnew_33 : decode cX10_beginAnew 33 = .ok (.invokevirtual 89, 3) := by decide +kernel
theorem dX10_beginAnew_36 : decode cX10_beginAnew 36 = .ok (.iconst 0, 1) := by decide +kernel
theorem dX10_beginAnew_37 : decode cX10_beginAnew 37 = .ok (.istore_n 1, 1) := by decide +kernel
theorem dX10_beginAnew_38 : decode cX10_beginAnew 38 = .ok (.iload_n 1, 1) := by decide +kernel
theorem dX10_beginAnew_39 : decode cX10_beginAnew 39 = .ok (.iconst 3, 1) := by decide +kernel
theorem dX10_beginAnew_40 : decode cX10_beginAnew 40 = .ok (.if_icmp .ge 16, 3) := by decide +kernel
theorem dX10_beginAnew_43 : decode cX10_beginAnew 43 = .ok (.aload_n 0, 1) := by decide +kernel
theorem dX10_beginAnew_44 : decode cX10_beginAnew 44 = .ok (.getfield 43, 3) := by decide +kernel
theorem dX10_beginAnew_47 : decode cX10_beginAnew 47 = .ok (.iload_n 1, 1) := by decide +kernel
theorem dX10_beginAnew_48 : decode cX10_beginAnew 48 = .ok (.iconst 0, 1) := by decide +kernel
theorem dX10_beginAnew_49 : decode cX10_beginAnew 49 = .ok (.bastore, 1) := by decide +kernel
theorem dX10_beginAnew_50 : decode cX10_beginAnew 50 = .ok (.iinc 1 1, 3) := by decide +kernel
theorem dX10_beginAnew_53 : decode cX10_beginAnew 53 = .ok (.goto (-15), 3) := by decide +kernel
theorem dX10_beginAnew_56 : decode cX10_beginAnew 56 = .ok (.return_, 1) := by decide +kernel
theorem dX10_feed_0 : decode cX10_feed 0 = .ok (.aload_n 0, 1) := by decide +kernel
theorem dX10_feed_1 : decode cX10_feed 1 = .ok (.getfield 10, 3) := by decide +kernel
theorem dX10_feed_4 : decode cX10_feed 4 = .ok (.bipush 20, 2) := by decide +kernel
theorem dX10_feed_6 : decode cX10_feed 6 = .ok (.invokevirtual 91, 3) := by decide +kernel
theorem dX10_feed_9 : decode cX10_feed 9 = .ok (.ifCond .ne 5, 3) := by decide +kernel
theorem dX10_feed_12 : decode cX10_feed 12 = .ok (.iconst (-1), 1) := by decide +kernel
theorem dX10_feed_13 : decode cX10_feed 13 = .ok (.ireturn, 1) := by decide +kernel
theorem dX10_feed_14 : decode cX10_feed 14 = .ok (.aload_n 0, 1) := by decide +kernel
theorem dX10_feed_15 : decode cX10_feed 15 = .ok (.getfield 10, 3) := by decide +kernel
theorem dX10_feed_18 : decode cX10_feed 18 = .ok (.iload_n 1, 1) := by decide +kernel
theorem dX10_feed_19 : decode cX10_feed 19 = .ok (.invokevirtual 95, 3) := by decide +kernel
theorem dX10_feed_22 : decode cX10_feed 22 = .ok (.aload_n 0, 1) := by decide +kernel
theorem dX10_feed_23 : decode cX10_feed 23 = .ok (.getfield 10, 3) := by decide +kernel
theorem dX10_feed_26 : decode cX10_feed 26 = .ok (.iload_n 2, 1) := by decide +kernel
theorem dX10_feed_27 : decode cX10_feed 27 = .ok (.invokevirtual 95, 3) := by decide +kernel
theorem dX10_feed_30 : decode cX10_feed 30 = .ok (.aload_n 0, 1) := by decide +kernel
theorem dX10_feed_31 : decode cX10_feed 31 = .ok (.getfield 10, 3) := by decide +kernel
theorem dX10_feed_34 : decode cX10_feed 34 = .ok (.iload_n 3, 1) := by decide +kernel
theorem dX10_feed_35 : decode cX10_feed 35 = .ok (.invokevirtual 95, 3) := by decide +kernel
theorem dX10_feed_38 : decode cX10_feed 38 = .ok (.aload_n 0, 1) := by decide +kernel
theorem dX10_feed_39 : decode cX10_feed 39 = .ok (.getfield 10, 3) := by decide +kernel
theorem dX10_feed_42 : decode cX10_feed 42 = .ok (.iload 4, 2) := by decide +kernel
theorem dX10_feed_44 : decode cX10_feed 44 = .ok (.invokevirtual 95, 3) := by decide +kernel
theorem dX10_feed_47 : decode cX10_feed 47 = .ok (.aload_n 0, 1) := by decide +kernel
theorem dX10_feed_48 : decode cX10_feed 48 = .ok (.getfield 10, 3) := by decide +kernel
theorem dX10_feed_51 : decode cX10_feed 51 = .ok (.iload 5, 2) := by decide +kernel
theorem dX10_feed_53 : decode cX10_feed 53 = .ok (.invokevirtual 95, 3) := by decide +kernel
theorem dX10_feed_56 : decode cX10_feed 56 = .ok (.aload_n 0, 1) := by decide +kernel
theorem dX10_feed_57 : decode cX10_feed 57 = .ok (.getfield 10, 3) := by decide +kernel
theorem dX10_feed_60 : decode cX10_feed 60 = .ok (.invokevirtual 99, 3) := by decide +kernel
theorem dX10_feed_63 : decode cX10_feed 63 = .ok (.ireturn, 1) := by decide +kernel
theorem dX10_end_0 : decode cX10_end 0 = .ok (.aload_n 0, 1) := by decide +kernel
theorem dX10_end_1 : decode cX10_end 1 = .ok (.getfield 10, 3) := by decide +kernel
theorem dX10_end_4 : decode cX10_end 4 = .ok (.iload_n 1, 1) := by decide +kernel
theorem dX10_end_5 : decode cX10_end 5 = .ok (.invokevirtual 103, 3) := by decide +kernel
theorem dX10_end_8 : decode cX10_end 8 = .ok (.ifCond .eq 7, 3) := by decide +kernel
theorem dX10_end_11 : decode cX10_end 11 = .ok (.iload_n 1, 1) := by decide +kernel
theorem dX10_end_12 : decode cX10_end 12 = .ok (.goto 4, 3) := by decide +kernel
theorem dX10_end_15 : decode cX10_end 15 = .ok (.iconst (-1), 1) := by decide +kernel
theorem dX10_end_16 : decode cX10_end 16 = .ok (.ireturn, 1) := by decide +kernel
theorem dX10_treaty_0 : decode cX10_treaty 0 = .ok (.aload_n 0, 1) := by decide +kernel
theorem dX10_treaty_1 : decode cX10_treaty 1 = .ok (.getfield 21, 3) := by decide +kernel
theorem dX10_treaty_4 : decode cX10_treaty 4 = .ok (.invokevirtual 106, 3) := by decide +kernel
theorem dX10_treaty_7 : decode cX10_treaty 7 = .ok (.iconst 1, 1) := by decide +kernel
theorem dX10_treaty_8 : decode cX10_treaty 8 = .ok (.istore_n 1, 1) := by decide +kernel
theorem dX10_treaty_9 : decode cX10_treaty 9 = .ok (.iconst 0, 1) := by decide +kernel
theorem dX10_treaty_10 : decode cX10_treaty 10 = .ok (.istore_n 2, 1) := by decide +kernel
theorem dX10_treaty_11 : decode cX10_treaty 11 = .ok (.iload_n 2, 1) := by decide +kernel
theorem dX10_treaty_12 : decode cX10_treaty 12 = .ok (.sipush 1600, 3) := by decide +kernel
theorem dX10_treaty_15 : decode cX10_treaty 15 = .ok (.if_icmp .ge 31, 3) := by decide +kernel
theorem dX10_treaty_18 : decode cX10_treaty 18 = .ok (.iload_n 1, 1) := by decide +kernel
theorem dX10_treaty_19 : decode cX10_treaty 19 = .ok (.ifCond .eq 27, 3) := by decide +kernel
theorem dX10_treaty_22 : decode cX10_treaty 22 = .ok (.aload_n 0, 1) := by decide +kernel
theorem dX10_treaty_23 : decode cX10_treaty 23 = .ok (.getfield 21, 3) := by decide +kernel
theorem dX10_treaty_26 : decode cX10_treaty 26 = .ok (.invokevirtual 109, 3) := by decide +kernel
theorem dX10_treaty_29 : decode cX10_treaty 29 = .ok (.ifCond .ne 17, 3) := by decide +kernel
theorem dX10_treaty_32 : decode cX10_treaty 32 = .ok (.aload_n 0, 1) := by decide +kernel
theorem dX10_treaty_33 : decode cX10_treaty 33 = .ok (.getfield 21, 3) := by decide +kernel
theorem dX10_treaty_36 : decode cX10_treaty 36 = .ok (.invokevirtual 113, 3) := by decide +kernel
theorem dX10_treaty_39 : decode cX10_treaty 39 = .ok (.istore_n 1, 1) := by decide +kernel
theorem dX10_treaty_40 : decode cX10_treaty 40 = .ok (.iinc 2 1, 3) := by decide +kernel
theorem dX10_treaty_43 : decode cX10_treaty 43 = .ok (.goto (-32), 3) := by decide +kernel
theorem dX10_treaty_46 : decode cX10_treaty 46 = .ok (.aload_n 0, 1) := by decide +kernel
theorem dX10_treaty_47 : decode cX10_treaty 47 = .ok (.getfield 10, 3) := by decide +kernel
theorem dX10_treaty_50 : decode cX10_treaty 50 = .ok (.iconst 0, 1) := by decide +kernel
theorem dX10_treaty_51 : decode cX10_treaty 51 = .ok (.invokevirtual 103, 3) := by decide +kernel
theorem dX10_treaty_54 : decode cX10_treaty 54 = .ok (.pop, 1) := by decide +kernel
theorem dX10_treaty_55 : decode cX10_treaty 55 = .ok (.iload_n 1, 1) := by decide +kernel
theorem dX10_treaty_56 : decode cX10_treaty 56 = .ok (.ifCond .ne 5, 3) := by decide +kernel
theorem dX10_treaty_59 : decode cX10_treaty 59 = .ok (.iconst (-1), 1) := by decide +kernel
theorem dX10_treaty_60 : decode cX10_treaty 60 = .ok (.ireturn, 1) := by decide +kernel
theorem dX10_treaty_61 : decode cX10_treaty 61 = .ok (.aload_n 0, 1) := by decide +kernel
theorem dX10_treaty_62 : decode cX10_treaty 62 = .ok (.aload_n 0, 1) := by decide +kernel
theorem dX10_treaty_63 : decode cX10_treaty 63 = .ok (.getfield 21, 3) := by decide +kernel
theorem dX10_treaty_66 : decode cX10_treaty 66 = .ok (.aload_n 0, 1) := by decide +kernel
theorem dX10_treaty_67 : decode cX10_treaty 67 = .ok (.getfield 71, 3) := by decide +kernel
theorem dX10_treaty_70 : decode cX10_treaty 70 = .ok (.invokevirtual 116, 3) := by decide +kernel
theorem dX10_treaty_73 : decode cX10_treaty 73 = .ok (.putfield 71, 3) := by decide +kernel
theorem dX10_treaty_76 : decode cX10_treaty 76 = .ok (.aload_n 0, 1) := by decide +kernel
theorem dX10_treaty_77 : decode cX10_treaty 77 = .ok (.invokevirtual 75, 3) := by decide +kernel
theorem dX10_treaty_80 : decode cX10_treaty 80 = .ok (.aload_n 0, 1) := by decide +kernel
theorem dX10_treaty_81 : decode cX10_treaty 81 = .ok (.getfield 71, 3) := by decide +kernel
theorem dX10_treaty_84 : decode cX10_treaty 84 = .ok (.getfield 120, 3) := by decide +kernel
theorem dX10_treaty_87 : decode cX10_treaty 87 = .ok (.ireturn, 1) := by decide +kernel
theorem dX10_fault_0 : decode cX10_fault 0 = .ok (.iload_n 1, 1) := by decide +kernel
theorem dX10_fault_1 : decode cX10_fault 1 = .ok (.lookupswitch 43 #[(0, 27), (1, 35)], 27) := by decide +kernel
theorem dX10_fault_28 : decode cX10_fault 28 = .ok (.aload_n 0, 1) := by decide +kernel
theorem dX10_fault_29 : decode cX10_fault 29 = .ok (.getfield 21, 3) := by decide +kernel
theorem dX10_fault_32 : decode cX10_fault 32 = .ok (.getfield 124, 3) := by decide +kernel
theorem dX10_fault_35 : decode cX10_fault 35 = .ok (.ireturn, 1) := by decide +kernel
theorem dX10_fault_36 : decode cX10_fault 36 = .ok (.aload_n 0, 1) := by decide +kernel
theorem dX10_fault_37 : decode cX10_fault 37 = .ok (.getfield 21, 3) := by decide +kernel
theorem dX10_fault_40 : decode cX10_fault 40 = .ok (.getfield 127, 3) := by decide +kernel
theorem dX10_fault_43 : decode cX10_fault 43 = .ok (.ireturn, 1) := by decide +kernel
theorem dX10_fault_44 : decode cX10_fault 44 = .ok (.iconst (-1), 1) := by decide +kernel
theorem dX10_fault_45 : decode cX10_fault 45 = .ok (.ireturn, 1) := by decide +kernel
theorem dX10_tribe_0 : decode cX10_tribe 0 = .ok (.aload_n 0, 1) := by decide +kernel
theorem dX10_tribe_1 : decode cX10_tribe 1 = .ok (.getfield 71, 3) := by decide +kernel
theorem dX10_tribe_4 : decode cX10_tribe 4 = .ok (.iload_n 1, 1) := by decide +kernel
theorem dX10_tribe_5 : decode cX10_tribe 5 = .ok (.invokevirtual 130, 3) := by decide +kernel
theorem dX10_tribe_8 : decode cX10_tribe 8 = .ok (.ifCond .ne 5, 3) := by decide +kernel
theorem dX10_tribe_11 : decode cX10_tribe 11 = .ok (.iconst (-1), 1) := by decide +kernel
theorem dX10_tribe_12 : decode cX10_tribe 12 = .ok (.ireturn, 1) := by decide +kernel
theorem dX10_tribe_13 : decode cX10_tribe 13 = .ok (.iload_n 2, 1) := by decide +kernel
theorem dX10_tribe_14 : decode cX10_tribe 14 = .ok (.tableswitch 144 0 6 #[42, 52, 62, 74, 84, 94, 104], 42) := by decide +kernel
theorem dX10_tribe_56 : decode cX10_tribe 56 = .ok (.aload_n 0, 1) := by decide +kernel
theorem dX10_tribe_57 : decode cX10_tribe 57 = .ok (.getfield 71, 3) := by decide +kernel
theorem dX10_tribe_60 : decode cX10_tribe 60 = .ok (.getfield 133, 3) := by decide +kernel
theorem dX10_tribe_63 : decode cX10_tribe 63 = .ok (.iload_n 1, 1) := by decide +kernel
theorem dX10_tribe_64 : decode cX10_tribe 64 = .ok (.iaload, 1) := by decide +kernel
theorem dX10_tribe_65 : decode cX10_tribe 65 = .ok (.ireturn, 1) := by decide +kernel
theorem dX10_tribe_66 : decode cX10_tribe 66 = .ok (.aload_n 0, 1) := by decide +kernel
theorem dX10_tribe_67 : decode cX10_tribe 67 = .ok (.getfield 71, 3) := by decide +kernel
theorem dX10_tribe_70 : decode cX10_tribe 70 = .ok (.getfield 137, 3) := by decide +kernel
theorem dX10_tribe_73 : decode cX10_tribe 73 = .ok (.iload_n 1, 1) := by decide +kernel
theorem dX10_tribe_74 : decode cX10_tribe 74 = .ok (.iaload, 1) := by decide +kernel
theorem dX10_tribe_75 : decode cX10_tribe 75 = .ok (.ireturn, 1) := by decide +kernel
theorem dX10_tribe_76 : decode cX10_tribe 76 = .ok (.aload_n 0, 1) := by decide +kernel
theorem dX10_tribe_77 : decode cX10_tribe 77 = .ok (.getfield 71, 3) := by decide +kernel
theorem dX10_tribe_80 : decode cX10_tribe 80 = .ok (.getfield 140, 3) := by decide +kernel
theorem dX10_tribe_83 : decode cX10_tribe 83 = .ok (.iload_n 1, 1) := by decide +kernel
theorem dX10_tribe_84 : decode cX10_tribe 84 = .ok (.ishr, 1) := by decide +kernel
theorem dX10_tribe_85 : decode cX10_tribe 85 = .ok (.iconst 1, 1) := by decide +kernel
theorem dX10_tribe_86 : decode cX10_tribe 86 = .ok (.iand, 1) := by decide +kernel
theorem dX10_tribe_87 : decode cX10_tribe 87 = .ok (.ireturn, 1) := by decide +kernel
theorem dX10_tribe_88 : decode cX10_tribe 88 = .ok (.aload_n 0, 1) := by decide +kernel
theorem dX10_tribe_89 : decode cX10_tribe 89 = .ok (.getfield 28, 3) := by decide +kernel
theorem dX10_tribe_92 : decode cX10_tribe 92 = .ok (.getfield 143, 3) := by decide +kernel
theorem dX10_tribe_95 : decode cX10_tribe 95 = .ok (.iload_n 1, 1) := by decide +kernel
theorem dX10_tribe_96 : decode cX10_tribe 96 = .ok (.iaload, 1) := by decide +kernel
theorem dX10_tribe_97 : decode cX10_tribe 97 = .ok (.ireturn, 1) := by decide +kernel
theorem dX10_tribe_98 : decode cX10_tribe 98 = .ok (.aload_n 0, 1) := by decide +kernel
theorem dX10_tribe_99 : decode cX10_tribe 99 = .ok (.getfield 28, 3) := by decide +kernel
theorem dX10_tribe_102 : decode cX10_tribe 102 = .ok (.getfield 146, 3) := by decide +kernel
theorem dX10_tribe_105 : decode cX10_tribe 105 = .ok (.iload_n 1, 1) := by decide +kernel
theorem dX10_tribe_106 : decode cX10_tribe 106 = .ok (.iaload, 1) := by decide +kernel
theorem dX10_tribe_107 : decode cX10_tribe 107 = .ok (.ireturn, 1) := by decide +kernel
theorem dX10_tribe_108 : decode cX10_tribe 108 = .ok (.aload_n 0, 1) := by decide +kernel
theorem dX10_tribe_109 : decode cX10_tribe 109 = .ok (.getfield 71, 3) := by decide +kernel
theorem dX10_tribe_112 : decode cX10_tribe 112 = .ok (.getfield 149, 3) := by decide +kernel
theorem dX10_tribe_115 : decode cX10_tribe 115 = .ok (.iload_n 1, 1) := by decide +kernel
theorem dX10_tribe_116 : decode cX10_tribe 116 = .ok (.iaload, 1) := by decide +kernel
theorem dX10_tribe_117 : decode cX10_tribe 117 = .ok (.ireturn, 1) := by decide +kernel
theorem dX10_tribe_118 : decode cX10_tribe 118 = .ok (.iload_n 1, 1) := by decide +kernel
theorem dX10_tribe_119 : decode cX10_tribe 119 = .ok (.aload_n 0, 1) := by decide +kernel
theorem dX10_tribe_120 : decode cX10_tribe 120 = .ok (.getfield 28, 3) := by decide +kernel
theorem dX10_tribe_123 : decode cX10_tribe 123 = .ok (.getfield 152, 3) := by decide +kernel
theorem dX10_tribe_126 : decode cX10_tribe 126 = .ok (.if_icmp .ne 7, 3) := by decide +kernel
theorem dX10_tribe_129 : decode cX10_tribe 129 = .ok (.iconst 0, 1) := by decide +kernel
theorem dX10_tribe_130 : decode cX10_tribe 130 = .ok (.goto 27, 3) := by decide +kernel
theorem dX10_tribe_133 : decode cX10_tribe 133 = .ok (.aload_n 0, 1) := by decide +kernel
theorem dX10_tribe_134 : decode cX10_tribe 134 = .ok (.getfield 71, 3) := by decide +kernel
theorem dX10_tribe_137 : decode cX10_tribe 137 = .ok (.getfield 149, 3) := by decide +kernel
theorem dX10_tribe_140 : decode cX10_tribe 140 = .ok (.iload_n 1, 1) := by decide +kernel
theorem dX10_tribe_141 : decode cX10_tribe 141 = .ok (.iaload, 1) := by decide +kernel
theorem dX10_tribe_142 : decode cX10_tribe 142 = .ok (.aload_n 0, 1) := by decide +kernel
theorem dX10_tribe_143 : decode cX10_tribe 143 = .ok (.getfield 71, 3) := by decide +kernel
theorem dX10_tribe_146 : decode cX10_tribe 146 = .ok (.aload_n 0, 1) := by decide +kernel
theorem dX10_tribe_147 : decode cX10_tribe 147 = .ok (.getfield 28, 3) := by decide +kernel
theorem dX10_tribe_150 : decode cX10_tribe 150 = .ok (.getfield 155, 3) := by decide +kernel
theorem dX10_tribe_153 : decode cX10_tribe 153 = .ok (.invokevirtual 158, 3) := by decide +kernel
theorem dX10_tribe_156 : decode cX10_tribe 156 = .ok (.iand, 1) := by decide +kernel
theorem dX10_tribe_157 : decode cX10_tribe 157 = .ok (.ireturn, 1) := by decide +kernel
theorem dX10_tribe_158 : decode cX10_tribe 158 = .ok (.iconst (-1), 1) := by decide +kernel
theorem dX10_tribe_159 : decode cX10_tribe 159 = .ok (.ireturn, 1) := by decide +kernel
theorem dX10_move_0 : decode cX10_move 0 = .ok (.aload_n 0, 1) := by decide +kernel
theorem dX10_move_1 : decode cX10_move 1 = .ok (.getfield 71, 3) := by decide +kernel
theorem dX10_move_4 : decode cX10_move 4 = .ok (.iload_n 1, 1) := by decide +kernel
theorem dX10_move_5 : decode cX10_move 5 = .ok (.invokevirtual 162, 3) := by decide +kernel
theorem dX10_move_8 : decode cX10_move 8 = .ok (.ifCond .ne 6, 3) := by decide +kernel
theorem dX10_move_11 : decode cX10_move 11 = .ok (.bipush (-2), 2) := by decide +kernel
theorem dX10_move_13 : decode cX10_move 13 = .ok (.ireturn, 1) := by decide +kernel
theorem dX10_move_14 : decode cX10_move 14 = .ok (.iload_n 2, 1) := by decide +kernel
theorem dX10_move_15 : decode cX10_move 15 = .ok (.tableswitch 96 0 5 #[37, 47, 57, 67, 77, 87], 37) := by decide +kernel
theorem dX10_move_52 : decode cX10_move 52 = .ok (.aload_n 0, 1) := by decide +kernel
theorem dX10_move_53 : decode cX10_move 53 = .ok (.getfield 71, 3) := by decide +kernel
theorem dX10_move_56 : decode cX10_move 56 = .ok (.getfield 165, 3) := by decide +kernel
theorem dX10_move_59 : decode cX10_move 59 = .ok (.iload_n 1, 1) := by decide +kernel
theorem dX10_move_60 : decode cX10_move 60 = .ok (.iaload, 1) := by decide +kernel
theorem dX10_move_61 : decode cX10_move 61 = .ok (.ireturn, 1) := by decide +kernel
theorem dX10_move_62 : decode cX10_move 62 = .ok (.aload_n 0, 1) := by decide +kernel
theorem dX10_move_63 : decode cX10_move 63 = .ok (.getfield 71, 3) := by decide +kernel
theorem dX10_move_66 : decode cX10_move 66 = .ok (.getfield 168, 3) := by decide +kernel
theorem dX10_move_69 : decode cX10_move 69 = .ok (.iload_n 1, 1) := by decide +kernel
theorem dX10_move_70 : decode cX10_move 70 = .ok (.iaload, 1) := by decide +kernel
theorem dX10_move_71 : decode cX10_move 71 = .ok (.ireturn, 1) := by decide +kernel
theorem dX10_move_72 : decode cX10_move 72 = .ok (.aload_n 0, 1) := by decide +kernel
theorem dX10_move_73 : decode cX10_move 73 = .ok (.getfield 71, 3) := by decide +kernel
theorem dX10_move_76 : decode cX10_move 76 = .ok (.getfield 171, 3) := by decide +kernel
theorem dX10_move_79 : decode cX10_move 79 = .ok (.iload_n 1, 1) := by decide +kernel
theorem dX10_move_80 : decode cX10_move 80 = .ok (.iaload, 1) := by decide +kernel
theorem dX10_move_81 : decode cX10_move 81 = .ok (.ireturn, 1) := by decide +kernel
theorem dX10_move_82 : decode cX10_move 82 = .ok (.aload_n 0, 1) := by decide +kernel
theorem dX10_move_83 : decode cX10_move 83 = .ok (.getfield 71, 3) := by decide +kernel
theorem dX10_move_86 : decode cX10_move 86 = .ok (.getfield 174, 3) := by decide +kernel
theorem dX10_move_89 : decode cX10_move 89 = .ok (.iload_n 1, 1) := by decide +kernel
theorem dX10_move_90 : decode cX10_move 90 = .ok (.iaload, 1) := by decide +kernel
theorem dX10_move_91 : decode cX10_move 91 = .ok (.ireturn, 1) := by decide +kernel
theorem dX10_move_92 : decode cX10_move 92 = .ok (.aload_n 0, 1) := by decide +kernel
theorem dX10_move_93 : decode cX10_move 93 = .ok (.getfield 71, 3) := by decide +kernel
theorem dX10_move_96 : decode cX10_move 96 = .ok (.getfield 177, 3) := by decide +kernel
theorem dX10_move_99 : decode cX10_move 99 = .ok (.iload_n 1, 1) := by decide +kernel
theorem dX10_move_100 : decode cX10_move 100 = .ok (.iaload, 1) := by decide +kernel
theorem dX10_move_101 : decode cX10_move 101 = .ok (.ireturn, 1) := by decide +kernel
theorem dX10_move_102 : decode cX10_move 102 = .ok (.aload_n 0, 1) := by decide +kernel
theorem dX10_move_103 : decode cX10_move 103 = .ok (.getfield 71, 3) := by decide +kernel
theorem dX10_move_106 : decode cX10_move 106 = .ok (.iload_n 1, 1) := by decide +kernel
theorem dX10_move_107 : decode cX10_move 107 = .ok (.invokevirtual 180, 3) := by decide +kernel
theorem dX10_move_110 : decode cX10_move 110 = .ok (.ireturn, 1) := by decide +kernel
theorem dX10_move_111 : decode cX10_move 111 = .ok (.bipush (-2), 2) := by decide +kernel
theorem dX10_move_113 : decode cX10_move 113 = .ok (.ireturn, 1) := by decide +kernel
theorem dX10_worth_0 : decode cX10_worth 0 = .ok (.aload_n 0, 1) := by decide +kernel
theorem dX10_worth_1 : decode cX10_worth 1 = .ok (.getfield 71, 3) := by decide +kernel
theorem dX10_worth_4 : decode cX10_worth 4 = .ok (.iload_n 1, 1) := by decide +kernel
theorem dX10_worth_5 : decode cX10_worth 5 = .ok (.invokevirtual 130, 3) := by decide +kernel
theorem dX10_worth_8 : decode cX10_worth 8 = .ok (.ifCond .eq 14, 3) := by decide +kernel
theorem dX10_worth_11 : decode cX10_worth 11 = .ok (.aload_n 0, 1) := by decide +kernel
theorem dX10_worth_12 : decode cX10_worth 12 = .ok (.getfield 71, 3) := by decide +kernel
theorem dX10_worth_15 : decode cX10_worth 15 = .ok (.iload_n 2, 1) := by decide +kernel
theorem dX10_worth_16 : decode cX10_worth 16 = .ok (.invokevirtual 183, 3) := by decide +kernel
theorem dX10_worth_19 : decode cX10_worth 19 = .ok (.ifCond .ne 5, 3) := by decide +kernel
theorem dX10_worth_22 : decode cX10_worth 22 = .ok (.iconst (-1), 1) := by decide +kernel
theorem dX10_worth_23 : decode cX10_worth 23 = .ok (.ireturn, 1) := by decide +kernel
theorem dX10_worth_24 : decode cX10_worth 24 = .ok (.aload_n 0, 1) := by decide +kernel
theorem dX10_worth_25 : decode cX10_worth 25 = .ok (.getfield 71, 3) := by decide +kernel
theorem dX10_worth_28 : decode cX10_worth 28 = .ok (.iload_n 1, 1) := by decide +kernel
theorem dX10_worth_29 : decode cX10_worth 29 = .ok (.iload_n 2, 1) := by decide +kernel
theorem dX10_worth_30 : decode cX10_worth 30 = .ok (.invokevirtual 186, 3) := by decide +kernel
theorem dX10_worth_33 : decode cX10_worth 33 = .ok (.ireturn, 1) := by decide +kernel
theorem dX10_slip_0 : decode cX10_slip 0 = .ok (.aload_n 0, 1) := by decide +kernel
theorem dX10_slip_1 : decode cX10_slip 1 = .ok (.getfield 71, 3) := by decide +kernel
theorem dX10_slip_4 : decode cX10_slip 4 = .ok (.iload_n 1, 1) := by decide +kernel
theorem dX10_slip_5 : decode cX10_slip 5 = .ok (.invokevirtual 130, 3) := by decide +kernel
theorem dX10_slip_8 : decode cX10_slip 8 = .ok (.ifCond .eq 14, 3) := by decide +kernel
theorem dX10_slip_11 : decode cX10_slip 11 = .ok (.aload_n 0, 1) := by decide +kernel
theorem dX10_slip_12 : decode cX10_slip 12 = .ok (.getfield 71, 3) := by decide +kernel
theorem dX10_slip_15 : decode cX10_slip 15 = .ok (.iload_n 2, 1) := by decide +kernel
theorem dX10_slip_16 : decode cX10_slip 16 = .ok (.invokevirtual 162, 3) := by decide +kernel
theorem dX10_slip_19 : decode cX10_slip 19 = .ok (.ifCond .ne 5, 3) := by decide +kernel
theorem dX10_slip_22 : decode cX10_slip 22 = .ok (.iconst (-1), 1) := by decide +kernel
theorem dX10_slip_23 : decode cX10_slip 23 = .ok (.ireturn, 1) := by decide +kernel
theorem dX10_slip_24 : decode cX10_slip 24 = .ok (.aload_n 0, 1) := by decide +kernel
theorem dX10_slip_25 : decode cX10_slip 25 = .ok (.getfield 71, 3) := by decide +kernel
theorem dX10_slip_28 : decode cX10_slip 28 = .ok (.iload_n 1, 1) := by decide +kernel
theorem dX10_slip_29 : decode cX10_slip 29 = .ok (.iload_n 2, 1) := by decide +kernel
theorem dX10_slip_30 : decode cX10_slip 30 = .ok (.aload_n 0, 1) := by decide +kernel
theorem dX10_slip_31 : decode cX10_slip 31 = .ok (.getfield 28, 3) := by decide +kernel
theorem dX10_slip_34 : decode cX10_slip 34 = .ok (.invokevirtual 190, 3) := by decide +kernel
theorem dX10_slip_37 : decode cX10_slip 37 = .ok (.ireturn, 1) := by decide +kernel
theorem dX10_take_0 : decode cX10_take 0 = .ok (.aload_n 0, 1) := by decide +kernel
theorem dX10_take_1 : decode cX10_take 1 = .ok (.iload_n 1, 1) := by decide +kernel
theorem dX10_take_2 : decode cX10_take 2 = .ok (.iload_n 2, 1) := by decide +kernel
theorem dX10_take_3 : decode cX10_take 3 = .ok (.invokevirtual 194, 3) := by decide +kernel
theorem dX10_take_6 : decode cX10_take 6 = .ok (.ifCond .ne 5, 3) := by decide +kernel
theorem dX10_take_9 : decode cX10_take 9 = .ok (.iconst (-1), 1) := by decide +kernel
theorem dX10_take_10 : decode cX10_take 10 = .ok (.ireturn, 1) := by decide +kernel
theorem dX10_take_11 : decode cX10_take 11 = .ok (.aload_n 0, 1) := by decide +kernel
theorem dX10_take_12 : decode cX10_take 12 = .ok (.getfield 28, 3) := by decide +kernel
theorem dX10_take_15 : decode cX10_take 15 = .ok (.aload_n 0, 1) := by decide +kernel
theorem dX10_take_16 : decode cX10_take 16 = .ok (.getfield 71, 3) := by decide +kernel
theorem dX10_take_19 : decode cX10_take 19 = .ok (.iload_n 1, 1) := by decide +kernel
theorem dX10_take_20 : decode cX10_take 20 = .ok (.iload_n 2, 1) := by decide +kernel
theorem dX10_take_21 : decode cX10_take 21 = .ok (.invokevirtual 198, 3) := by decide +kernel
theorem dX10_take_24 : decode cX10_take 24 = .ok (.aload_n 0, 1) := by decide +kernel
theorem dX10_take_25 : decode cX10_take 25 = .ok (.getfield 35, 3) := by decide +kernel
theorem dX10_take_28 : decode cX10_take 28 = .ok (.aload_n 0, 1) := by decide +kernel
theorem dX10_take_29 : decode cX10_take 29 = .ok (.getfield 28, 3) := by decide +kernel
theorem dX10_take_32 : decode cX10_take 32 = .ok (.invokevirtual 202, 3) := by decide +kernel
theorem dX10_take_35 : decode cX10_take 35 = .ok (.aload_n 0, 1) := by decide +kernel
theorem dX10_take_36 : decode cX10_take 36 = .ok (.getfield 28, 3) := by decide +kernel
theorem dX10_take_39 : decode cX10_take 39 = .ok (.getfield 155, 3) := by decide +kernel
theorem dX10_take_42 : decode cX10_take 42 = .ok (.ireturn, 1) := by decide +kernel
theorem dX10_canTake_0 : decode cX10_canTake 0 = .ok (.aload_n 0, 1) := by decide +kernel
theorem dX10_canTake_1 : decode cX10_canTake 1 = .ok (.getfield 71, 3) := by decide +kernel
theorem dX10_canTake_4 : decode cX10_canTake 4 = .ok (.iload_n 1, 1) := by decide +kernel
theorem dX10_canTake_5 : decode cX10_canTake 5 = .ok (.invokevirtual 130, 3) := by decide +kernel
theorem dX10_canTake_8 : decode cX10_canTake 8 = .ok (.ifCond .eq 60, 3) := by decide +kernel
theorem dX10_canTake_11 : decode cX10_canTake 11 = .ok (.aload_n 0, 1) := by decide +kernel
theorem dX10_canTake_12 : decode cX10_canTake 12 = .ok (.getfield 71, 3) := by decide +kernel
theorem dX10_canTake_15 : decode cX10_canTake 15 = .ok (.iload_n 2, 1) := by decide +kernel
theorem dX10_canTake_16 : decode cX10_canTake 16 = .ok (.invokevirtual 162, 3) := by decide +kernel
theorem dX10_canTake_19 : decode cX10_canTake 19 = .ok (.ifCond .eq 49, 3) := by decide +kernel
theorem dX10_canTake_22 : decode cX10_canTake 22 = .ok (.iload_n 1, 1) := by decide +kernel
theorem dX10_canTake_23 : decode cX10_canTake 23 = .ok (.aload_n 0, 1) := by decide +kernel
theorem dX10_canTake_24 : decode cX10_canTake 24 = .ok (.getfield 28, 3) := by decide +kernel
theorem dX10_canTake_27 : decode cX10_canTake 27 = .ok (.getfield 152, 3) := by decide +kernel
theorem dX10_canTake_30 : decode cX10_canTake 30 = .ok (.if_icmp .eq 38, 3) := by decide +kernel
theorem dX10_canTake_33 : decode cX10_canTake 33 = .ok (.aload_n 0, 1) := by decide +kernel
theorem dX10_canTake_34 : decode cX10_canTake 34 = .ok (.getfield 71, 3) := by decide +kernel
theorem dX10_canTake_37 : decode cX10_canTake 37 = .ok (.getfield 165, 3) := by decide +kernel
theorem dX10_canTake_40 : decode cX10_canTake 40 = .ok (.iload_n 2, 1) := by decide +kernel
theorem dX10_canTake_41 : decode cX10_canTake 41 = .ok (.iaload, 1) := by decide +kernel
theorem dX10_canTake_42 : decode cX10_canTake 42 = .ok (.aload_n 0, 1) := by decide +kernel
theorem dX10_canTake_43 : decode cX10_canTake 43 = .ok (.getfield 28, 3) := by decide +kernel
theorem dX10_canTake_46 : decode cX10_canTake 46 = .ok (.getfield 155, 3) := by decide +kernel
theorem dX10_canTake_49 : decode cX10_canTake 49 = .ok (.if_icmp .ne 19, 3) := by decide +kernel
theorem dX10_canTake_52 : decode cX10_canTake 52 = .ok (.aload_n 0, 1) := by decide +kernel
theorem dX10_canTake_53 : decode cX10_canTake 53 = .ok (.getfield 71, 3) := by decide +kernel
theorem dX10_canTake_56 : decode cX10_canTake 56 = .ok (.iload_n 1, 1) := by decide +kernel
theorem dX10_canTake_57 : decode cX10_canTake 57 = .ok (.iload_n 2, 1) := by decide +kernel
theorem dX10_canTake_58 : decode cX10_canTake 58 = .ok (.invokevirtual 205, 3) := by decide +kernel
theorem dX10_canTake_61 : decode cX10_canTake 61 = .ok (.ifCond .eq 7, 3) := by decide +kernel
theorem dX10_canTake_64 : decode cX10_canTake 64 = .ok (.iconst 1, 1) := by decide +kernel
theorem dX10_canTake_65 : decode cX10_canTake 65 = .ok (.goto 4, 3) := by decide +kernel
theorem dX10_canTake_68 : decode cX10_canTake 68 = .ok (.iconst 0, 1) := by decide +kernel
theorem dX10_canTake_69 : decode cX10_canTake 69 = .ok (.ireturn, 1) := by decide +kernel
theorem dX10_rain_0 : decode cX10_rain 0 = .ok (.aload_n 0, 1) := by decide +kernel
theorem dX10_rain_1 : decode cX10_rain 1 = .ok (.getfield 28, 3) := by decide +kernel
theorem dX10_rain_4 : decode cX10_rain 4 = .ok (.getfield 208, 3) := by decide +kernel
theorem dX10_rain_7 : decode cX10_rain 7 = .ok (.ifCond .eq 5, 3) := by decide +kernel
theorem dX10_rain_10 : decode cX10_rain 10 = .ok (.iconst (-1), 1) := by decide +kernel
theorem dX10_rain_11 : decode cX10_rain 11 = .ok (.ireturn, 1) := by decide +kernel
theorem dX10_rain_12 : decode cX10_rain 12 = .ok (.aload_n 0, 1) := by decide +kernel
theorem dX10_rain_13 : decode cX10_rain 13 = .ok (.getfield 28, 3) := by decide +kernel
theorem dX10_rain_16 : decode cX10_rain 16 = .ok (.iconst 1, 1) := by decide +kernel
theorem dX10_rain_17 : decode cX10_rain 17 = .ok (.putfield 208, 3) := by decide +kernel
theorem dX10_rain_20 : decode cX10_rain 20 = .ok (.aload_n 0, 1) := by decide +kernel
theorem dX10_rain_21 : decode cX10_rain 21 = .ok (.getfield 35, 3) := by decide +kernel
theorem dX10_rain_24 : decode cX10_rain 24 = .ok (.aload_n 0, 1) := by decide +kernel
theorem dX10_rain_25 : decode cX10_rain 25 = .ok (.getfield 28, 3) := by decide +kernel
theorem dX10_rain_28 : decode cX10_rain 28 = .ok (.invokevirtual 202, 3) := by decide +kernel
theorem dX10_rain_31 : decode cX10_rain 31 = .ok (.aload_n 0, 1) := by decide +kernel
theorem dX10_rain_32 : decode cX10_rain 32 = .ok (.getfield 28, 3) := by decide +kernel
theorem dX10_rain_35 : decode cX10_rain 35 = .ok (.getfield 211, 3) := by decide +kernel
theorem dX10_rain_38 : decode cX10_rain 38 = .ok (.ireturn, 1) := by decide +kernel
theorem dX10_give_0 : decode cX10_give 0 = .ok (.aload_n 0, 1) := by decide +kernel
theorem dX10_give_1 : decode cX10_give 1 = .ok (.getfield 71, 3) := by decide +kernel
theorem dX10_give_4 : decode cX10_give 4 = .ok (.iload_n 1, 1) := by decide +kernel
theorem dX10_give_5 : decode cX10_give 5 = .ok (.invokevirtual 130, 3) := by decide +kernel
theorem dX10_give_8 : decode cX10_give 8 = .ok (.ifCond .eq 14, 3) := by decide +kernel
theorem dX10_give_11 : decode cX10_give 11 = .ok (.iload_n 1, 1) := by decide +kernel
theorem dX10_give_12 : decode cX10_give 12 = .ok (.aload_n 0, 1) := by decide +kernel
theorem dX10_give_13 : decode cX10_give 13 = .ok (.getfield 28, 3) := by decide +kernel
theorem dX10_give_16 : decode cX10_give 16 = .ok (.getfield 152, 3) := by decide +kernel
theorem dX10_give_19 : decode cX10_give 19 = .ok (.if_icmp .ne 5, 3) := by decide +kernel
theorem dX10_give_22 : decode cX10_give 22 = .ok (.iconst (-1), 1) := by decide +kernel
theorem dX10_give_23 : decode cX10_give 23 = .ok (.ireturn, 1) := by decide +kernel
theorem dX10_give_24 : decode cX10_give 24 = .ok (.aload_n 0, 1) := by decide +kernel
theorem dX10_give_25 : decode cX10_give 25 = .ok (.getfield 28, 3) := by decide +kernel
theorem dX10_give_28 : decode cX10_give 28 = .ok (.getfield 152, 3) := by decide +kernel
theorem dX10_give_31 : decode cX10_give 31 = .ok (.istore_n 2, 1) := by decide +kernel
theorem dX10_give_32 : decode cX10_give 32 = .ok (.aload_n 0, 1) := by decide +kernel
theorem dX10_give_33 : decode cX10_give 33 = .ok (.getfield 28, 3) := by decide +kernel
theorem dX10_give_36 : decode cX10_give 36 = .ok (.iload_n 1, 1) := by decide +kernel
theorem dX10_give_37 : decode cX10_give 37 = .ok (.putfield 152, 3) := by decide +kernel
theorem dX10_give_40 : decode cX10_give 40 = .ok (.aload_n 0, 1) := by decide +kernel
theorem dX10_give_41 : decode cX10_give 41 = .ok (.getfield 35, 3) := by decide +kernel
theorem dX10_give_44 : decode cX10_give 44 = .ok (.aload_n 0, 1) := by decide +kernel
theorem dX10_give_45 : decode cX10_give 45 = .ok (.getfield 28, 3) := by decide +kernel
theorem dX10_give_48 : decode cX10_give 48 = .ok (.invokevirtual 202, 3) := by decide +kernel
theorem dX10_give_51 : decode cX10_give 51 = .ok (.iload_n 2, 1) := by decide +kernel
theorem dX10_give_52 : decode cX10_give 52 = .ok (.ireturn, 1) := by decide +kernel
theorem dX10_night_0 : decode cX10_night 0 = .ok (.aload_n 0, 1) := by decide +kernel
theorem dX10_night_1 : decode cX10_night 1 = .ok (.getfield 28, 3) := by decide +kernel
theorem dX10_night_4 : decode cX10_night 4 = .ok (.getfield 214, 3) := by decide +kernel
theorem dX10_night_7 : decode cX10_night 7 = .ok (.sipush 999, 3) := by decide +kernel
theorem dX10_night_10 : decode cX10_night 10 = .ok (.if_icmp .lt 5, 3) := by decide +kernel
theorem dX10_night_13 : decode cX10_night 13 = .ok (.iconst (-1), 1) := by decide +kernel
theorem dX10_night_14 : decode cX10_night 14 = .ok (.ireturn, 1) := by decide +kernel
theorem dX10_night_15 : decode cX10_night 15 = .ok (.aload_n 0, 1) := by decide +kernel
theorem dX10_night_16 : decode cX10_night 16 = .ok (.getfield 71, 3) := by decide +kernel
theorem dX10_night_19 : decode cX10_night 19 = .ok (.aload_n 0, 1) := by decide +kernel
theorem dX10_night_20 : decode cX10_night 20 = .ok (.getfield 28, 3) := by decide +kernel
theorem dX10_night_23 : decode cX10_night 23 = .ok (.getfield 155, 3) := by decide +kernel
theorem dX10_night_26 : decode cX10_night 26 = .ok (.invokevirtual 217, 3) := by decide +kernel
theorem dX10_night_29 : decode cX10_night 29 = .ok (.istore_n 1, 1) := by decide +kernel
theorem dX10_night_30 : decode cX10_night 30 = .ok (.aload_n 0, 1) := by decide +kernel
theorem dX10_night_31 : decode cX10_night 31 = .ok (.getfield 28, 3) := by decide +kernel
theorem dX10_night_34 : decode cX10_night 34 = .ok (.aload_n 0, 1) := by decide +kernel
theorem dX10_night_35 : decode cX10_night 35 = .ok (.getfield 71, 3) := by decide +kernel
theorem dX10_night_38 : decode cX10_night 38 = .ok (.invokevirtual 220, 3) := by decide +kernel
theorem dX10_night_41 : decode cX10_night 41 = .ok (.aload_n 0, 1) := by decide +kernel
theorem dX10_night_42 : decode cX10_night 42 = .ok (.getfield 35, 3) := by decide +kernel
theorem dX10_night_45 : decode cX10_night 45 = .ok (.aload_n 0, 1) := by decide +kernel
theorem dX10_night_46 : decode cX10_night 46 = .ok (.getfield 28, 3) := by decide +kernel
theorem dX10_night_49 : decode cX10_night 49 = .ok (.invokevirtual 202, 3) := by decide +kernel
theorem dX10_night_52 : decode cX10_night 52 = .ok (.iload_n 1, 1) := by decide +kernel
theorem dX10_night_53 : decode cX10_night 53 = .ok (.ireturn, 1) := by decide +kernel
theorem dX10_undo_0 : decode cX10_undo 0 = .ok (.aload_n 0, 1) := by decide +kernel
theorem dX10_undo_1 : decode cX10_undo 1 = .ok (.getfield 35, 3) := by decide +kernel
theorem dX10_undo_4 : decode cX10_undo 4 = .ok (.aload_n 0, 1) := by decide +kernel
theorem dX10_undo_5 : decode cX10_undo 5 = .ok (.getfield 28, 3) := by decide +kernel
theorem dX10_undo_8 : decode cX10_undo 8 = .ok (.invokevirtual 223, 3) := by decide +kernel
theorem dX10_undo_11 : decode cX10_undo 11 = .ok (.ireturn, 1) := by decide +kernel
theorem dX10_redo_0 : decode cX10_redo 0 = .ok (.aload_n 0, 1) := by decide +kernel
theorem dX10_redo_1 : decode cX10_redo 1 = .ok (.getfield 35, 3) := by decide +kernel
theorem dX10_redo_4 : decode cX10_redo 4 = .ok (.aload_n 0, 1) := by decide +kernel
theorem dX10_redo_5 : decode cX10_redo 5 = .ok (.getfield 28, 3) := by decide +kernel
theorem dX10_redo_8 : decode cX10_redo 8 = .ok (.invokevirtual 227, 3) := by decide +kernel
theorem dX10_redo_11 : decode cX10_redo 11 = .ok (.ireturn, 1) := by decide +kernel
theorem dX10_way_0 : decode cX10_way 0 = .ok (.aload_n 0, 1) := by decide +kernel
theorem dX10_way_1 : decode cX10_way 1 = .ok (.getfield 50, 3) := by decide +kernel
theorem dX10_way_4 : decode cX10_way 4 = .ok (.invokevirtual 86, 3) := by decide +kernel
theorem dX10_way_7 : decode cX10_way 7 = .ok (.aload_n 0, 1) := by decide +kernel
theorem dX10_way_8 : decode cX10_way 8 = .ok (.iload_n 1, 1) := by decide +kernel
theorem dX10_way_9 : decode cX10_way 9 = .ok (.invokevirtual 230, 3) := by decide +kernel
theorem dX10_way_12 : decode cX10_way 12 = .ok (.ifCond .eq 14, 3) := by decide +kernel
theorem dX10_way_15 : decode cX10_way 15 = .ok (.aload_n 0, 1) := by decide +kernel
theorem dX10_way_16 : decode cX10_way 16 = .ok (.getfield 71, 3) := by decide +kernel
theorem dX10_way_19 : decode cX10_way 19 = .ok (.iload_n 2, 1) := by decide +kernel
theorem dX10_way_20 : decode cX10_way 20 = .ok (.invokevirtual 183, 3) := by decide +kernel
theorem dX10_way_23 : decode cX10_way 23 = .ok (.ifCond .ne 5, 3) := by decide +kernel
theorem dX10_way_26 : decode cX10_way 26 = .ok (.iconst (-1), 1) := by decide +kernel
theorem dX10_way_27 : decode cX10_way 27 = .ok (.ireturn, 1) := by decide +kernel
theorem dX10_way_28 : decode cX10_way 28 = .ok (.aload_n 0, 1) := by decide +kernel
theorem dX10_way_29 : decode cX10_way 29 = .ok (.getfield 50, 3) := by decide +kernel
theorem dX10_way_32 : decode cX10_way 32 = .ok (.aload_n 0, 1) := by decide +kernel
theorem dX10_way_33 : decode cX10_way 33 = .ok (.getfield 71, 3) := by decide +kernel
theorem dX10_way_36 : decode cX10_way 36 = .ok (.aload_n 0, 1) := by decide +kernel
theorem dX10_way_37 : decode cX10_way 37 = .ok (.getfield 28, 3) := by decide +kernel
theorem dX10_way_40 : decode cX10_way 40 = .ok (.iload_n 1, 1) := by decide +kernel
theorem dX10_way_41 : decode cX10_way 41 = .ok (.iload_n 2, 1) := by decide +kernel
theorem dX10_way_42 : decode cX10_way 42 = .ok (.invokevirtual 233, 3) := by decide +kernel
theorem dX10_way_45 : decode cX10_way 45 = .ok (.ireturn, 1) := by decide +kernel
theorem dX10_surest_0 : decode cX10_surest 0 = .ok (.aload_n 0, 1) := by decide +kernel
theorem dX10_surest_1 : decode cX10_surest 1 = .ok (.getfield 50, 3) := by decide +kernel
theorem dX10_surest_4 : decode cX10_surest 4 = .ok (.invokevirtual 86, 3) := by decide +kernel
theorem dX10_surest_7 : decode cX10_surest 7 = .ok (.aload_n 0, 1) := by decide +kernel
theorem dX10_surest_8 : decode cX10_surest 8 = .ok (.iload_n 1, 1) := by decide +kernel
theorem dX10_surest_9 : decode cX10_surest 9 = .ok (.invokevirtual 230, 3) := by decide +kernel
theorem dX10_surest_12 : decode cX10_surest 12 = .ok (.ifCond .eq 23, 3) := by decide +kernel
theorem dX10_surest_15 : decode cX10_surest 15 = .ok (.aload_n 0, 1) := by decide +kernel
theorem dX10_surest_16 : decode cX10_surest 16 = .ok (.getfield 71, 3) := by decide +kernel
theorem dX10_surest_19 : decode cX10_surest 19 = .ok (.iload_n 2, 1) := by decide +kernel
theorem dX10_surest_20 : decode cX10_surest 20 = .ok (.invokevirtual 183, 3) := by decide +kernel
theorem dX10_surest_23 : decode cX10_surest 23 = .ok (.ifCond .eq 12, 3) := by decide +kernel
theorem dX10_surest_26 : decode cX10_surest 26 = .ok (.iload_n 3, 1) := by decide +kernel
theorem dX10_surest_27 : decode cX10_surest 27 = .ok (.ifCond .lt 8, 3) := by decide +kernel
theorem dX10_surest_30 : decode cX10_surest 30 = .ok (.iload_n 3, 1) := by decide +kernel
theorem dX10_surest_31 : decode cX10_surest 31 = .ok (.iconst 1, 1) := by decide +kernel
theorem dX10_surest_32 : decode cX10_surest 32 = .ok (.if_icmp .le 5, 3) := by decide +kernel
theorem dX10_surest_35 : decode cX10_surest 35 = .ok (.iconst (-1), 1) := by decide +kernel
theorem dX10_surest_36 : decode cX10_surest 36 = .ok (.ireturn, 1) := by decide +kernel
theorem dX10_surest_37 : decode cX10_surest 37 = .ok (.aload_n 0, 1) := by decide +kernel
theorem dX10_surest_38 : decode cX10_surest 38 = .ok (.getfield 50, 3) := by decide +kernel
theorem dX10_surest_41 : decode cX10_surest 41 = .ok (.aload_n 0, 1) := by decide +kernel
theorem dX10_surest_42 : decode cX10_surest 42 = .ok (.getfield 71, 3) := by decide +kernel
theorem dX10_surest_45 : decode cX10_surest 45 = .ok (.aload_n 0, 1) := by decide +kernel
theorem dX10_surest_46 : decode cX10_surest 46 = .ok (.getfield 28, 3) := by decide +kernel
theorem dX10_surest_49 : decode cX10_surest 49 = .ok (.iload_n 1, 1) := by decide +kernel
theorem dX10_surest_50 : decode cX10_surest 50 = .ok (.iload_n 2, 1) := by decide +kernel
theorem dX10_surest_51 : decode cX10_surest 51 = .ok (.invokevirtual 237, 3) := by decide +kernel
theorem dX10_surest_54 : decode cX10_surest 54 = .ok (.ifCond .ne 5, 3) := by decide +kernel
theorem dX10_surest_57 : decode cX10_surest 57 = .ok (.iconst (-1), 1) := by decide +kernel
theorem dX10_surest_58 : decode cX10_surest 58 = .ok (.ireturn, 1) := by decide +kernel
theorem dX10_surest_59 : decode cX10_surest 59 = .ok (.iload_n 3, 1) := by decide +kernel
theorem dX10_surest_60 : decode cX10_surest 60 = .ok (.ifCond .ne 13, 3) := by decide +kernel
theorem dX10_surest_63 : decode cX10_surest 63 = .ok (.aload_n 0, 1) := by decide +kernel
theorem dX10_surest_64 : decode cX10_surest 64 = .ok (.getfield 50, 3) := by decide +kernel
theorem dX10_surest_67 : decode cX10_surest 67 = .ok (.getfield 241, 3) := by decide +kernel
theorem dX10_surest_70 : decode cX10_surest 70 = .ok (.goto 10, 3) := by decide +kernel
theorem dX10_surest_73 : decode cX10_surest 73 = .ok (.aload_n 0, 1) := by decide +kernel
theorem dX10_surest_74 : decode cX10_surest 74 = .ok (.getfield 50, 3) := by decide +kernel
theorem dX10_surest_77 : decode cX10_surest 77 = .ok (.getfield 244, 3) := by decide +kernel
theorem dX10_surest_80 : decode cX10_surest 80 = .ok (.ireturn, 1) := by decide +kernel
theorem dX10_isOther_0 : decode cX10_isOther 0 = .ok (.aload_n 0, 1) := by decide +kernel
theorem dX10_isOther_1 : decode cX10_isOther 1 = .ok (.getfield 71, 3) := by decide +kernel
theorem dX10_isOther_4 : decode cX10_isOther 4 = .ok (.iload_n 1, 1) := by decide +kernel
theorem dX10_isOther_5 : decode cX10_isOther 5 = .ok (.invokevirtual 130, 3) := by decide +kernel
theorem dX10_isOther_8 : decode cX10_isOther 8 = .ok (.ifCond .eq 18, 3) := by decide +kernel
theorem dX10_isOther_11 : decode cX10_isOther 11 = .ok (.iload_n 1, 1) := by decide +kernel
theorem dX10_isOther_12 : decode cX10_isOther 12 = .ok (.aload_n 0, 1) := by decide +kernel
theorem dX10_isOther_13 : decode cX10_isOther 13 = .ok (.getfield 28, 3) := by decide +kernel
theorem dX10_isOther_16 : decode cX10_isOther 16 = .ok (.getfield 152, 3) := by decide +kernel
theorem dX10_isOther_19 : decode cX10_isOther 19 = .ok (.if_icmp .eq 7, 3) := by decide +kernel
theorem dX10_isOther_22 : decode cX10_isOther 22 = .ok (.iconst 1, 1) := by decide +kernel
theorem dX10_isOther_23 : decode cX10_isOther 23 = .ok (.goto 4, 3) := by decide +kernel
theorem dX10_isOther_26 : decode cX10_isOther 26 = .ok (.iconst 0, 1) := by decide +kernel
theorem dX10_isOther_27 : decode cX10_isOther 27 = .ok (.ireturn, 1) := by decide +kernel
theorem dX10_makes_0 : decode cX10_makes 0 = .ok (.iload_n 1, 1) := by decide +kernel
theorem dX10_makes_1 : decode cX10_makes 1 = .ok (.ifCond .lt 16, 3) := by decide +kernel
theorem dX10_makes_4 : decode cX10_makes 4 = .ok (.iload_n 1, 1) := by decide +kernel
theorem dX10_makes_5 : decode cX10_makes 5 = .ok (.iconst 1, 1) := by decide +kernel
theorem dX10_makes_6 : decode cX10_makes 6 = .ok (.aload_n 0, 1) := by decide +kernel
theorem dX10_makes_7 : decode cX10_makes 7 = .ok (.getfield 71, 3) := by decide +kernel
theorem dX10_makes_10 : decode cX10_makes 10 = .ok (.getfield 247, 3) := by decide +kernel
theorem dX10_makes_13 : decode cX10_makes 13 = .ok (.ishl, 1) := by decide +kernel
theorem dX10_makes_14 : decode cX10_makes 14 = .ok (.if_icmp .lt 5, 3) := by decide +kernel
theorem dX10_makes_17 : decode cX10_makes 17 = .ok (.iconst (-1), 1) := by decide +kernel
theorem dX10_makes_18 : decode cX10_makes 18 = .ok (.ireturn, 1) := by decide +kernel
theorem dX10_makes_19 : decode cX10_makes 19 = .ok (.aload_n 0, 1) := by decide +kernel
theorem dX10_makes_20 : decode cX10_makes 20 = .ok (.getfield 57, 3) := by decide +kernel
theorem dX10_makes_23 : decode cX10_makes 23 = .ok (.aload_n 0, 1) := by decide +kernel
theorem dX10_makes_24 : decode cX10_makes 24 = .ok (.getfield 71, 3) := by decide +kernel
theorem dX10_makes_27 : decode cX10_makes 27 = .ok (.aload_n 0, 1) := by decide +kernel
theorem dX10_makes_28 : decode cX10_makes 28 = .ok (.getfield 28, 3) := by decide +kernel
theorem dX10_makes_31 : decode cX10_makes 31 = .ok (.iload_n 1, 1) := by decide +kernel
theorem dX10_makes_32 : decode cX10_makes 32 = .ok (.invokevirtual 250, 3) := by decide +kernel
theorem dX10_makes_35 : decode cX10_makes 35 = .ok (.ireturn, 1) := by decide +kernel
theorem dX10_hands_0 : decode cX10_hands 0 = .ok (.aload_n 0, 1) := by decide +kernel
theorem dX10_hands_1 : decode cX10_hands 1 = .ok (.getfield 71, 3) := by decide +kernel
theorem dX10_hands_4 : decode cX10_hands 4 = .ok (.iload_n 1, 1) := by decide +kernel
theorem dX10_hands_5 : decode cX10_hands 5 = .ok (.invokevirtual 183, 3) := by decide +kernel
theorem dX10_hands_8 : decode cX10_hands 8 = .ok (.ifCond .eq 12, 3) := by decide +kernel
theorem dX10_hands_11 : decode cX10_hands 11 = .ok (.iload_n 2, 1) := by decide +kernel
theorem dX10_hands_12 : decode cX10_hands 12 = .ok (.ifCond .lt 8, 3) := by decide +kernel
theorem dX10_hands_15 : decode cX10_hands 15 = .ok (.iload_n 2, 1) := by decide +kernel
theorem dX10_hands_16 : decode cX10_hands 16 = .ok (.iconst 1, 1) := by decide +kernel
theorem dX10_hands_17 : decode cX10_hands 17 = .ok (.if_icmp .le 5, 3) := by decide +kernel
theorem dX10_hands_20 : decode cX10_hands 20 = .ok (.iconst (-1), 1) := by decide +kernel
theorem dX10_hands_21 : decode cX10_hands 21 = .ok (.ireturn, 1) := by decide +kernel
theorem dX10_hands_22 : decode cX10_hands 22 = .ok (.aload_n 0, 1) := by decide +kernel
theorem dX10_hands_23 : decode cX10_hands 23 = .ok (.getfield 57, 3) := by decide +kernel
theorem dX10_hands_26 : decode cX10_hands 26 = .ok (.aload_n 0, 1) := by decide +kernel
theorem dX10_hands_27 : decode cX10_hands 27 = .ok (.getfield 71, 3) := by decide +kernel
theorem dX10_hands_30 : decode cX10_hands 30 = .ok (.aload_n 0, 1) := by decide +kernel
theorem dX10_hands_31 : decode cX10_hands 31 = .ok (.getfield 28, 3) := by decide +kernel
theorem dX10_hands_34 : decode cX10_hands 34 = .ok (.iload_n 1, 1) := by decide +kernel
theorem dX10_hands_35 : decode cX10_hands 35 = .ok (.invokevirtual 254, 3) := by decide +kernel
theorem dX10_hands_38 : decode cX10_hands 38 = .ok (.istore_n 3, 1) := by decide +kernel
theorem dX10_hands_39 : decode cX10_hands 39 = .ok (.iload_n 3, 1) := by decide +kernel
theorem dX10_hands_40 : decode cX10_hands 40 = .ok (.iconst (-1), 1) := by decide +kernel
theorem dX10_hands_41 : decode cX10_hands 41 = .ok (.if_icmp .ne 5, 3) := by decide +kernel
theorem dX10_hands_44 : decode cX10_hands 44 = .ok (.iconst (-1), 1) := by decide +kernel
theorem dX10_hands_45 : decode cX10_hands 45 = .ok (.ireturn, 1) := by decide +kernel
theorem dX10_hands_46 : decode cX10_hands 46 = .ok (.iload_n 2, 1) := by decide +kernel
theorem dX10_hands_47 : decode cX10_hands 47 = .ok (.ifCond .ne 10, 3) := by decide +kernel
theorem dX10_hands_50 : decode cX10_hands 50 = .ok (.iload_n 3, 1) := by decide +kernel
theorem dX10_hands_51 : decode cX10_hands 51 = .ok (.invokestatic 257, 3) := by decide +kernel
theorem dX10_hands_54 : decode cX10_hands 54 = .ok (.goto 4, 3) := by decide +kernel
theorem dX10_hands_57 : decode cX10_hands 57 = .ok (.iload_n 3, 1) := by decide +kernel
theorem dX10_hands_58 : decode cX10_hands 58 = .ok (.ireturn, 1) := by decide +kernel
theorem dX10_deal_0 : decode cX10_deal 0 = .ok (.aload_n 0, 1) := by decide +kernel
theorem dX10_deal_1 : decode cX10_deal 1 = .ok (.iload_n 1, 1) := by decide +kernel
theorem dX10_deal_2 : decode cX10_deal 2 = .ok (.invokevirtual 230, 3) := by decide +kernel
theorem dX10_deal_5 : decode cX10_deal 5 = .ok (.ifCond .eq 13, 3) := by decide +kernel
theorem dX10_deal_8 : decode cX10_deal 8 = .ok (.iload_n 2, 1) := by decide +kernel
theorem dX10_deal_9 : decode cX10_deal 9 = .ok (.ifCond .lt 9, 3) := by decide +kernel
theorem dX10_deal_12 : decode cX10_deal 12 = .ok (.iload_n 2, 1) := by decide +kernel
theorem dX10_deal_13 : decode cX10_deal 13 = .ok (.bipush 8, 2) := by decide +kernel
theorem dX10_deal_15 : decode cX10_deal 15 = .ok (.if_icmp .le 5, 3) := by decide +kernel
theorem dX10_deal_18 : decode cX10_deal 18 = .ok (.iconst (-1), 1) := by decide +kernel
theorem dX10_deal_19 : decode cX10_deal 19 = .ok (.ireturn, 1) := by decide +kernel
theorem dX10_deal_20 : decode cX10_deal 20 = .ok (.aload_n 0, 1) := by decide +kernel
theorem dX10_deal_21 : decode cX10_deal 21 = .ok (.getfield 50, 3) := by decide +kernel
theorem dX10_deal_24 : decode cX10_deal 24 = .ok (.aload_n 0, 1) := by decide +kernel
theorem dX10_deal_25 : decode cX10_deal 25 = .ok (.getfield 71, 3) := by decide +kernel
theorem dX10_deal_28 : decode cX10_deal 28 = .ok (.aload_n 0, 1) := by decide +kernel
theorem dX10_deal_29 : decode cX10_deal 29 = .ok (.getfield 28, 3) := by decide +kernel
theorem dX10_deal_32 : decode cX10_deal 32 = .ok (.iload_n 1, 1) := by decide +kernel
theorem dX10_deal_33 : decode cX10_deal 33 = .ok (.iload_n 2, 1) := by decide +kernel
theorem dX10_deal_34 : decode cX10_deal 34 = .ok (.invokevirtual 262, 3) := by decide +kernel
theorem dX10_deal_37 : decode cX10_deal 37 = .ok (.ireturn, 1) := by decide +kernel
theorem dX10_fair_0 : decode cX10_fair 0 = .ok (.iconst (-1), 1) := by decide +kernel
theorem dX10_fair_1 : decode cX10_fair 1 = .ok (.istore_n 1, 1) := by decide +kernel
theorem dX10_fair_2 : decode cX10_fair 2 = .ok (.iconst 0, 1) := by decide +kernel
theorem dX10_fair_3 : decode cX10_fair 3 = .ok (.istore_n 2, 1) := by decide +kernel
theorem dX10_fair_4 : decode cX10_fair 4 = .ok (.iload_n 2, 1) := by decide +kernel
theorem dX10_fair_5 : decode cX10_fair 5 = .ok (.aload_n 0, 1) := by decide +kernel
theorem dX10_fair_6 : decode cX10_fair 6 = .ok (.getfield 71, 3) := by decide +kernel
theorem dX10_fair_9 : decode cX10_fair 9 = .ok (.getfield 120, 3) := by decide +kernel
theorem dX10_fair_12 : decode cX10_fair 12 = .ok (.if_icmp .ge 28, 3) := by decide +kernel
theorem dX10_fair_15 : decode cX10_fair 15 = .ok (.iload_n 1, 1) := by decide +kernel
theorem dX10_fair_16 : decode cX10_fair 16 = .ok (.iconst (-1), 1) := by decide +kernel
theorem dX10_fair_17 : decode cX10_fair 17 = .ok (.if_icmp .eq 15, 3) := by decide +kernel
theorem dX10_fair_20 : decode cX10_fair 20 = .ok (.aload_n 0, 1) := by decide +kernel
theorem dX10_fair_21 : decode cX10_fair 21 = .ok (.getfield 71, 3) := by decide +kernel
theorem dX10_fair_24 : decode cX10_fair 24 = .ok (.iload_n 2, 1) := by decide +kernel
theorem dX10_fair_25 : decode cX10_fair 25 = .ok (.iload_n 1, 1) := by decide +kernel
theorem dX10_fair_26 : decode cX10_fair 26 = .ok (.invokevirtual 265, 3) := by decide +kernel
theorem dX10_fair_29 : decode cX10_fair 29 = .ok (.ifCond .eq 5, 3) := by decide +kernel
theorem dX10_fair_32 : decode cX10_fair 32 = .ok (.iload_n 2, 1) := by decide +kernel
theorem dX10_fair_33 : decode cX10_fair 33 = .ok (.istore_n 1, 1) := by decide +kernel
theorem dX10_fair_34 : decode cX10_fair 34 = .ok (.iinc 2 1, 3) := by decide +kernel
theorem dX10_fair_37 : decode cX10_fair 37 = .ok (.goto (-33), 3) := by decide +kernel
theorem dX10_fair_40 : decode cX10_fair 40 = .ok (.iload_n 1, 1) := by decide +kernel
theorem dX10_fair_41 : decode cX10_fair 41 = .ok (.ireturn, 1) := by decide +kernel
theorem dX10_good_0 : decode cX10_good 0 = .ok (.iconst 0, 1) := by decide +kernel
theorem dX10_good_1 : decode cX10_good 1 = .ok (.istore_n 1, 1) := by decide +kernel
theorem dX10_good_2 : decode cX10_good 2 = .ok (.iconst 0, 1) := by decide +kernel
theorem dX10_good_3 : decode cX10_good 3 = .ok (.istore_n 2, 1) := by decide +kernel
theorem dX10_good_4 : decode cX10_good 4 = .ok (.iload_n 2, 1) := by decide +kernel
theorem dX10_good_5 : decode cX10_good 5 = .ok (.aload_n 0, 1) := by decide +kernel
theorem dX10_good_6 : decode cX10_good 6 = .ok (.getfield 71, 3) := by decide +kernel
theorem dX10_good_9 : decode cX10_good 9 = .ok (.getfield 120, 3) := by decide +kernel
theorem dX10_good_12 : decode cX10_good 12 = .ok (.if_icmp .ge 26, 3) := by decide +kernel
theorem dX10_good_15 : decode cX10_good 15 = .ok (.aload_n 0, 1) := by decide +kernel
theorem dX10_good_16 : decode cX10_good 16 = .ok (.getfield 71, 3) := by decide +kernel
theorem dX10_good_19 : decode cX10_good 19 = .ok (.iload_n 2, 1) := by decide +kernel
theorem dX10_good_20 : decode cX10_good 20 = .ok (.invokevirtual 268, 3) := by decide +kernel
theorem dX10_good_23 : decode cX10_good 23 = .ok (.ifCond .ne 9, 3) := by decide +kernel
theorem dX10_good_26 : decode cX10_good 26 = .ok (.iload_n 1, 1) := by decide +kernel
theorem dX10_good_27 : decode cX10_good 27 = .ok (.iconst 1, 1) := by decide +kernel
theorem dX10_good_28 : decode cX10_good 28 = .ok (.iload_n 2, 1) := by decide +kernel
theorem dX10_good_29 : decode cX10_good 29 = .ok (.ishl, 1) := by decide +kernel
theorem dX10_good_30 : decode cX10_good 30 = .ok (.ior, 1) := by decide +kernel
theorem dX10_good_31 : decode cX10_good 31 = .ok (.istore_n 1, 1) := by decide +kernel
theorem dX10_good_32 : decode cX10_good 32 = .ok (.iinc 2 1, 3) := by decide +kernel
theorem dX10_good_35 : decode cX10_good 35 = .ok (.goto (-31), 3) := by decide +kernel
theorem dX10_good_38 : decode cX10_good 38 = .ok (.iload_n 1, 1) := by decide +kernel
theorem dX10_good_39 : decode cX10_good 39 = .ok (.ireturn, 1) := by decide +kernel
theorem dX10_round_0 : decode cX10_round 0 = .ok (.aload_n 0, 1) := by decide +kernel
theorem dX10_round_1 : decode cX10_round 1 = .ok (.getfield 71, 3) := by decide +kernel
theorem dX10_round_4 : decode cX10_round 4 = .ok (.iload_n 1, 1) := by decide +kernel
theorem dX10_round_5 : decode cX10_round 5 = .ok (.invokevirtual 183, 3) := by decide +kernel
theorem dX10_round_8 : decode cX10_round 8 = .ok (.ifCond .ne 5, 3) := by decide +kernel
theorem dX10_round_11 : decode cX10_round 11 = .ok (.iconst (-1), 1) := by decide +kernel
theorem dX10_round_12 : decode cX10_round 12 = .ok (.ireturn, 1) := by decide +kernel
theorem dX10_round_13 : decode cX10_round 13 = .ok (.aload_n 0, 1) := by decide +kernel
theorem dX10_round_14 : decode cX10_round 14 = .ok (.getfield 71, 3) := by decide +kernel
theorem dX10_round_17 : decode cX10_round 17 = .ok (.invokevirtual 271, 3) := by decide +kernel
theorem dX10_round_20 : decode cX10_round 20 = .ok (.istore_n 2, 1) := by decide +kernel
theorem dX10_round_21 : decode cX10_round 21 = .ok (.iconst 1, 1) := by decide +kernel
theorem dX10_round_22 : decode cX10_round 22 = .ok (.iload_n 1, 1) := by decide +kernel
theorem dX10_round_23 : decode cX10_round 23 = .ok (.ishl, 1) := by decide +kernel
theorem dX10_round_24 : decode cX10_round 24 = .ok (.istore_n 3, 1) := by decide +kernel
theorem dX10_round_25 : decode cX10_round 25 = .ok (.iconst 1, 1) := by decide +kernel
theorem dX10_round_26 : decode cX10_round 26 = .ok (.istore 4, 2) := by decide +kernel
theorem dX10_round_28 : decode cX10_round 28 = .ok (.iload 4, 2) := by decide +kernel
theorem dX10_round_30 : decode cX10_round 30 = .ok (.bipush 8, 2) := by decide +kernel
theorem dX10_round_32 : decode cX10_round 32 = .ok (.if_icmp .gt 30, 3) := by decide +kernel
theorem dX10_round_35 : decode cX10_round 35 = .ok (.aload_n 0, 1) := by decide +kernel
theorem dX10_round_36 : decode cX10_round 36 = .ok (.getfield 71, 3) := by decide +kernel
theorem dX10_round_39 : decode cX10_round 39 = .ok (.iload_n 3, 1) := by decide +kernel
theorem dX10_round_40 : decode cX10_round 40 = .ok (.iload_n 2, 1) := by decide +kernel
theorem dX10_round_41 : decode cX10_round 41 = .ok (.invokevirtual 274, 3) := by decide +kernel
theorem dX10_round_44 : decode cX10_round 44 = .ok (.istore_n 3, 1) := by decide +kernel
theorem dX10_round_45 : decode cX10_round 45 = .ok (.iload_n 3, 1) := by decide +kernel
theorem dX10_round_46 : decode cX10_round 46 = .ok (.iload_n 1, 1) := by decide +kernel
theorem dX10_round_47 : decode cX10_round 47 = .ok (.ishr, 1) := by decide +kernel
theorem dX10_round_48 : decode cX10_round 48 = .ok (.iconst 1, 1) := by decide +kernel
theorem dX10_round_49 : decode cX10_round 49 = .ok (.iand, 1) := by decide +kernel
theorem dX10_round_50 : decode cX10_round 50 = .ok (.ifCond .eq 6, 3) := by decide +kernel
theorem dX10_round_53 : decode cX10_round 53 = .ok (.iload 4, 2) := by decide +kernel
theorem dX10_round_55 : decode cX10_round 55 = .ok (.ireturn, 1) := by decide +kernel
theorem dX10_round_56 : decode cX10_round 56 = .ok (.iinc 4 1, 3) := by decide +kernel
theorem dX10_round_59 : decode cX10_round 59 = .ok (.goto (-31), 3) := by decide +kernel
theorem dX10_round_62 : decode cX10_round 62 = .ok (.iconst (-1), 1) := by decide +kernel
theorem dX10_round_63 : decode cX10_round 63 = .ok (.ireturn, 1) := by decide +kernel
theorem dX10_near_0 : decode cX10_near 0 = .ok (.iload_n 1, 1) := by decide +kernel
theorem dX10_near_1 : decode cX10_near 1 = .ok (.ifCond .lt 9, 3) := by decide +kernel
theorem dX10_near_4 : decode cX10_near 4 = .ok (.iload_n 1, 1) := by decide +kernel
theorem dX10_near_5 : decode cX10_near 5 = .ok (.bipush 8, 2) := by decide +kernel
theorem dX10_near_7 : decode cX10_near 7 = .ok (.if_icmp .le 5, 3) := by decide +kernel
theorem dX10_near_10 : decode cX10_near 10 = .ok (.iconst (-1), 1) := by decide +kernel
theorem dX10_near_11 : decode cX10_near 11 = .ok (.ireturn, 1) := by decide +kernel
theorem dX10_near_12 : decode cX10_near 12 = .ok (.aload_n 0, 1) := by decide +kernel
theorem dX10_near_13 : decode cX10_near 13 = .ok (.getfield 71, 3) := by decide +kernel
theorem dX10_near_16 : decode cX10_near 16 = .ok (.invokevirtual 271, 3) := by decide +kernel
theorem dX10_near_19 : decode cX10_near 19 = .ok (.istore_n 2, 1) := by decide +kernel
theorem dX10_near_20 : decode cX10_near 20 = .ok (.aload_n 0, 1) := by decide +kernel
theorem dX10_near_21 : decode cX10_near 21 = .ok (.getfield 28, 3) := by decide +kernel
theorem dX10_near_24 : decode cX10_near 24 = .ok (.invokevirtual 277, 3) := by decide +kernel
theorem dX10_near_27 : decode cX10_near 27 = .ok (.istore_n 3, 1) := by decide +kernel
theorem dX10_near_28 : decode cX10_near 28 = .ok (.iconst 0, 1) := by decide +kernel
theorem dX10_near_29 : decode cX10_near 29 = .ok (.istore 4, 2) := by decide +kernel
theorem dX10_near_31 : decode cX10_near 31 = .ok (.iload 4, 2) := by decide +kernel
theorem dX10_near_33 : decode cX10_near 33 = .ok (.iload_n 1, 1) := by decide +kernel
theorem dX10_near_34 : decode cX10_near 34 = .ok (.if_icmp .ge 19, 3) := by decide +kernel
theorem dX10_near_37 : decode cX10_near 37 = .ok (.aload_n 0, 1) := by decide +kernel
theorem dX10_near_38 : decode cX10_near 38 = .ok (.getfield 71, 3) := by decide +kernel
theorem dX10_near_41 : decode cX10_near 41 = .ok (.iload_n 3, 1) := by decide +kernel
theorem dX10_near_42 : decode cX10_near 42 = .ok (.iload_n 2, 1) := by decide +kernel
theorem dX10_near_43 : decode cX10_near 43 = .ok (.invokevirtual 274, 3) := by decide +kernel
theorem dX10_near_46 : decode cX10_near 46 = .ok (.istore_n 3, 1) := by decide +kernel
theorem dX10_near_47 : decode cX10_near 47 = .ok (.iinc 4 1, 3) := by decide +kernel
theorem dX10_near_50 : decode cX10_near 50 = .ok (.goto (-19), 3) := by decide +kernel
theorem dX10_near_53 : decode cX10_near 53 = .ok (.iload_n 3, 1) := by decide +kernel
theorem dX10_near_54 : decode cX10_near 54 = .ok (.ireturn, 1) := by decide +kernel
theorem dX10_both_0 : decode cX10_both 0 = .ok (.aload_n 0, 1) := by decide +kernel
theorem dX10_both_1 : decode cX10_both 1 = .ok (.getfield 71, 3) := by decide +kernel
theorem dX10_both_4 : decode cX10_both 4 = .ok (.iload_n 1, 1) := by decide +kernel
theorem dX10_both_5 : decode cX10_both 5 = .ok (.invokevirtual 130, 3) := by decide +kernel
theorem dX10_both_8 : decode cX10_both 8 = .ok (.ifCond .eq 14, 3) := by decide +kernel
theorem dX10_both_11 : decode cX10_both 11 = .ok (.aload_n 0, 1) := by decide +kernel
theorem dX10_both_12 : decode cX10_both 12 = .ok (.getfield 71, 3) := by decide +kernel
theorem dX10_both_15 : decode cX10_both 15 = .ok (.iload_n 2, 1) := by decide +kernel
theorem dX10_both_16 : decode cX10_both 16 = .ok (.invokevirtual 130, 3) := by decide +kernel
theorem dX10_both_19 : decode cX10_both 19 = .ok (.ifCond .ne 5, 3) := by decide +kernel
theorem dX10_both_22 : decode cX10_both 22 = .ok (.iconst (-1), 1) := by decide +kernel
theorem dX10_both_23 : decode cX10_both 23 = .ok (.ireturn, 1) := by decide +kernel
theorem dX10_both_24 : decode cX10_both 24 = .ok (.aload_n 0, 1) := by decide +kernel
theorem dX10_both_25 : decode cX10_both 25 = .ok (.getfield 71, 3) := by decide +kernel
theorem dX10_both_28 : decode cX10_both 28 = .ok (.getfield 149, 3) := by decide +kernel
theorem dX10_both_31 : decode cX10_both 31 = .ok (.iload_n 1, 1) := by decide +kernel
theorem dX10_both_32 : decode cX10_both 32 = .ok (.iaload, 1) := by decide +kernel
theorem dX10_both_33 : decode cX10_both 33 = .ok (.aload_n 0, 1) := by decide +kernel
theorem dX10_both_34 : decode cX10_both 34 = .ok (.getfield 71, 3) := by decide +kernel
theorem dX10_both_37 : decode cX10_both 37 = .ok (.getfield 149, 3) := by decide +kernel
theorem dX10_both_40 : decode cX10_both 40 = .ok (.iload_n 2, 1) := by decide +kernel
theorem dX10_both_41 : decode cX10_both 41 = .ok (.iaload, 1) := by decide +kernel
theorem dX10_both_42 : decode cX10_both 42 = .ok (.iand, 1) := by decide +kernel
theorem dX10_both_43 : decode cX10_both 43 = .ok (.ireturn, 1) := by decide +kernel
theorem dX10_clumsy_0 : decode cX10_clumsy 0 = .ok (.aload_n 0, 1) := by decide +kernel
theorem dX10_clumsy_1 : decode cX10_clumsy 1 = .ok (.getfield 71, 3) := by decide +kernel
theorem dX10_clumsy_4 : decode cX10_clumsy 4 = .ok (.iload_n 1, 1) := by decide +kernel
theorem dX10_clumsy_5 : decode cX10_clumsy 5 = .ok (.invokevirtual 162, 3) := by decide +kernel
theorem dX10_clumsy_8 : decode cX10_clumsy 8 = .ok (.ifCond .ne 5, 3) := by decide +kernel
theorem dX10_clumsy_11 : decode cX10_clumsy 11 = .ok (.iconst (-1), 1) := by decide +kernel
theorem dX10_clumsy_12 : decode cX10_clumsy 12 = .ok (.ireturn, 1) := by decide +kernel
theorem dX10_clumsy_13 : decode cX10_clumsy 13 = .ok (.iconst (-1), 1) := by decide +kernel
theorem dX10_clumsy_14 : decode cX10_clumsy 14 = .ok (.istore_n 2, 1) := by decide +kernel
theorem dX10_clumsy_15 : decode cX10_clumsy 15 = .ok (.iconst (-1), 1) := by decide +kernel
theorem dX10_clumsy_16 : decode cX10_clumsy 16 = .ok (.istore_n 3, 1) := by decide +kernel
theorem dX10_clumsy_17 : decode cX10_clumsy 17 = .ok (.iconst 0, 1) := by decide +kernel
theorem dX10_clumsy_18 : decode cX10_clumsy 18 = .ok (.istore 4, 2) := by decide +kernel
theorem dX10_clumsy_20 : decode cX10_clumsy 20 = .ok (.iload 4, 2) := by decide +kernel
theorem dX10_clumsy_22 : decode cX10_clumsy 22 = .ok (.aload_n 0, 1) := by decide +kernel
theorem dX10_clumsy_23 : decode cX10_clumsy 23 = .ok (.getfield 71, 3) := by decide +kernel
theorem dX10_clumsy_26 : decode cX10_clumsy 26 = .ok (.getfield 247, 3) := by decide +kernel
theorem dX10_clumsy_29 : decode cX10_clumsy 29 = .ok (.if_icmp .ge 54, 3) := by decide +kernel
theorem dX10_clumsy_32 : decode cX10_clumsy 32 = .ok (.aload_n 0, 1) := by decide +kernel
theorem dX10_clumsy_33 : decode cX10_clumsy 33 = .ok (.getfield 71, 3) := by decide +kernel
theorem dX10_clumsy_36 : decode cX10_clumsy 36 = .ok (.iload 4, 2) := by decide +kernel
theorem dX10_clumsy_38 : decode cX10_clumsy 38 = .ok (.iload_n 1, 1) := by decide +kernel
theorem dX10_clumsy_39 : decode cX10_clumsy 39 = .ok (.invokevirtual 205, 3) := by decide +kernel
theorem dX10_clumsy_42 : decode cX10_clumsy 42 = .ok (.ifCond .eq 20, 3) := by decide +kernel
theorem dX10_clumsy_45 : decode cX10_clumsy 45 = .ok (.aload_n 0, 1) := by decide +kernel
theorem dX10_clumsy_46 : decode cX10_clumsy 46 = .ok (.getfield 71, 3) := by decide +kernel
theorem dX10_clumsy_49 : decode cX10_clumsy 49 = .ok (.iload 4, 2) := by decide +kernel
theorem dX10_clumsy_51 : decode cX10_clumsy 51 = .ok (.iload_n 1, 1) := by decide +kernel
theorem dX10_clumsy_52 : decode cX10_clumsy 52 = .ok (.aload_n 0, 1) := by decide +kernel
theorem dX10_clumsy_53 : decode cX10_clumsy 53 = .ok (.getfield 28, 3) := by decide +kernel
theorem dX10_clumsy_56 : decode cX10_clumsy 56 = .ok (.invokevirtual 190, 3) := by decide +kernel
theorem dX10_clumsy_59 : decode cX10_clumsy 59 = .ok (.goto 4, 3) := by decide +kernel
theorem dX10_clumsy_62 : decode cX10_clumsy 62 = .ok (.iconst (-1), 1) := by decide +kernel
theorem dX10_clumsy_63 : decode cX10_clumsy 63 = .ok (.istore 5, 2) := by decide +kernel
theorem dX10_clumsy_65 : decode cX10_clumsy 65 = .ok (.iload 5, 2) := by decide +kernel
theorem dX10_clumsy_67 : decode cX10_clumsy 67 = .ok (.iload_n 3, 1) := by decide +kernel
theorem dX10_clumsy_68 : decode cX10_clumsy 68 = .ok (.if_icmp .le 9, 3) := by decide +kernel
theorem dX10_clumsy_71 : decode cX10_clumsy 71 = .ok (.iload 5, 2) := by decide +kernel
theorem dX10_clumsy_73 : decode cX10_clumsy 73 = .ok (.istore_n 3, 1) := by decide +kernel
theorem dX10_clumsy_74 : decode cX10_clumsy 74 = .ok (.iload 4, 2) := by decide +kernel
theorem dX10_clumsy_76 : decode cX10_clumsy 76 = .ok (.istore_n 2, 1) := by decide +kernel
theorem dX10_clumsy_77 : decode cX10_clumsy 77 = .ok (.iinc 4 1, 3) := by decide +kernel
theorem dX10_clumsy_80 : decode cX10_clumsy 80 = .ok (.goto (-60), 3) := by decide +kernel
theorem dX10_clumsy_83 : decode cX10_clumsy 83 = .ok (.iload_n 2, 1) := by decide +kernel
theorem dX10_clumsy_84 : decode cX10_clumsy 84 = .ok (.ireturn, 1) := by decide +kernel
theorem dX10_idle_0 : decode cX10_idle 0 = .ok (.aload_n 0, 1) := by decide +kernel
theorem dX10_idle_1 : decode cX10_idle 1 = .ok (.getfield 71, 3) := by decide +kernel
theorem dX10_idle_4 : decode cX10_idle 4 = .ok (.aload_n 0, 1) := by decide +kernel
theorem dX10_idle_5 : decode cX10_idle 5 = .ok (.getfield 28, 3) := by decide +kernel
theorem dX10_idle_8 : decode cX10_idle 8 = .ok (.getfield 155, 3) := by decide +kernel
theorem dX10_idle_11 : decode cX10_idle 11 = .ok (.invokevirtual 158, 3) := by decide +kernel
theorem dX10_idle_14 : decode cX10_idle 14 = .ok (.istore_n 1, 1) := by decide +kernel
theorem dX10_idle_15 : decode cX10_idle 15 = .ok (.iconst 0, 1) := by decide +kernel
theorem dX10_idle_16 : decode cX10_idle 16 = .ok (.istore_n 2, 1) := by decide +kernel
theorem dX10_idle_17 : decode cX10_idle 17 = .ok (.iconst 0, 1) := by decide +kernel
theorem dX10_idle_18 : decode cX10_idle 18 = .ok (.istore_n 3, 1) := by decide +kernel
theorem dX10_idle_19 : decode cX10_idle 19 = .ok (.iload_n 3, 1) := by decide +kernel
theorem dX10_idle_20 : decode cX10_idle 20 = .ok (.aload_n 0, 1) := by decide +kernel
theorem dX10_idle_21 : decode cX10_idle 21 = .ok (.getfield 71, 3) := by decide +kernel
theorem dX10_idle_24 : decode cX10_idle 24 = .ok (.getfield 247, 3) := by decide +kernel
theorem dX10_idle_27 : decode cX10_idle 27 = .ok (.if_icmp .ge 40, 3) := by decide +kernel
theorem dX10_idle_30 : decode cX10_idle 30 = .ok (.iload_n 3, 1) := by decide +kernel
theorem dX10_idle_31 : decode cX10_idle 31 = .ok (.aload_n 0, 1) := by decide +kernel
theorem dX10_idle_32 : decode cX10_idle 32 = .ok (.getfield 28, 3) := by decide +kernel
theorem dX10_idle_35 : decode cX10_idle 35 = .ok (.getfield 152, 3) := by decide +kernel
theorem dX10_idle_38 : decode cX10_idle 38 = .ok (.if_icmp .eq 23, 3) := by decide +kernel
theorem dX10_idle_41 : decode cX10_idle 41 = .ok (.aload_n 0, 1) := by decide +kernel
theorem dX10_idle_42 : decode cX10_idle 42 = .ok (.getfield 71, 3) := by decide +kernel
theorem dX10_idle_45 : decode cX10_idle 45 = .ok (.getfield 149, 3) := by decide +kernel
theorem dX10_idle_48 : decode cX10_idle 48 = .ok (.iload_n 3, 1) := by decide +kernel
theorem dX10_idle_49 : decode cX10_idle 49 = .ok (.iaload, 1) := by decide +kernel
theorem dX10_idle_50 : decode cX10_idle 50 = .ok (.iload_n 1, 1) := by decide +kernel
theorem dX10_idle_51 : decode cX10_idle 51 = .ok (.iand, 1) := by decide +kernel
theorem dX10_idle_52 : decode cX10_idle 52 = .ok (.ifCond .ne 9, 3) := by decide +kernel
theorem dX10_idle_55 : decode cX10_idle 55 = .ok (.iload_n 2, 1) := by decide +kernel
theorem dX10_idle_56 : decode cX10_idle 56 = .ok (.iconst 1, 1) := by decide +kernel
theorem dX10_idle_57 : decode cX10_idle 57 = .ok (.iload_n 3, 1) := by decide +kernel
theorem dX10_idle_58 : decode cX10_idle 58 = .ok (.ishl, 1) := by decide +kernel
theorem dX10_idle_59 : decode cX10_idle 59 = .ok (.ior, 1) := by decide +kernel
theorem dX10_idle_60 : decode cX10_idle 60 = .ok (.istore_n 2, 1) := by decide +kernel
theorem dX10_idle_61 : decode cX10_idle 61 = .ok (.iinc 3 1, 3) := by decide +kernel
theorem dX10_idle_64 : decode cX10_idle 64 = .ok (.goto (-45), 3) := by decide +kernel
theorem dX10_idle_67 : decode cX10_idle 67 = .ok (.iload_n 2, 1) := by decide +kernel
theorem dX10_idle_68 : decode cX10_idle 68 = .ok (.ireturn, 1) := by decide +kernel
theorem dX10_ends_0 : decode cX10_ends 0 = .ok (.aload_n 0, 1) := by decide +kernel
theorem dX10_ends_1 : decode cX10_ends 1 = .ok (.getfield 71, 3) := by decide +kernel
theorem dX10_ends_4 : decode cX10_ends 4 = .ok (.invokevirtual 271, 3) := by decide +kernel
theorem dX10_ends_7 : decode cX10_ends 7 = .ok (.istore_n 1, 1) := by decide +kernel
theorem dX10_ends_8 : decode cX10_ends 8 = .ok (.iconst 0, 1) := by decide +kernel
theorem dX10_ends_9 : decode cX10_ends 9 = .ok (.istore_n 2, 1) := by decide +kernel
theorem dX10_ends_10 : decode cX10_ends 10 = .ok (.iconst 0, 1) := by decide +kernel
theorem dX10_ends_11 : decode cX10_ends 11 = .ok (.istore_n 3, 1) := by decide +kernel
theorem dX10_ends_12 : decode cX10_ends 12 = .ok (.iload_n 3, 1) := by decide +kernel
theorem dX10_ends_13 : decode cX10_ends 13 = .ok (.aload_n 0, 1) := by decide +kernel
theorem dX10_ends_14 : decode cX10_ends 14 = .ok (.getfield 71, 3) := by decide +kernel
theorem dX10_ends_17 : decode cX10_ends 17 = .ok (.getfield 120, 3) := by decide +kernel
theorem dX10_ends_20 : decode cX10_ends 20 = .ok (.if_icmp .ge 28, 3) := by decide +kernel
theorem dX10_ends_23 : decode cX10_ends 23 = .ok (.iload_n 1, 1) := by decide +kernel
theorem dX10_ends_24 : decode cX10_ends 24 = .ok (.aload_n 0, 1) := by decide +kernel
theorem dX10_ends_25 : decode cX10_ends 25 = .ok (.getfield 71, 3) := by decide +kernel
theorem dX10_ends_28 : decode cX10_ends 28 = .ok (.iload_n 3, 1) := by decide +kernel
theorem dX10_ends_29 : decode cX10_ends 29 = .ok (.invokevirtual 158, 3) := by decide +kernel
theorem dX10_ends_32 : decode cX10_ends 32 = .ok (.iand, 1) := by decide +kernel
theorem dX10_ends_33 : decode cX10_ends 33 = .ok (.ifCond .ne 9, 3) := by decide +kernel
theorem dX10_ends_36 : decode cX10_ends 36 = .ok (.iload_n 2, 1) := by decide +kernel
theorem dX10_ends_37 : decode cX10_ends 37 = .ok (.iconst 1, 1) := by decide +kernel
theorem dX10_ends_38 : decode cX10_ends 38 = .ok (.iload_n 3, 1) := by decide +kernel
theorem dX10_ends_39 : decode cX10_ends 39 = .ok (.ishl, 1) := by decide +kernel
theorem dX10_ends_40 : decode cX10_ends 40 = .ok (.ior, 1) := by decide +kernel
theorem dX10_ends_41 : decode cX10_ends 41 = .ok (.istore_n 2, 1) := by decide +kernel
theorem dX10_ends_42 : decode cX10_ends 42 = .ok (.iinc 3 1, 3) := by decide +kernel
theorem dX10_ends_45 : decode cX10_ends 45 = .ok (.goto (-33), 3) := by decide +kernel
theorem dX10_ends_48 : decode cX10_ends 48 = .ok (.iload_n 2, 1) := by decide +kernel
theorem dX10_ends_49 : decode cX10_ends 49 = .ok (.ireturn, 1) := by decide +kernel
theorem dX10_sources_0 : decode cX10_sources 0 = .ok (.iconst 1, 1) := by decide +kernel
theorem dX10_sources_1 : decode cX10_sources 1 = .ok (.aload_n 0, 1) := by decide +kernel
theorem dX10_sources_2 : decode cX10_sources 2 = .ok (.getfield 71, 3) := by decide +kernel
theorem dX10_sources_5 : decode cX10_sources 5 = .ok (.getfield 120, 3) := by decide +kernel
theorem dX10_sources_8 : decode cX10_sources 8 = .ok (.ishl, 1) := by decide +kernel
theorem dX10_sources_9 : decode cX10_sources 9 = .ok (.iconst 1, 1) := by decide +kernel
theorem dX10_sources_10 : decode cX10_sources 10 = .ok (.isub, 1) := by decide +kernel
theorem dX10_sources_11 : decode cX10_sources 11 = .ok (.istore_n 1, 1) := by decide +kernel
theorem dX10_sources_12 : decode cX10_sources 12 = .ok (.iconst 0, 1) := by decide +kernel
theorem dX10_sources_13 : decode cX10_sources 13 = .ok (.istore_n 2, 1) := by decide +kernel
theorem dX10_sources_14 : decode cX10_sources 14 = .ok (.iload_n 2, 1) := by decide +kernel
theorem dX10_sources_15 : decode cX10_sources 15 = .ok (.aload_n 0, 1) := by decide +kernel
theorem dX10_sources_16 : decode cX10_sources 16 = .ok (.getfield 71, 3) := by decide +kernel
theorem dX10_sources_19 : decode cX10_sources 19 = .ok (.getfield 280, 3) := by decide +kernel
theorem dX10_sources_22 : decode cX10_sources 22 = .ok (.if_icmp .ge 22, 3) := by decide +kernel
theorem dX10_sources_25 : decode cX10_sources 25 = .ok (.iload_n 1, 1) := by decide +kernel
theorem dX10_sources_26 : decode cX10_sources 26 = .ok (.aload_n 0, 1) := by decide +kernel
theorem dX10_sources_27 : decode cX10_sources 27 = .ok (.getfield 71, 3) := by decide +kernel
theorem dX10_sources_30 : decode cX10_sources 30 = .ok (.iload_n 2, 1) := by decide +kernel
theorem dX10_sources_31 : decode cX10_sources 31 = .ok (.invokevirtual 283, 3) := by decide +kernel
theorem dX10_sources_34 : decode cX10_sources 34 = .ok (.iconst (-1), 1) := by decide +kernel
theorem dX10_sources_35 : decode cX10_sources 35 = .ok (.ixor, 1) := by decide +kernel
theorem dX10_sources_36 : decode cX10_sources 36 = .ok (.iand, 1) := by decide +kernel
theorem dX10_sources_37 : decode cX10_sources 37 = .ok (.istore_n 1, 1) := by decide +kernel
theorem dX10_sources_38 : decode cX10_sources 38 = .ok (.iinc 2 1, 3) := by decide +kernel
theorem dX10_sources_41 : decode cX10_sources 41 = .ok (.goto (-27), 3) := by decide +kernel
theorem dX10_sources_44 : decode cX10_sources 44 = .ok (.iload_n 1, 1) := by decide +kernel
theorem dX10_sources_45 : decode cX10_sources 45 = .ok (.ireturn, 1) := by decide +kernel
theorem dX10_will_0 : decode cX10_will 0 = .ok (.aload_n 0, 1) := by decide +kernel
theorem dX10_will_1 : decode cX10_will 1 = .ok (.getfield 71, 3) := by decide +kernel
theorem dX10_will_4 : decode cX10_will 4 = .ok (.iload_n 1, 1) := by decide +kernel
theorem dX10_will_5 : decode cX10_will 5 = .ok (.invokevirtual 130, 3) := by decide +kernel
theorem dX10_will_8 : decode cX10_will 8 = .ok (.ifCond .eq 13, 3) := by decide +kernel
theorem dX10_will_11 : decode cX10_will 11 = .ok (.iload_n 2, 1) := by decide +kernel
theorem dX10_will_12 : decode cX10_will 12 = .ok (.ifCond .lt 9, 3) := by decide +kernel
theorem dX10_will_15 : decode cX10_will 15 = .ok (.iload_n 2, 1) := by decide +kernel
theorem dX10_will_16 : decode cX10_will 16 = .ok (.bipush 60, 2) := by decide +kernel
theorem dX10_will_18 : decode cX10_will 18 = .ok (.if_icmp .le 5, 3) := by decide +kernel
theorem dX10_will_21 : decode cX10_will 21 = .ok (.iconst (-1), 1) := by decide +kernel
theorem dX10_will_22 : decode cX10_will 22 = .ok (.ireturn, 1) := by decide +kernel
theorem dX10_will_23 : decode cX10_will 23 = .ok (.aload_n 0, 1) := by decide +kernel
theorem dX10_will_24 : decode cX10_will 24 = .ok (.getfield 28, 3) := by decide +kernel
theorem dX10_will_27 : decode cX10_will 27 = .ok (.aload_n 0, 1) := by decide +kernel
theorem dX10_will_28 : decode cX10_will 28 = .ok (.getfield 71, 3) := by decide +kernel
theorem dX10_will_31 : decode cX10_will 31 = .ok (.iload_n 1, 1) := by decide +kernel
theorem dX10_will_32 : decode cX10_will 32 = .ok (.iload_n 2, 1) := by decide +kernel
theorem dX10_will_33 : decode cX10_will 33 = .ok (.invokevirtual 286, 3) := by decide +kernel
theorem dX10_will_36 : decode cX10_will 36 = .ok (.ireturn, 1) := by decide +kernel
theorem dX10_mirror_0 : decode cX10_mirror 0 = .ok (.aload_n 0, 1) := by decide +kernel
theorem dX10_mirror_1 : decode cX10_mirror 1 = .ok (.getfield 71, 3) := by decide +kernel
theorem dX10_mirror_4 : decode cX10_mirror 4 = .ok (.iload_n 1, 1) := by decide +kernel
theorem dX10_mirror_5 : decode cX10_mirror 5 = .ok (.invokevirtual 130, 3) := by decide +kernel
theorem dX10_mirror_8 : decode cX10_mirror 8 = .ok (.ifCond .ne 6, 3) := by decide +kernel
theorem dX10_mirror_11 : decode cX10_mirror 11 = .ok (.bipush (-100), 2) := by decide +kernel
theorem dX10_mirror_13 : decode cX10_mirror 13 = .ok (.ireturn, 1) := by decide +kernel
theorem dX10_mirror_14 : decode cX10_mirror 14 = .ok (.aload_n 0, 1) := by decide +kernel
theorem dX10_mirror_15 : decode cX10_mirror 15 = .ok (.getfield 71, 3) := by decide +kernel
theorem dX10_mirror_18 : decode cX10_mirror 18 = .ok (.getfield 140, 3) := by decide +kernel
theorem dX10_mirror_21 : decode cX10_mirror 21 = .ok (.iload_n 1, 1) := by decide +kernel
theorem dX10_mirror_22 : decode cX10_mirror 22 = .ok (.ishr, 1) := by decide +kernel
theorem dX10_mirror_23 : decode cX10_mirror 23 = .ok (.iconst 1, 1) := by decide +kernel
theorem dX10_mirror_24 : decode cX10_mirror 24 = .ok (.iand, 1) := by decide +kernel
theorem dX10_mirror_25 : decode cX10_mirror 25 = .ok (.ifCond .eq 7, 3) := by decide +kernel
theorem dX10_mirror_28 : decode cX10_mirror 28 = .ok (.iconst 1, 1) := by decide +kernel
theorem dX10_mirror_29 : decode cX10_mirror 29 = .ok (.goto 4, 3) := by decide +kernel
theorem dX10_mirror_32 : decode cX10_mirror 32 = .ok (.iconst 0, 1) := by decide +kernel
theorem dX10_mirror_33 : decode cX10_mirror 33 = .ok (.istore_n 2, 1) := by decide +kernel
theorem dX10_mirror_34 : decode cX10_mirror 34 = .ok (.aload_n 0, 1) := by decide +kernel
theorem dX10_mirror_35 : decode cX10_mirror 35 = .ok (.getfield 71, 3) := by decide +kernel
theorem dX10_mirror_38 : decode cX10_mirror 38 = .ok (.iload_n 1, 1) := by decide +kernel
theorem dX10_mirror_39 : decode cX10_mirror 39 = .ok (.iload_n 2, 1) := by decide +kernel
theorem dX10_mirror_40 : decode cX10_mirror 40 = .ok (.ifCond .ne 7, 3) := by decide +kernel
theorem dX10_mirror_43 : decode cX10_mirror 43 = .ok (.iconst 1, 1) := by decide +kernel
theorem dX10_mirror_44 : decode cX10_mirror 44 = .ok (.goto 4, 3) := by decide +kernel
theorem dX10_mirror_47 : decode cX10_mirror 47 = .ok (.iconst 0, 1) := by decide +kernel
theorem dX10_mirror_48 : decode cX10_mirror 48 = .ok (.invokevirtual 290, 3) := by decide +kernel
theorem dX10_mirror_51 : decode cX10_mirror 51 = .ok (.invokestatic 257, 3) := by decide +kernel
theorem dX10_mirror_54 : decode cX10_mirror 54 = .ok (.aload_n 0, 1) := by decide +kernel
theorem dX10_mirror_55 : decode cX10_mirror 55 = .ok (.getfield 71, 3) := by decide +kernel
theorem dX10_mirror_58 : decode cX10_mirror 58 = .ok (.getfield 149, 3) := by decide +kernel
theorem dX10_mirror_61 : decode cX10_mirror 61 = .ok (.iload_n 1, 1) := by decide +kernel
theorem dX10_mirror_62 : decode cX10_mirror 62 = .ok (.iaload, 1) := by decide +kernel
theorem dX10_mirror_63 : decode cX10_mirror 63 = .ok (.invokestatic 257, 3) := by decide +kernel
theorem dX10_mirror_66 : decode cX10_mirror 66 = .ok (.isub, 1) := by decide +kernel
theorem dX10_mirror_67 : decode cX10_mirror 67 = .ok (.ireturn, 1) := by decide +kernel
theorem dX10_lies_0 : decode cX10_lies 0 = .ok (.aload_n 0, 1) := by decide +kernel
theorem dX10_lies_1 : decode cX10_lies 1 = .ok (.getfield 50, 3) := by decide +kernel
theorem dX10_lies_4 : decode cX10_lies 4 = .ok (.iload_n 1, 1) := by decide +kernel
theorem dX10_lies_5 : decode cX10_lies 5 = .ok (.invokevirtual 294, 3) := by decide +kernel
theorem dX10_lies_8 : decode cX10_lies 8 = .ok (.ireturn, 1) := by decide +kernel
theorem dX10_seen_0 : decode cX10_seen 0 = .ok (.iload_n 1, 1) := by decide +kernel
theorem dX10_seen_1 : decode cX10_seen 1 = .ok (.invokestatic 297, 3) := by decide +kernel
theorem dX10_seen_4 : decode cX10_seen 4 = .ok (.ifCond .eq 14, 3) := by decide +kernel
theorem dX10_seen_7 : decode cX10_seen 7 = .ok (.aload_n 0, 1) := by decide +kernel
theorem dX10_seen_8 : decode cX10_seen 8 = .ok (.getfield 71, 3) := by decide +kernel
theorem dX10_seen_11 : decode cX10_seen 11 = .ok (.iload_n 2, 1) := by decide +kernel
theorem dX10_seen_12 : decode cX10_seen 12 = .ok (.invokevirtual 183, 3) := by decide +kernel
theorem dX10_seen_15 : decode cX10_seen 15 = .ok (.ifCond .ne 5, 3) := by decide +kernel
theorem dX10_seen_18 : decode cX10_seen 18 = .ok (.iconst (-1), 1) := by decide +kernel
theorem dX10_seen_19 : decode cX10_seen 19 = .ok (.ireturn, 1) := by decide +kernel
theorem dX10_seen_20 : decode cX10_seen 20 = .ok (.aload_n 0, 1) := by decide +kernel
theorem dX10_seen_21 : decode cX10_seen 21 = .ok (.getfield 64, 3) := by decide +kernel
theorem dX10_seen_24 : decode cX10_seen 24 = .ok (.iconst 0, 1) := by decide +kernel
theorem dX10_seen_25 : decode cX10_seen 25 = .ok (.iload_n 1, 1) := by decide +kernel
theorem dX10_seen_26 : decode cX10_seen 26 = .ok (.iload_n 2, 1) := by decide +kernel
theorem dX10_seen_27 : decode cX10_seen 27 = .ok (.iload_n 3, 1) := by decide +kernel
theorem dX10_seen_28 : decode cX10_seen 28 = .ok (.invokevirtual 300, 3) := by decide +kernel
theorem dX10_seen_31 : decode cX10_seen 31 = .ok (.ireturn, 1) := by decide +kernel
theorem dX10_felt_0 : decode cX10_felt 0 = .ok (.iload_n 1, 1) := by decide +kernel
theorem dX10_felt_1 : decode cX10_felt 1 = .ok (.iconst 1, 1) := by decide +kernel
theorem dX10_felt_2 : decode cX10_felt 2 = .ok (.if_icmp .lt 20, 3) := by decide +kernel
theorem dX10_felt_5 : decode cX10_felt 5 = .ok (.iload_n 1, 1) := by decide +kernel
theorem dX10_felt_6 : decode cX10_felt 6 = .ok (.invokestatic 297, 3) := by decide +kernel
theorem dX10_felt_9 : decode cX10_felt 9 = .ok (.ifCond .eq 13, 3) := by decide +kernel
theorem dX10_felt_12 : decode cX10_felt 12 = .ok (.iload_n 2, 1) := by decide +kernel
theorem dX10_felt_13 : decode cX10_felt 13 = .ok (.ifCond .lt 9, 3) := by decide +kernel
theorem dX10_felt_16 : decode cX10_felt 16 = .ok (.iload_n 2, 1) := by decide +kernel
theorem dX10_felt_17 : decode cX10_felt 17 = .ok (.bipush 10, 2) := by decide +kernel
theorem dX10_felt_19 : decode cX10_felt 19 = .ok (.if_icmp .lt 5, 3) := by decide +kernel
theorem dX10_felt_22 : decode cX10_felt 22 = .ok (.iconst (-1), 1) := by decide +kernel
theorem dX10_felt_23 : decode cX10_felt 23 = .ok (.ireturn, 1) := by decide +kernel
theorem dX10_felt_24 : decode cX10_felt 24 = .ok (.aload_n 0, 1) := by decide +kernel
theorem dX10_felt_25 : decode cX10_felt 25 = .ok (.getfield 64, 3) := by decide +kernel
theorem dX10_felt_28 : decode cX10_felt 28 = .ok (.iconst 1, 1) := by decide +kernel
theorem dX10_felt_29 : decode cX10_felt 29 = .ok (.iload_n 1, 1) := by decide +kernel
theorem dX10_felt_30 : decode cX10_felt 30 = .ok (.iload_n 2, 1) := by decide +kernel
theorem dX10_felt_31 : decode cX10_felt 31 = .ok (.iload_n 3, 1) := by decide +kernel
theorem dX10_felt_32 : decode cX10_felt 32 = .ok (.invokevirtual 300, 3) := by decide +kernel
theorem dX10_felt_35 : decode cX10_felt 35 = .ok (.ireturn, 1) := by decide +kernel
theorem dX10_untell_0 : decode cX10_untell 0 = .ok (.aload_n 0, 1) := by decide +kernel
theorem dX10_untell_1 : decode cX10_untell 1 = .ok (.getfield 64, 3) := by decide +kernel
theorem dX10_untell_4 : decode cX10_untell 4 = .ok (.iload_n 1, 1) := by decide +kernel
theorem dX10_untell_5 : decode cX10_untell 5 = .ok (.invokevirtual 304, 3) := by decide +kernel
theorem dX10_untell_8 : decode cX10_untell 8 = .ok (.ireturn, 1) := by decide +kernel
theorem dX10_later_0 : decode cX10_later 0 = .ok (.aload_n 0, 1) := by decide +kernel
theorem dX10_later_1 : decode cX10_later 1 = .ok (.getfield 64, 3) := by decide +kernel
theorem dX10_later_4 : decode cX10_later 4 = .ok (.iload_n 1, 1) := by decide +kernel
theorem dX10_later_5 : decode cX10_later 5 = .ok (.invokevirtual 307, 3) := by decide +kernel
theorem dX10_later_8 : decode cX10_later 8 = .ok (.ifCond .eq 13, 3) := by decide +kernel
theorem dX10_later_11 : decode cX10_later 11 = .ok (.aload_n 0, 1) := by decide +kernel
theorem dX10_later_12 : decode cX10_later 12 = .ok (.getfield 64, 3) := by decide +kernel
theorem dX10_later_15 : decode cX10_later 15 = .ok (.getfield 310, 3) := by decide +kernel
theorem dX10_later_18 : decode cX10_later 18 = .ok (.goto 4, 3) := by decide +kernel
theorem dX10_later_21 : decode cX10_later 21 = .ok (.iconst (-1), 1) := by decide +kernel
theorem dX10_later_22 : decode cX10_later 22 = .ok (.ireturn, 1) := by decide +kernel
theorem dX10_rows_0 : decode cX10_rows 0 = .ok (.aload_n 0, 1) := by decide +kernel
theorem dX10_rows_1 : decode cX10_rows 1 = .ok (.getfield 64, 3) := by decide +kernel
theorem dX10_rows_4 : decode cX10_rows 4 = .ok (.aload_n 0, 1) := by decide +kernel
theorem dX10_rows_5 : decode cX10_rows 5 = .ok (.getfield 71, 3) := by decide +kernel
theorem dX10_rows_8 : decode cX10_rows 8 = .ok (.iload_n 1, 1) := by decide +kernel
theorem dX10_rows_9 : decode cX10_rows 9 = .ok (.invokevirtual 313, 3) := by decide +kernel
theorem dX10_rows_12 : decode cX10_rows 12 = .ok (.ireturn, 1) := by decide +kernel
theorem dX10_sure_0 : decode cX10_sure 0 = .ok (.iload_n 1, 1) := by decide +kernel
theorem dX10_sure_1 : decode cX10_sure 1 = .ok (.invokestatic 297, 3) := by decide +kernel
theorem dX10_sure_4 : decode cX10_sure 4 = .ok (.ifCond .eq 18, 3) := by decide +kernel
theorem dX10_sure_7 : decode cX10_sure 7 = .ok (.aload_n 0, 1) := by decide +kernel
theorem dX10_sure_8 : decode cX10_sure 8 = .ok (.getfield 64, 3) := by decide +kernel
theorem dX10_sure_11 : decode cX10_sure 11 = .ok (.aload_n 0, 1) := by decide +kernel
theorem dX10_sure_12 : decode cX10_sure 12 = .ok (.getfield 71, 3) := by decide +kernel
theorem dX10_sure_15 : decode cX10_sure 15 = .ok (.iload_n 2, 1) := by decide +kernel
theorem dX10_sure_16 : decode cX10_sure 16 = .ok (.invokevirtual 313, 3) := by decide +kernel
theorem dX10_sure_19 : decode cX10_sure 19 = .ok (.ifCond .ne 5, 3) := by decide +kernel
theorem dX10_sure_22 : decode cX10_sure 22 = .ok (.iconst (-1), 1) := by decide +kernel
theorem dX10_sure_23 : decode cX10_sure 23 = .ok (.ireturn, 1) := by decide +kernel
theorem dX10_sure_24 : decode cX10_sure 24 = .ok (.aload_n 0, 1) := by decide +kernel
theorem dX10_sure_25 : decode cX10_sure 25 = .ok (.getfield 64, 3) := by decide +kernel
theorem dX10_sure_28 : decode cX10_sure 28 = .ok (.iload_n 1, 1) := by decide +kernel
theorem dX10_sure_29 : decode cX10_sure 29 = .ok (.invokevirtual 317, 3) := by decide +kernel
theorem dX10_sure_32 : decode cX10_sure 32 = .ok (.ireturn, 1) := by decide +kernel
theorem dX10_ask_0 : decode cX10_ask 0 = .ok (.iload_n 1, 1) := by decide +kernel
theorem dX10_ask_1 : decode cX10_ask 1 = .ok (.ifCond .lt 23, 3) := by decide +kernel
theorem dX10_ask_4 : decode cX10_ask 4 = .ok (.iload_n 1, 1) := by decide +kernel
theorem dX10_ask_5 : decode cX10_ask 5 = .ok (.iconst 1, 1) := by decide +kernel
theorem dX10_ask_6 : decode cX10_ask 6 = .ok (.if_icmp .gt 18, 3) := by decide +kernel
theorem dX10_ask_9 : decode cX10_ask 9 = .ok (.aload_n 0, 1) := by decide +kernel
theorem dX10_ask_10 : decode cX10_ask 10 = .ok (.getfield 64, 3) := by decide +kernel
theorem dX10_ask_13 : decode cX10_ask 13 = .ok (.aload_n 0, 1) := by decide +kernel
theorem dX10_ask_14 : decode cX10_ask 14 = .ok (.getfield 71, 3) := by decide +kernel
theorem dX10_ask_17 : decode cX10_ask 17 = .ok (.iload_n 2, 1) := by decide +kernel
theorem dX10_ask_18 : decode cX10_ask 18 = .ok (.invokevirtual 313, 3) := by decide +kernel
theorem dX10_ask_21 : decode cX10_ask 21 = .ok (.ifCond .ne 5, 3) := by decide +kernel
theorem dX10_ask_24 : decode cX10_ask 24 = .ok (.iconst (-1), 1) := by decide +kernel
theorem dX10_ask_25 : decode cX10_ask 25 = .ok (.ireturn, 1) := by decide +kernel
theorem dX10_ask_26 : decode cX10_ask 26 = .ok (.aload_n 0, 1) := by decide +kernel
theorem dX10_ask_27 : decode cX10_ask 27 = .ok (.getfield 64, 3) := by decide +kernel
theorem dX10_ask_30 : decode cX10_ask 30 = .ok (.invokevirtual 320, 3) := by decide +kernel
theorem dX10_ask_33 : decode cX10_ask 33 = .ok (.istore_n 3, 1) := by decide +kernel
theorem dX10_ask_34 : decode cX10_ask 34 = .ok (.iload_n 1, 1) := by decide +kernel
theorem dX10_ask_35 : decode cX10_ask 35 = .ok (.ifCond .ne 7, 3) := by decide +kernel
theorem dX10_ask_38 : decode cX10_ask 38 = .ok (.iload_n 3, 1) := by decide +kernel
theorem dX10_ask_39 : decode cX10_ask 39 = .ok (.goto 11, 3) := by decide +kernel
theorem dX10_ask_42 : decode cX10_ask 42 = .ok (.aload_n 0, 1) := by decide +kernel
theorem dX10_ask_43 : decode cX10_ask 43 = .ok (.getfield 64, 3) := by decide +kernel
theorem dX10_ask_46 : decode cX10_ask 46 = .ok (.iload_n 3, 1) := by decide +kernel
theorem dX10_ask_47 : decode cX10_ask 47 = .ok (.invokevirtual 323, 3) := by decide +kernel
theorem dX10_ask_50 : decode cX10_ask 50 = .ok (.ireturn, 1) := by decide +kernel
theorem dX10_image_0 : decode cX10_image 0 = .ok (.iload_n 1, 1) := by decide +kernel
theorem dX10_image_1 : decode cX10_image 1 = .ok (.ifCond .lt 8, 3) := by decide +kernel
theorem dX10_image_4 : decode cX10_image 4 = .ok (.iload_n 1, 1) := by decide +kernel
theorem dX10_image_5 : decode cX10_image 5 = .ok (.iconst 3, 1) := by decide +kernel
theorem dX10_image_6 : decode cX10_image 6 = .ok (.if_icmp .lt 5, 3) := by decide +kernel
theorem dX10_image_9 : decode cX10_image 9 = .ok (.iconst (-1), 1) := by decide +kernel
theorem dX10_image_10 : decode cX10_image 10 = .ok (.ireturn, 1) := by decide +kernel
theorem dX10_image_11 : decode cX10_image 11 = .ok (.aload_n 0, 1) := by decide +kernel
theorem dX10_image_12 : decode cX10_image 12 = .ok (.getfield 39, 3) := by decide +kernel
theorem dX10_image_15 : decode cX10_image 15 = .ok (.iload_n 1, 1) := by decide +kernel
theorem dX10_image_16 : decode cX10_image 16 = .ok (.aaload, 1) := by decide +kernel
theorem dX10_image_17 : decode cX10_image 17 = .ok (.aload_n 0, 1) := by decide +kernel
theorem dX10_image_18 : decode cX10_image 18 = .ok (.getfield 28, 3) := by decide +kernel
theorem dX10_image_21 : decode cX10_image 21 = .ok (.invokevirtual 326, 3) := by decide +kernel
theorem dX10_image_24 : decode cX10_image 24 = .ok (.aload_n 0, 1) := by decide +kernel
theorem dX10_image_25 : decode cX10_image 25 = .ok (.getfield 43, 3) := by decide +kernel
theorem dX10_image_28 : decode cX10_image 28 = .ok (.iload_n 1, 1) := by decide +kernel
theorem dX10_image_29 : decode cX10_image 29 = .ok (.iconst 1, 1) := by decide +kernel
theorem dX10_image_30 : decode cX10_image 30 = .ok (.bastore, 1) := by decide +kernel
theorem dX10_image_31 : decode cX10_image 31 = .ok (.aload_n 0, 1) := by decide +kernel
theorem dX10_image_32 : decode cX10_image 32 = .ok (.getfield 28, 3) := by decide +kernel
theorem dX10_image_35 : decode cX10_image 35 = .ok (.getfield 214, 3) := by decide +kernel
theorem dX10_image_38 : decode cX10_image 38 = .ok (.ireturn, 1) := by decide +kernel
theorem dX10_back_0 : decode cX10_back 0 = .ok (.iload_n 1, 1) := by decide +kernel
theorem dX10_back_1 : decode cX10_back 1 = .ok (.ifCond .lt 17, 3) := by decide +kernel
theorem dX10_back_4 : decode cX10_back 4 = .ok (.iload_n 1, 1) := by decide +kernel
theorem dX10_back_5 : decode cX10_back 5 = .ok (.iconst 3, 1) := by decide +kernel
theorem dX10_back_6 : decode cX10_back 6 = .ok (.if_icmp .ge 12, 3) := by decide +kernel
theorem dX10_back_9 : decode cX10_back 9 = .ok (.aload_n 0, 1) := by decide +kernel
theorem dX10_back_10 : decode cX10_back 10 = .ok (.getfield 43, 3) := by decide +kernel
theorem dX10_back_13 : decode cX10_back 13 = .ok (.iload_n 1, 1) := by decide +kernel
theorem dX10_back_14 : decode cX10_back 14 = .ok (.baload, 1) := by decide +kernel
theorem dX10_back_15 : decode cX10_back 15 = .ok (.ifCond .ne 5, 3) := by decide +kernel
theorem dX10_back_18 : decode cX10_back 18 = .ok (.iconst (-1), 1) := by decide +kernel
theorem dX10_back_19 : decode cX10_back 19 = .ok (.ireturn, 1) := by decide +kernel
theorem dX10_back_20 : decode cX10_back 20 = .ok (.aload_n 0, 1) := by decide +kernel
theorem dX10_back_21 : decode cX10_back 21 = .ok (.getfield 28, 3) := by decide +kernel
theorem dX10_back_24 : decode cX10_back 24 = .ok (.aload_n 0, 1) := by decide +kernel
theorem dX10_back_25 : decode cX10_back 25 = .ok (.getfield 39, 3) := by decide +kernel
theorem dX10_back_28 : decode cX10_back 28 = .ok (.iload_n 1, 1) := by decide +kernel
theorem dX10_back_29 : decode cX10_back 29 = .ok (.aaload, 1) := by decide +kernel
theorem dX10_back_30 : decode cX10_back 30 = .ok (.invokevirtual 326, 3) := by decide +kernel
theorem dX10_back_33 : decode cX10_back 33 = .ok (.aload_n 0, 1) := by decide +kernel
theorem dX10_back_34 : decode cX10_back 34 = .ok (.getfield 35, 3) := by decide +kernel
theorem dX10_back_37 : decode cX10_back 37 = .ok (.aload_n 0, 1) := by decide +kernel
theorem dX10_back_38 : decode cX10_back 38 = .ok (.getfield 28, 3) := by decide +kernel
theorem dX10_back_41 : decode cX10_back 41 = .ok (.invokevirtual 82, 3) := by decide +kernel
theorem dX10_back_44 : decode cX10_back 44 = .ok (.aload_n 0, 1) := by decide +kernel
theorem dX10_back_45 : decode cX10_back 45 = .ok (.getfield 28, 3) := by decide +kernel
theorem dX10_back_48 : decode cX10_back 48 = .ok (.getfield 214, 3) := by decide +kernel
theorem dX10_back_51 : decode cX10_back 51 = .ok (.ireturn, 1) := by decide +kernel
theorem dX10_about_0 : decode cX10_about 0 = .ok (.iload_n 1, 1) := by decide +kernel
theorem dX10_about_1 : decode cX10_about 1 = .ok (.tableswitch 242 0 17 #[87, 95, 103, 111, 119, 127, 135, 143, 151, 159, 167, 175, 183, 199, 207, 215, 223, 234], 87) := by decide +kernel
theorem dX10_about_88 : decode cX10_about 88 = .ok (.aload_n 0, 1) := by decide +kernel
theorem dX10_about_89 : decode cX10_about 89 = .ok (.getfield 71, 3) := by decide +kernel
theorem dX10_about_92 : decode cX10_about 92 = .ok (.getfield 120, 3) := by decide +kernel
theorem dX10_about_95 : decode cX10_about 95 = .ok (.ireturn, 1) := by decide +kernel
theorem dX10_about_96 : decode cX10_about 96 = .ok (.aload_n 0, 1) := by decide +kernel
theorem dX10_about_97 : decode cX10_about 97 = .ok (.getfield 71, 3) := by decide +kernel
theorem dX10_about_100 : decode cX10_about 100 = .ok (.getfield 247, 3) := by decide +kernel
theorem dX10_about_103 : decode cX10_about 103 = .ok (.ireturn, 1) := by decide +kernel
theorem dX10_about_104 : decode cX10_about 104 = .ok (.aload_n 0, 1) := by decide +kernel
theorem dX10_about_105 : decode cX10_about 105 = .ok (.getfield 71, 3) := by decide +kernel
theorem dX10_about_108 : decode cX10_about 108 = .ok (.getfield 280, 3) := by decide +kernel
theorem dX10_about_111 : decode cX10_about 111 = .ok (.ireturn, 1) := by decide +kernel
theorem dX10_about_112 : decode cX10_about 112 = .ok (.aload_n 0, 1) := by decide +kernel
theorem dX10_about_113 : decode cX10_about 113 = .ok (.getfield 28, 3) := by decide +kernel
theorem dX10_about_116 : decode cX10_about 116 = .ok (.getfield 155, 3) := by decide +kernel
theorem dX10_about_119 : decode cX10_about 119 = .ok (.ireturn, 1) := by decide +kernel
theorem dX10_about_120 : decode cX10_about 120 = .ok (.aload_n 0, 1) := by decide +kernel
theorem dX10_about_121 : decode cX10_about 121 = .ok (.getfield 28, 3) := by decide +kernel
theorem dX10_about_124 : decode cX10_about 124 = .ok (.getfield 152, 3) := by decide +kernel
theorem dX10_about_127 : decode cX10_about 127 = .ok (.ireturn, 1) := by decide +kernel
theorem dX10_about_128 : decode cX10_about 128 = .ok (.aload_n 0, 1) := by decide +kernel
theorem dX10_about_129 : decode cX10_about 129 = .ok (.getfield 28, 3) := by decide +kernel
theorem dX10_about_132 : decode cX10_about 132 = .ok (.getfield 211, 3) := by decide +kernel
theorem dX10_about_135 : decode cX10_about 135 = .ok (.ireturn, 1) := by decide +kernel
theorem dX10_about_136 : decode cX10_about 136 = .ok (.aload_n 0, 1) := by decide +kernel
theorem dX10_about_137 : decode cX10_about 137 = .ok (.getfield 28, 3) := by decide +kernel
theorem dX10_about_140 : decode cX10_about 140 = .ok (.getfield 208, 3) := by decide +kernel
theorem dX10_about_143 : decode cX10_about 143 = .ok (.ireturn, 1) := by decide +kernel
theorem dX10_about_144 : decode cX10_about 144 = .ok (.aload_n 0, 1) := by decide +kernel
theorem dX10_about_145 : decode cX10_about 145 = .ok (.getfield 28, 3) := by decide +kernel
theorem dX10_about_148 : decode cX10_about 148 = .ok (.getfield 329, 3) := by decide +kernel
theorem dX10_about_151 : decode cX10_about 151 = .ok (.ireturn, 1) := by decide +kernel
theorem dX10_about_152 : decode cX10_about 152 = .ok (.aload_n 0, 1) := by decide +kernel
theorem dX10_about_153 : decode cX10_about 153 = .ok (.getfield 28, 3) := by decide +kernel
theorem dX10_about_156 : decode cX10_about 156 = .ok (.getfield 332, 3) := by decide +kernel
theorem dX10_about_159 : decode cX10_about 159 = .ok (.ireturn, 1) := by decide +kernel
theorem dX10_about_160 : decode cX10_about 160 = .ok (.aload_n 0, 1) := by decide +kernel
theorem dX10_about_161 : decode cX10_about 161 = .ok (.getfield 28, 3) := by decide +kernel
theorem dX10_about_164 : decode cX10_about 164 = .ok (.getfield 214, 3) := by decide +kernel
theorem dX10_about_167 : decode cX10_about 167 = .ok (.ireturn, 1) := by decide +kernel
theorem dX10_about_168 : decode cX10_about 168 = .ok (.aload_n 0, 1) := by decide +kernel
theorem dX10_about_169 : decode cX10_about 169 = .ok (.getfield 28, 3) := by decide +kernel
theorem dX10_about_172 : decode cX10_about 172 = .ok (.getfield 335, 3) := by decide +kernel
theorem dX10_about_175 : decode cX10_about 175 = .ok (.ireturn, 1) := by decide +kernel
theorem dX10_about_176 : decode cX10_about 176 = .ok (.aload_n 0, 1) := by decide +kernel
theorem dX10_about_177 : decode cX10_about 177 = .ok (.getfield 35, 3) := by decide +kernel
theorem dX10_about_180 : decode cX10_about 180 = .ok (.getfield 338, 3) := by decide +kernel
theorem dX10_about_183 : decode cX10_about 183 = .ok (.ireturn, 1) := by decide +kernel
theorem dX10_about_184 : decode cX10_about 184 = .ok (.aload_n 0, 1) := by decide +kernel
theorem dX10_about_185 : decode cX10_about 185 = .ok (.getfield 35, 3) := by decide +kernel
theorem dX10_about_188 : decode cX10_about 188 = .ok (.getfield 341, 3) := by decide +kernel
theorem dX10_about_191 : decode cX10_about 191 = .ok (.aload_n 0, 1) := by decide +kernel
theorem dX10_about_192 : decode cX10_about 192 = .ok (.getfield 35, 3) := by decide +kernel
theorem dX10_about_195 : decode cX10_about 195 = .ok (.getfield 338, 3) := by decide +kernel
theorem dX10_about_198 : decode cX10_about 198 = .ok (.isub, 1) := by decide +kernel
theorem dX10_about_199 : decode cX10_about 199 = .ok (.ireturn, 1) := by decide +kernel
theorem dX10_about_200 : decode cX10_about 200 = .ok (.aload_n 0, 1) := by decide +kernel
theorem dX10_about_201 : decode cX10_about 201 = .ok (.getfield 64, 3) := by decide +kernel
theorem dX10_about_204 : decode cX10_about 204 = .ok (.getfield 344, 3) := by decide +kernel
theorem dX10_about_207 : decode cX10_about 207 = .ok (.ireturn, 1) := by decide +kernel
theorem dX10_about_208 : decode cX10_about 208 = .ok (.aload_n 0, 1) := by decide +kernel
theorem dX10_about_209 : decode cX10_about 209 = .ok (.getfield 64, 3) := by decide +kernel
theorem dX10_about_212 : decode cX10_about 212 = .ok (.getfield 310, 3) := by decide +kernel
theorem dX10_about_215 : decode cX10_about 215 = .ok (.ireturn, 1) := by decide +kernel
theorem dX10_about_216 : decode cX10_about 216 = .ok (.aload_n 0, 1) := by decide +kernel
theorem dX10_about_217 : decode cX10_about 217 = .ok (.getfield 10, 3) := by decide +kernel
theorem dX10_about_220 : decode cX10_about 220 = .ok (.invokevirtual 99, 3) := by decide +kernel
theorem dX10_about_223 : decode cX10_about 223 = .ok (.ireturn, 1) := by decide +kernel
theorem dX10_about_224 : decode cX10_about 224 = .ok (.aload_n 0, 1) := by decide +kernel
theorem dX10_about_225 : decode cX10_about 225 = .ok (.getfield 71, 3) := by decide +kernel
theorem dX10_about_228 : decode cX10_about 228 = .ok (.getfield 347, 3) := by decide +kernel
theorem dX10_about_231 : decode cX10_about 231 = .ok (.getfield 351, 3) := by decide +kernel
theorem dX10_about_234 : decode cX10_about 234 = .ok (.ireturn, 1) := by decide +kernel
theorem dX10_about_235 : decode cX10_about 235 = .ok (.aload_n 0, 1) := by decide +kernel
theorem dX10_about_236 : decode cX10_about 236 = .ok (.getfield 50, 3) := by decide +kernel
theorem dX10_about_239 : decode cX10_about 239 = .ok (.getfield 356, 3) := by decide +kernel
theorem dX10_about_242 : decode cX10_about 242 = .ok (.ireturn, 1) := by decide +kernel
theorem dX10_about_243 : decode cX10_about 243 = .ok (.iconst (-1), 1) := by decide +kernel
theorem dX10_about_244 : decode cX10_about 244 = .ok (.ireturn, 1) := by decide +kernel
theorem dX11_init_0 : decode cX11_init 0 = .ok (.aload_n 0, 1) := by decide +kernel
theorem dX11_init_1 : decode cX11_init 1 = .ok (.invokespecial 1, 3) := by decide +kernel
theorem dX11_init_4 : decode cX11_init 4 = .ok (.aload_n 0, 1) := by decide +kernel
theorem dX11_init_5 : decode cX11_init 5 = .ok (.sipush 1600, 3) := by decide +kernel
theorem dX11_init_8 : decode cX11_init 8 = .ok (.newarray .int, 2) := by decide +kernel
theorem dX11_init_10 : decode cX11_init 10 = .ok (.putfield 7, 3) := by decide +kernel
theorem dX11_init_13 : decode cX11_init 13 = .ok (.aload_n 0, 1) := by decide +kernel
theorem dX11_init_14 : decode cX11_init 14 = .ok (.iconst (-1), 1) := by decide +kernel
theorem dX11_init_15 : decode cX11_init 15 = .ok (.putfield 13, 3) := by decide +kernel
theorem dX11_init_18 : decode cX11_init 18 = .ok (.aload_n 0, 1) := by decide +kernel
theorem dX11_init_19 : decode cX11_init 19 = .ok (.bipush 13, 2) := by decide +kernel
theorem dX11_init_21 : decode cX11_init 21 = .ok (.newarray .long, 2) := by decide +kernel
theorem dX11_init_23 : decode cX11_init 23 = .ok (.putfield 17, 3) := by decide +kernel
theorem dX11_init_26 : decode cX11_init 26 = .ok (.aload_n 0, 1) := by decide +kernel
theorem dX11_init_27 : decode cX11_init 27 = .ok (.sipush 320, 3) := by decide +kernel
theorem dX11_init_30 : decode cX11_init 30 = .ok (.newarray .int, 2) := by decide +kernel
theorem dX11_init_32 : decode cX11_init 32 = .ok (.putfield 21, 3) := by decide +kernel
theorem dX11_init_35 : decode cX11_init 35 = .ok (.aload_n 0, 1) := by decide +kernel
theorem dX11_init_36 : decode cX11_init 36 = .ok (.sipush 320, 3) := by decide +kernel
theorem dX11_init_39 : decode cX11_init 39 = .ok (.newarray .int, 2) := by decide +kernel
theorem dX11_init_41 : decode cX11_init 41 = .ok (.putfield 24, 3) := by decide +kernel
theorem dX11_init_44 : decode cX11_init 44 = .ok (.aload_n 0, 1) := by decide +kernel
theorem dX11_init_45 : decode cX11_init 45 = .ok (.sipush 320, 3) := by decide +kernel
theorem dX11_init_48 : decode cX11_init 48 = .ok (.newarray .int, 2) := by decide +kernel
theorem dX11_init_50 : decode cX11_init 50 = .ok (.putfield 27, 3) := by decide +kernel
theorem dX11_init_53 : decode cX11_init 53 = .ok (.aload_n 0, 1) := by decide +kernel
theorem dX11_init_54 : decode cX11_init 54 = .ok (.sipush 320, 3) := by decide +kernel
theorem dX11_init_57 : decode cX11_init 57 = .ok (.newarray .int, 2) := by decide +kernel
theorem dX11_init_59 : decode cX11_init 59 = .ok (.putfield 30, 3) := by decide +kernel
theorem dX11_init_62 : decode cX11_init 62 = .ok (.aload_n 0, 1) := by decide +kernel
theorem dX11_init_63 : decode cX11_init 63 = .ok (.sipush 160, 3) := by decide +kernel
theorem dX11_init_66 : decode cX11_init 66 = .ok (.newarray .int, 2) := by decide +kernel
theorem dX11_init_68 : decode cX11_init 68 = .ok (.putfield 33, 3) := by decide +kernel
theorem dX11_init_71 : decode cX11_init 71 = .ok (.aload_n 0, 1) := by decide +kernel
theorem dX11_init_72 : decode cX11_init 72 = .ok (.bipush 64, 2) := by decide +kernel
theorem dX11_init_74 : decode cX11_init 74 = .ok (.newarray .int, 2) := by decide +kernel
theorem dX11_init_76 : decode cX11_init 76 = .ok (.putfield 36, 3) := by decide +kernel
theorem dX11_init_79 : decode cX11_init 79 = .ok (.aload_n 0, 1) := by decide +kernel
theorem dX11_init_80 : decode cX11_init 80 = .ok (.iconst 5, 1) := by decide +kernel
theorem dX11_init_81 : decode cX11_init 81 = .ok (.newarray .int, 2) := by decide +kernel
theorem dX11_init_83 : decode cX11_init 83 = .ok (.putfield 39, 3) := by decide +kernel
theorem dX11_init_86 : decode cX11_init 86 = .ok (.aload_n 0, 1) := by decide +kernel
theorem dX11_init_87 : decode cX11_init 87 = .ok (.iconst 5, 1) := by decide +kernel
theorem dX11_init_88 : decode cX11_init 88 = .ok (.newarray .int, 2) := by decide +kernel
theorem dX11_init_90 : decode cX11_init 90 = .ok (.putfield 42, 3) := by decide +kernel
theorem dX11_init_93 : decode cX11_init 93 = .ok (.aload_n 0, 1) := by decide +kernel
theorem dX11_init_94 : decode cX11_init 94 = .ok (.iconst 5, 1) := by decide +kernel
theorem dX11_init_95 : decode cX11_init 95 = .ok (.newarray .int, 2) := by decide +kernel
theorem dX11_init_97 : decode cX11_init 97 = .ok (.putfield 45, 3) := by decide +kernel
theorem dX11_init_100 : decode cX11_init 100 = .ok (.aload_n 0, 1) := by decide +kernel
theorem dX11_init_101 : decode cX11_init 101 = .ok (.iconst 5, 1) := by decide +kernel
theorem dX11_init_102 : decode cX11_init 102 = .ok (.newarray .int, 2) := by decide +kernel
theorem dX11_init_104 : decode cX11_init 104 = .ok (.putfield 48, 3) := by decide +kernel
theorem dX11_init_107 : decode cX11_init 107 = .ok (.aload_n 0, 1) := by decide +kernel
theorem dX11_init_108 : decode cX11_init 108 = .ok (.iconst 5, 1) := by decide +kernel
theorem dX11_init_109 : decode cX11_init 109 = .ok (.newarray .int, 2) := by decide +kernel
theorem dX11_init_111 : decode cX11_init 111 = .ok (.putfield 51, 3) := by decide +kernel
theorem dX11_init_114 : decode cX11_init 114 = .ok (.aload_n 0, 1) := by decide +kernel
theorem dX11_init_115 : decode cX11_init 115 = .ok (.bipush 40, 2) := by decide +kernel
theorem dX11_init_117 : decode cX11_init 117 = .ok (.newarray .int, 2) := by decide +kernel
theorem dX11_init_119 : decode cX11_init 119 = .ok (.putfield 54, 3) := by decide +kernel
theorem dX11_init_122 : decode cX11_init 122 = .ok (.aload_n 0, 1) := by decide +kernel
theorem dX11_init_123 : decode cX11_init 123 = .ok (.bipush 40, 2) := by decide +kernel
theorem dX11_init_125 : decode cX11_init 125 = .ok (.newarray .int, 2) := by decide +kernel
theorem dX11_init_127 : decode cX11_init 127 = .ok (.putfield 57, 3) := by decide +kernel
theorem dX11_init_130 : decode cX11_init 130 = .ok (.aload_n 0, 1) := by decide +kernel
theorem dX11_init_131 : decode cX11_init 131 = .ok (.bipush 16, 2) := by decide +kernel
theorem dX11_init_133 : decode cX11_init 133 = .ok (.newarray .int, 2) := by decide +kernel
theorem dX11_init_135 : decode cX11_init 135 = .ok (.putfield 60, 3) := by decide +kernel
theorem dX11_init_138 : decode cX11_init 138 = .ok (.aload_n 0, 1) := by decide +kernel
theorem dX11_init_139 : decode cX11_init 139 = .ok (.bipush 16, 2) := by decide +kernel
theorem dX11_init_141 : decode cX11_init 141 = .ok (.newarray .int, 2) := by decide +kernel
theorem dX11_init_143 : decode cX11_init 143 = .ok (.putfield 63, 3) := by decide +kernel
theorem dX11_init_146 : decode cX11_init 146 = .ok (.aload_n 0, 1) := by decide +kernel
theorem dX11_init_147 : decode cX11_init 147 = .ok (.bipush 16, 2) := by decide +kernel
theorem dX11_init_149 : decode cX11_init 149 = .ok (.newarray .int, 2) := by decide +kernel
theorem dX11_init_151 : decode cX11_init 151 = .ok (.putfield 66, 3) := by decide +kernel
theorem dX11_init_154 : decode cX11_init 154 = .ok (.aload_n 0, 1) := by decide +kernel
theorem dX11_init_155 : decode cX11_init 155 = .ok (.bipush 16, 2) := by decide +kernel
theorem dX11_init_157 : decode cX11_init 157 = .ok (.newarray .int, 2) := by decide +kernel
theorem dX11_init_159 : decode cX11_init 159 = .ok (.putfield 69, 3) := by decide +kernel
theorem dX11_init_162 : decode cX11_init 162 = .ok (.aload_n 0, 1) := by decide +kernel
theorem dX11_init_163 : decode cX11_init 163 = .ok (.bipush 16, 2) := by decide +kernel
theorem dX11_init_165 : decode cX11_init 165 = .ok (.newarray .int, 2) := by decide +kernel
theorem dX11_init_167 : decode cX11_init 167 = .ok (.putfield 72, 3) := by decide +kernel
theorem dX11_init_170 : decode cX11_init 170 = .ok (.aload_n 0, 1) := by decide +kernel
theorem dX11_init_171 : decode cX11_init 171 = .ok (.bipush 16, 2) := by decide +kernel
theorem dX11_init_173 : decode cX11_init 173 = .ok (.newarray .int, 2) := by decide +kernel
theorem dX11_init_175 : decode cX11_init 175 = .ok (.putfield 75, 3) := by decide +kernel
theorem dX11_init_178 : decode cX11_init 178 = .ok (.aload_n 0, 1) := by decide +kernel
theorem dX11_init_179 : decode cX11_init 179 = .ok (.bipush 16, 2) := by decide +kernel
theorem dX11_init_181 : decode cX11_init 181 = .ok (.newarray .int, 2) := by decide +kernel
theorem dX11_init_183 : decode cX11_init 183 = .ok (.putfield 78, 3) := by decide +kernel
theorem dX11_init_186 : decode cX11_init 186 = .ok (.aload_n 0, 1) := by decide +kernel
theorem dX11_init_187 : decode cX11_init 187 = .ok (.bipush 16, 2) := by decide +kernel
theorem dX11_init_189 : decode cX11_init 189 = .ok (.newarray .int, 2) := by decide +kernel
theorem dX11_init_191 : decode cX11_init 191 = .ok (.putfield 81, 3) := by decide +kernel
theorem dX11_init_194 : decode cX11_init 194 = .ok (.aload_n 0, 1) := by decide +kernel
theorem dX11_init_195 : decode cX11_init 195 = .ok (.bipush 16, 2) := by decide +kernel
theorem dX11_init_197 : decode cX11_init 197 = .ok (.newarray .int, 2) := by decide +kernel
theorem dX11_init_199 : decode cX11_init 199 = .ok (.putfield 84, 3) := by decide +kernel
theorem dX11_init_202 : decode cX11_init 202 = .ok (.aload_n 0, 1) := by decide +kernel
theorem dX11_init_203 : decode cX11_init 203 = .ok (.bipush 16, 2) := by decide +kernel
theorem dX11_init_205 : decode cX11_init 205 = .ok (.newarray .int, 2) := by decide +kernel
theorem dX11_init_207 : decode cX11_init 207 = .ok (.putfield 87, 3) := by decide +kernel
theorem dX11_init_210 : decode cX11_init 210 = .ok (.aload_n 0, 1) := by decide +kernel
theorem dX11_init_211 : decode cX11_init 211 = .ok (.iconst 5, 1) := by decide +kernel
theorem dX11_init_212 : decode cX11_init 212 = .ok (.newarray .boolean, 2) := by decide +kernel
theorem dX11_init_214 : decode cX11_init 214 = .ok (.putfield 90, 3) := by decide +kernel
theorem dX11_init_217 : decode cX11_init 217 = .ok (.aload_n 0, 1) := by decide +kernel
theorem dX11_init_218 : decode cX11_init 218 = .ok (.iconst 5, 1) := by decide +kernel
theorem dX11_init_219 : decode cX11_init 219 = .ok (.newarray .boolean, 2) := by decide +kernel
theorem dX11_init_221 : decode cX11_init 221 = .ok (.putfield 94, 3) := by decide +kernel
theorem dX11_init_224 : decode cX11_init 224 = .ok (.aload_n 0, 1) := by decide +kernel
theorem dX11_init_225 : decode cX11_init 225 = .ok (.bipush 9, 2) := by decide +kernel
theorem dX11_init_227 : decode cX11_init 227 = .ok (.putfield 97, 3) := by decide +kernel
theorem dX11_init_230 : decode cX11_init 230 = .ok (.aload_n 0, 1) := by decide +kernel
theorem dX11_init_231 : decode cX11_init 231 = .ok (.bipush 18, 2) := by decide +kernel
theorem dX11_init_233 : decode cX11_init 233 = .ok (.newarray .int, 2) := by decide +kernel
theorem dX11_init_235 : decode cX11_init 235 = .ok (.dup, 1) := by decide +kernel
theorem dX11_init_236 : decode cX11_init 236 = .ok (.iconst 0, 1) := by decide +kernel
theorem dX11_init_237 : decode cX11_init 237 = .ok (.iconst (-1), 1) := by decide +kernel
theorem dX11_init_238 : decode cX11_init 238 = .ok (.iastore, 1) := by decide +kernel
theorem dX11_init_239 : decode cX11_init 239 = .ok (.dup, 1) := by decide +kernel
theorem dX11_init_240 : decode cX11_init 240 = .ok (.iconst 1, 1) := by decide +kernel
theorem dX11_init_241 : decode cX11_init 241 = .ok (.iconst (-1), 1) := by decide +kernel
theorem dX11_init_242 : decode cX11_init 242 = .ok (.iastore, 1) := by decide +kernel
theorem dX11_init_243 : decode cX11_init 243 = .ok (.dup, 1) := by decide +kernel
theorem dX11_init_244 : decode cX11_init 244 = .ok (.iconst 2, 1) := by decide +kernel
theorem dX11_init_245 : decode cX11_init 245 = .ok (.iconst 0, 1) := by decide +kernel
theorem dX11_init_246 : decode cX11_init 246 = .ok (.iastore, 1) := by decide +kernel
theorem dX11_init_247 : decode cX11_init 247 = .ok (.dup, 1) := by decide +kernel
theorem dX11_init_248 : decode cX11_init 248 = .ok (.iconst 3, 1) := by decide +kernel
theorem dX11_init_249 : decode cX11_init 249 = .ok (.iconst 0, 1) := by decide +kernel
theorem dX11_init_250 : decode cX11_init 250 = .ok (.iastore, 1) := by decide +kernel
theorem dX11_init_251 : decode cX11_init 251 = .ok (.dup, 1) := by decide +kernel
theorem dX11_init_252 : decode cX11_init 252 = .ok (.iconst 4, 1) := by decide +kernel
theorem dX11_init_253 : decode cX11_init 253 = .ok (.iconst 0, 1) := by decide +kernel
theorem dX11_init_254 : decode cX11_init 254 = .ok (.iastore, 1) := by decide +kernel
theorem dX11_init_255 : decode cX11_init 255 = .ok (.dup, 1) := by decide +kernel
theorem dX11_init_256 : decode cX11_init 256 = .ok (.iconst 5, 1) := by decide +kernel
theorem dX11_init_257 : decode cX11_init 257 = .ok (.iconst 0, 1) := by decide +kernel
theorem dX11_init_258 : decode cX11_init 258 = .ok (.iastore, 1) := by decide +kernel
theorem dX11_init_259 : decode cX11_init 259 = .ok (.dup, 1) := by decide +kernel
theorem dX11_init_260 : decode cX11_init 260 = .ok (.bipush 6, 2) := by decide +kernel
theorem dX11_init_262 : decode cX11_init 262 = .ok (.iconst 0, 1) := by decide +kernel
theorem dX11_init_263 : decode cX11_init 263 = .ok (.iastore, 1) := by decide +kernel
theorem dX11_init_264 : decode cX11_init 264 = .ok (.dup, 1) := by decide +kernel
theorem dX11_init_265 : decode cX11_init 265 = .ok (.bipush 7, 2) := by decide +kernel
theorem dX11_init_267 : decode cX11_init 267 = .ok (.iconst 0, 1) := by decide +kernel
theorem dX11_init_268 : decode cX11_init 268 = .ok (.iastore, 1) := by decide +kernel
theorem dX11_init_269 : decode cX11_init 269 = .ok (.dup, 1) := by decide +kernel
theorem dX11_init_270 : decode cX11_init 270 = .ok (.bipush 8, 2) := by decide +kernel
theorem dX11_init_272 : decode cX11_init 272 = .ok (.iconst 0, 1) := by decide +kernel
theorem dX11_init_273 : decode cX11_init 273 = .ok (.iastore, 1) := by decide +kernel
theorem dX11_init_274 : decode cX11_init 274 = .ok (.dup, 1) := by decide +kernel
theorem dX11_init_275 : decode cX11_init 275 = .ok (.bipush 9, 2) := by decide +kernel
theorem dX11_init_277 : decode cX11_init 277 = .ok (.iconst 0, 1) := by decide +kernel
theorem dX11_init_278 : decode cX11_init 278 = .ok (.iastore, 1) := by decide +kernel
theorem dX11_init_279 : decode cX11_init 279 = .ok (.dup, 1) := by decide +kernel
theorem dX11_init_280 : decode cX11_init 280 = .ok (.bipush 10, 2) := by decide +kernel
theorem dX11_init_282 : decode cX11_init 282 = .ok (.iconst 0, 1) := by decide +kernel
theorem dX11_init_283 : decode cX11_init 283 = .ok (.iastore, 1) := by decide +kernel
theorem dX11_init_284 : decode cX11_init 284 = .ok (.dup, 1) := by decide +kernel
theorem dX11_init_285 : decode cX11_init 285 = .ok (.bipush 11, 2) := by decide +kernel
theorem dX11_init_287 : decode cX11_init 287 = .ok (.iconst 0, 1) := by decide +kernel
theorem dX11_init_288 : decode cX11_init 288 = .ok (.iastore, 1) := by decide +kernel
theorem dX11_init_289 : decode cX11_init 289 = .ok (.dup, 1) := by decide +kernel
theorem dX11_init_290 : decode cX11_init 290 = .ok (.bipush 12, 2) := by decide +kernel
theorem dX11_init_292 : decode cX11_init 292 = .ok (.iconst 0, 1) := by decide +kernel
theorem dX11_init_293 : decode cX11_init 293 = .ok (.iastore, 1) := by decide +kernel
theorem dX11_init_294 : decode cX11_init 294 = .ok (.dup, 1) := by decide +kernel
theorem dX11_init_295 : decode cX11_init 295 = .ok (.bipush 13, 2) := by decide +kernel
theorem dX11_init_297 : decode cX11_init 297 = .ok (.iconst 0, 1) := by decide +kernel
theorem dX11_init_298 : decode cX11_init 298 = .ok (.iastore, 1) := by decide +kernel
theorem dX11_init_299 : decode cX11_init 299 = .ok (.dup, 1) := by decide +kernel
theorem dX11_init_300 : decode cX11_init 300 = .ok (.bipush 14, 2) := by decide +kernel
theorem dX11_init_302 : decode cX11_init 302 = .ok (.iconst 0, 1) := by decide +kernel
theorem dX11_init_303 : decode cX11_init 303 = .ok (.iastore, 1) := by decide +kernel
theorem dX11_init_304 : decode cX11_init 304 = .ok (.dup, 1) := by decide +kernel
theorem dX11_init_305 : decode cX11_init 305 = .ok (.bipush 15, 2) := by decide +kernel
theorem dX11_init_307 : decode cX11_init 307 = .ok (.iconst 0, 1) := by decide +kernel
theorem dX11_init_308 : decode cX11_init 308 = .ok (.iastore, 1) := by decide +kernel
theorem dX11_init_309 : decode cX11_init 309 = .ok (.dup, 1) := by decide +kernel
theorem dX11_init_310 : decode cX11_init 310 = .ok (.bipush 16, 2) := by decide +kernel
theorem dX11_init_312 : decode cX11_init 312 = .ok (.iconst 0, 1) := by decide +kernel
theorem dX11_init_313 : decode cX11_init 313 = .ok (.iastore, 1) := by decide +kernel
theorem dX11_init_314 : decode cX11_init 314 = .ok (.dup, 1) := by decide +kernel
theorem dX11_init_315 : decode cX11_init 315 = .ok (.bipush 17, 2) := by decide +kernel
theorem dX11_init_317 : decode cX11_init 317 = .ok (.iconst 0, 1) := by decide +kernel
theorem dX11_init_318 : decode cX11_init 318 = .ok (.iastore, 1) := by decide +kernel
theorem dX11_init_319 : decode cX11_init 319 = .ok (.putfield 100, 3) := by decide +kernel
theorem dX11_init_322 : decode cX11_init 322 = .ok (.aload_n 0, 1) := by decide +kernel
theorem dX11_init_323 : decode cX11_init 323 = .ok (.bipush 18, 2) := by decide +kernel
theorem dX11_init_325 : decode cX11_init 325 = .ok (.newarray .int, 2) := by decide +kernel
theorem dX11_init_327 : decode cX11_init 327 = .ok (.putfield 103, 3) := by decide +kernel
theorem dX11_init_330 : decode cX11_init 330 = .ok (.aload_n 0, 1) := by decide +kernel
theorem dX11_init_331 : decode cX11_init 331 = .ok (.sipush 720, 3) := by decide +kernel
theorem dX11_init_334 : decode cX11_init 334 = .ok (.newarray .int, 2) := by decide +kernel
theorem dX11_init_336 : decode cX11_init 336 = .ok (.putfield 106, 3) := by decide +kernel
theorem dX11_init_339 : decode cX11_init 339 = .ok (.aload_n 0, 1) := by decide +kernel
theorem dX11_init_340 : decode cX11_init 340 = .ok (.bipush 16, 2) := by decide +kernel
theorem dX11_init_342 : decode cX11_init 342 = .ok (.newarray .int, 2) := by decide +kernel
theorem dX11_init_344 : decode cX11_init 344 = .ok (.putfield 109, 3) := by decide +kernel
theorem dX11_init_347 : decode cX11_init 347 = .ok (.aload_n 0, 1) := by decide +kernel
theorem dX11_init_348 : decode cX11_init 348 = .ok (.bipush 16, 2) := by decide +kernel
theorem dX11_init_350 : decode cX11_init 350 = .ok (.newarray .int, 2) := by decide +kernel
theorem dX11_init_352 : decode cX11_init 352 = .ok (.putfield 112, 3) := by decide +kernel
theorem dX11_init_355 : decode cX11_init 355 = .ok (.aload_n 0, 1) := by decide +kernel
theorem dX11_init_356 : decode cX11_init 356 = .ok (.iconst 4, 1) := by decide +kernel
theorem dX11_init_357 : decode cX11_init 357 = .ok (.newarray .int, 2) := by decide +kernel
theorem dX11_init_359 : decode cX11_init 359 = .ok (.putfield 115, 3) := by decide +kernel
theorem dX11_init_362 : decode cX11_init 362 = .ok (.aload_n 0, 1) := by decide +kernel
theorem dX11_init_363 : decode cX11_init 363 = .ok (.bipush 40, 2) := by decide +kernel
theorem dX11_init_365 : decode cX11_init 365 = .ok (.newarray .boolean, 2) := by decide +kernel
theorem dX11_init_367 : decode cX11_init 367 = .ok (.putfield 118, 3) := by decide +kernel
theorem dX11_init_370 : decode cX11_init 370 = .ok (.aload_n 0, 1) := by decide +kernel
theorem dX11_init_371 : decode cX11_init 371 = .ok (.bipush 16, 2) := by decide +kernel
theorem dX11_init_373 : decode cX11_init 373 = .ok (.newarray .int, 2) := by decide +kernel
theorem dX11_init_375 : decode cX11_init 375 = .ok (.putfield 121, 3) := by decide +kernel
theorem dX11_init_378 : decode cX11_init 378 = .ok (.aload_n 0, 1) := by decide +kernel
theorem dX11_init_379 : decode cX11_init 379 = .ok (.bipush 16, 2) := by decide +kernel
theorem dX11_init_381 : decode cX11_init 381 = .ok (.newarray .int, 2) := by decide +kernel
theorem dX11_init_383 : decode cX11_init 383 = .ok (.putfield 124, 3) := by decide +kernel
theorem dX11_init_386 : decode cX11_init 386 = .ok (.aload_n 0, 1) := by decide +kernel
theorem dX11_init_387 : decode cX11_init 387 = .ok (.bipush 30, 2) := by decide +kernel
theorem dX11_init_389 : decode cX11_init 389 = .ok (.newarray .int, 2) := by decide +kernel
theorem dX11_init_391 : decode cX11_init 391 = .ok (.putfield 127, 3) := by decide +kernel
theorem dX11_init_394 : decode cX11_init 394 = .ok (.aload_n 0, 1) := by decide +kernel
theorem dX11_init_395 : decode cX11_init 395 = .ok (.bipush 30, 2) := by decide +kernel
theorem dX11_init_397 : decode cX11_init 397 = .ok (.newarray .int, 2) := by decide +kernel
theorem dX11_init_399 : decode cX11_init 399 = .ok (.putfield 130, 3) := by decide +kernel
theorem dX11_init_402 : decode cX11_init 402 = .ok (.aload_n 0, 1) := by decide +kernel
theorem dX11_init_403 : decode cX11_init 403 = .ok (.bipush 30, 2) := by decide +kernel
theorem dX11_init_405 : decode cX11_init 405 = .ok (.newarray .int, 2) := by decide +kernel
theorem dX11_init_407 : decode cX11_init 407 = .ok (.putfield 133, 3) := by decide +kernel
theorem dX11_init_410 : decode cX11_init 410 = .ok (.aload_n 0, 1) := by decide +kernel
theorem dX11_init_411 : decode cX11_init 411 = .ok (.bipush 30, 2) := by decide +kernel
theorem dX11_init_413 : decode cX11_init 413 = .ok (.newarray .int, 2) := by decide +kernel
theorem dX11_init_415 : decode cX11_init 415 = .ok (.putfield 136, 3) := by decide +kernel
theorem dX11_init_418 : decode cX11_init 418 = .ok (.aload_n 0, 1) := by decide +kernel
theorem dX11_init_419 : decode cX11_init 419 = .ok (.bipush 30, 2) := by decide +kernel
theorem dX11_init_421 : decode cX11_init 421 = .ok (.newarray .int, 2) := by decide +kernel
theorem dX11_init_423 : decode cX11_init 423 = .ok (.putfield 139, 3) := by decide +kernel
theorem dX11_init_426 : decode cX11_init 426 = .ok (.aload_n 0, 1) := by decide +kernel
theorem dX11_init_427 : decode cX11_init 427 = .ok (.bipush 30, 2) := by decide +kernel
theorem dX11_init_429 : decode cX11_init 429 = .ok (.newarray .boolean, 2) := by decide +kernel
theorem dX11_init_431 : decode cX11_init 431 = .ok (.putfield 142, 3) := by decide +kernel
theorem dX11_init_434 : decode cX11_init 434 = .ok (.aload_n 0, 1) := by decide +kernel
theorem dX11_init_435 : decode cX11_init 435 = .ok (.bipush 56, 2) := by decide +kernel
theorem dX11_init_437 : decode cX11_init 437 = .ok (.newarray .int, 2) := by decide +kernel
theorem dX11_init_439 : decode cX11_init 439 = .ok (.putfield 145, 3) := by decide +kernel
theorem dX11_init_442 : decode cX11_init 442 = .ok (.aload_n 0, 1) := by decide +kernel
theorem dX11_init_443 : decode cX11_init 443 = .ok (.bipush 56, 2) := by decide +kernel
theorem dX11_init_445 : decode cX11_init 445 = .ok (.newarray .int, 2) := by decide +kernel
theorem dX11_init_447 : decode cX11_init 447 = .ok (.putfield 148, 3) := by decide +kernel
theorem dX11_init_450 : decode cX11_init 450 = .ok (.aload_n 0, 1) := by decide +kernel
theorem dX11_init_451 : decode cX11_init 451 = .ok (.iconst 3, 1) := by decide +kernel
theorem dX11_init_452 : decode cX11_init 452 = .ok (.newarray .boolean, 2) := by decide +kernel
theorem dX11_init_454 : decode cX11_init 454 = .ok (.putfield 151, 3) := by decide +kernel
theorem dX11_init_457 : decode cX11_init 457 = .ok (.aload_n 0, 1) := by decide +kernel
theorem dX11_init_458 : decode cX11_init 458 = .ok (.bipush 54, 2) := by decide +kernel
theorem dX11_init_460 : decode cX11_init 460 = .ok (.newarray .int, 2) := by decide +kernel
theorem dX11_init_462 : decode cX11_init 462 = .ok (.putfield 154, 3) := by decide +kernel
theorem dX11_init_465 : decode cX11_init 465 = .ok (.return_, 1) := by decide +kernel
theorem dX11_feed_0 : decode cX11_feed 0 = .ok (.aload_n 0, 1) := by decide +kernel
theorem dX11_feed_1 : decode cX11_feed 1 = .ok (.getfield 157, 3) := by decide +kernel
theorem dX11_feed_4 : decode cX11_feed 4 = .ok (.bipush 20, 2) := by decide +kernel
theorem dX11_feed_6 : decode cX11_feed 6 = .ok (.iadd, 1) := by decide +kernel
theorem dX11_feed_7 : decode cX11_feed 7 = .ok (.sipush 1600, 3) := by decide +kernel
theorem dX11_feed_10 : decode cX11_feed 10 = .ok (.if_icmp .le 5, 3) := by decide +kernel
theorem dX11_feed_13 : decode cX11_feed 13 = .ok (.iconst (-1), 1) := by decide +kernel
theorem dX11_feed_14 : decode cX11_feed 14 = .ok (.ireturn, 1) := by decide +kernel
theorem dX11_feed_15 : decode cX11_feed 15 = .ok (.aload_n 0, 1) := by decide +kernel
theorem dX11_feed_16 : decode cX11_feed 16 = .ok (.iload_n 1, 1) := by decide +kernel
theorem dX11_feed_17 : decode cX11_feed 17 = .ok (.invokevirtual 160, 3) := by decide +kernel
theorem dX11_feed_20 : decode cX11_feed 20 = .ok (.aload_n 0, 1) := by decide +kernel
theorem dX11_feed_21 : decode cX11_feed 21 = .ok (.iload_n 2, 1) := by decide +kernel
theorem dX11_feed_22 : decode cX11_feed 22 = .ok (.invokevirtual 160, 3) := by decide +kernel
theorem dX11_feed_25 : decode cX11_feed 25 = .ok (.aload_n 0, 1) := by decide +kernel
theorem dX11_feed_26 : decode cX11_feed 26 = .ok (.iload_n 3, 1) := by decide +kernel
theorem dX11_feed_27 : decode cX11_feed 27 = .ok (.invokevirtual 160, 3) := by decide +kernel
theorem dX11_feed_30 : decode cX11_feed 30 = .ok (.aload_n 0, 1) := by decide +kernel
theorem dX11_feed_31 : decode cX11_feed 31 = .ok (.iload 4, 2) := by decide +kernel
theorem dX11_feed_33 : decode cX11_feed 33 = .ok (.invokevirtual 160, 3) := by decide +kernel
theorem dX11_feed_36 : decode cX11_feed 36 = .ok (.aload_n 0, 1) := by decide +kernel
theorem dX11_feed_37 : decode cX11_feed 37 = .ok (.iload 5, 2) := by decide +kernel
theorem dX11_feed_39 : decode cX11_feed 39 = .ok (.invokevirtual 160, 3) := by decide +kernel
theorem dX11_feed_42 : decode cX11_feed 42 = .ok (.aload_n 0, 1) := by decide +kernel
theorem dX11_feed_43 : decode cX11_feed 43 = .ok (.getfield 157, 3) := by decide +kernel
theorem dX11_feed_46 : decode cX11_feed 46 = .ok (.ireturn, 1) := by decide +kernel
theorem dX11_four_0 : decode cX11_four 0 = .ok (.bipush 24, 2) := by decide +kernel
theorem dX11_four_2 : decode cX11_four 2 = .ok (.istore_n 2, 1) := by decide +kernel
theorem dX11_four_3 : decode cX11_four 3 = .ok (.iload_n 2, 1) := by decide +kernel
theorem dX11_four_4 : decode cX11_four 4 = .ok (.ifCond .lt 35, 3) := by decide +kernel
theorem dX11_four_7 : decode cX11_four 7 = .ok (.aload_n 0, 1) := by decide +kernel
theorem dX11_four_8 : decode cX11_four 8 = .ok (.getfield 7, 3) := by decide +kernel
theorem dX11_four_11 : decode cX11_four 11 = .ok (.aload_n 0, 1) := by decide +kernel
theorem dX11_four_12 : decode cX11_four 12 = .ok (.getfield 157, 3) := by decide +kernel
theorem dX11_four_15 : decode cX11_four 15 = .ok (.iload_n 1, 1) := by decide +kernel
theorem dX11_four_16 : decode cX11_four 16 = .ok (.iload_n 2, 1) := by decide +kernel
theorem dX11_four_17 : decode cX11_four 17 = .ok (.ishr, 1) := by decide +kernel
theorem dX11_four_18 : decode cX11_four 18 = .ok (.sipush 255, 3) := by decide +kernel
theorem dX11_four_21 : decode cX11_four 21 = .ok (.iand, 1) := by decide +kernel
theorem dX11_four_22 : decode cX11_four 22 = .ok (.iastore, 1) := by decide +kernel
theorem dX11_four_23 : decode cX11_four 23 = .ok (.aload_n 0, 1) := by decide +kernel
theorem dX11_four_24 : decode cX11_four 24 = .ok (.dup, 1) := by decide +kernel
theorem dX11_four_25 : decode cX11_four 25 = .ok (.getfield 157, 3) := by decide +kernel
theorem dX11_four_28 : decode cX11_four 28 = .ok (.iconst 1, 1) := by decide +kernel
theorem dX11_four_29 : decode cX11_four 29 = .ok (.iadd, 1) := by decide +kernel
theorem dX11_four_30 : decode cX11_four 30 = .ok (.putfield 157, 3) := by decide +kernel
theorem dX11_four_33 : decode cX11_four 33 = .ok (.iinc 2 (-8), 3) := by decide +kernel
theorem dX11_four_36 : decode cX11_four 36 = .ok (.goto (-33), 3) := by decide +kernel
theorem dX11_four_39 : decode cX11_four 39 = .ok (.return_, 1) := by decide +kernel
theorem dX11_end_0 : decode cX11_end 0 = .ok (.iload_n 1, 1) := by decide +kernel
theorem dX11_end_1 : decode cX11_end 1 = .ok (.ifCond .lt 11, 3) := by decide +kernel
theorem dX11_end_4 : decode cX11_end 4 = .ok (.iload_n 1, 1) := by decide +kernel
theorem dX11_end_5 : decode cX11_end 5 = .ok (.aload_n 0, 1) := by decide +kernel
theorem dX11_end_6 : decode cX11_end 6 = .ok (.getfield 157, 3) := by decide +kernel
theorem dX11_end_9 : decode cX11_end 9 = .ok (.if_icmp .le 5, 3) := by decide +kernel
theorem dX11_end_12 : decode cX11_end 12 = .ok (.iconst (-1), 1) := by decide +kernel
theorem dX11_end_13 : decode cX11_end 13 = .ok (.ireturn, 1) := by decide +kernel
theorem dX11_end_14 : decode cX11_end 14 = .ok (.aload_n 0, 1) := by decide +kernel
theorem dX11_end_15 : decode cX11_end 15 = .ok (.iload_n 1, 1) := by decide +kernel
theorem dX11_end_16 : decode cX11_end 16 = .ok (.putfield 157, 3) := by decide +kernel
theorem dX11_end_19 : decode cX11_end 19 = .ok (.iload_n 1, 1) := by decide +kernel
theorem dX11_end_20 : decode cX11_end 20 = .ok (.ireturn, 1) := by decide +kernel
theorem dX11_here_0 : decode cX11_here 0 = .ok (.aload_n 0, 1) := by decide +kernel
theorem dX11_here_1 : decode cX11_here 1 = .ok (.getfield 164, 3) := by decide +kernel
theorem dX11_here_4 : decode cX11_here 4 = .ok (.iload_n 1, 1) := by decide +kernel
theorem dX11_here_5 : decode cX11_here 5 = .ok (.iadd, 1) := by decide +kernel
theorem dX11_here_6 : decode cX11_here 6 = .ok (.aload_n 0, 1) := by decide +kernel
theorem dX11_here_7 : decode cX11_here 7 = .ok (.getfield 167, 3) := by decide +kernel
theorem dX11_here_10 : decode cX11_here 10 = .ok (.if_icmp .ge 17, 3) := by decide +kernel
theorem dX11_here_13 : decode cX11_here 13 = .ok (.aload_n 0, 1) := by decide +kernel
theorem dX11_here_14 : decode cX11_here 14 = .ok (.getfield 7, 3) := by decide +kernel
theorem dX11_here_17 : decode cX11_here 17 = .ok (.aload_n 0, 1) := by decide +kernel
theorem dX11_here_18 : decode cX11_here 18 = .ok (.getfield 164, 3) := by decide +kernel
theorem dX11_here_21 : decode cX11_here 21 = .ok (.iload_n 1, 1) := by decide +kernel
theorem dX11_here_22 : decode cX11_here 22 = .ok (.iadd, 1) := by decide +kernel
theorem dX11_here_23 : decode cX11_here 23 = .ok (.iaload, 1) := by decide +kernel
theorem dX11_here_24 : decode cX11_here 24 = .ok (.goto 4, 3) := by decide +kernel
theorem dX11_here_27 : decode cX11_here 27 = .ok (.iconst (-1), 1) := by decide +kernel
theorem dX11_here_28 : decode cX11_here 28 = .ok (.ireturn, 1) := by decide +kernel
theorem dX11_isLetter_0 : decode cX11_isLetter 0 = .ok (.iload_n 0, 1) := by decide +kernel
theorem dX11_isLetter_1 : decode cX11_isLetter 1 = .ok (.bipush 97, 2) := by decide +kernel
theorem dX11_isLetter_3 : decode cX11_isLetter 3 = .ok (.if_icmp .lt 13, 3) := by decide +kernel
theorem dX11_isLetter_6 : decode cX11_isLetter 6 = .ok (.iload_n 0, 1) := by decide +kernel
theorem dX11_isLetter_7 : decode cX11_isLetter 7 = .ok (.bipush 122, 2) := by decide +kernel
theorem dX11_isLetter_9 : decode cX11_isLetter 9 = .ok (.if_icmp .gt 7, 3) := by decide +kernel
theorem dX11_isLetter_12 : decode cX11_isLetter 12 = .ok (.iconst 1, 1) := by decide +kernel
theorem dX11_isLetter_13 : decode cX11_isLetter 13 = .ok (.goto 4, 3) := by decide +kernel
theorem dX11_isLetter_16 : decode cX11_isLetter 16 = .ok (.iconst 0, 1) := by decide +kernel
theorem dX11_isLetter_17 : decode cX11_isLetter 17 = .ok (.ireturn, 1) := by decide +kernel
theorem dX11_isDigit_0 : decode cX11_isDigit 0 = .ok (.iload_n 0, 1) := by decide +kernel
theorem dX11_isDigit_1 : decode cX11_isDigit 1 = .ok (.bipush 48, 2) := by decide +kernel
theorem dX11_isDigit_3 : decode cX11_isDigit 3 = .ok (.if_icmp .lt 13, 3) := by decide +kernel
theorem dX11_isDigit_6 : decode cX11_isDigit 6 = .ok (.iload_n 0, 1) := by decide +kernel
theorem dX11_isDigit_7 : decode cX11_isDigit 7 = .ok (.bipush 57, 2) := by decide +kernel
theorem dX11_isDigit_9 : decode cX11_isDigit 9 = .ok (.if_icmp .gt 7, 3) := by decide +kernel
theorem dX11_isDigit_12 : decode cX11_isDigit 12 = .ok (.iconst 1, 1) := by decide +kernel
theorem dX11_isDigit_13 : decode cX11_isDigit 13 = .ok (.goto 4, 3) := by decide +kernel
theorem dX11_isDigit_16 : decode cX11_isDigit 16 = .ok (.iconst 0, 1) := by decide +kernel
theorem dX11_isDigit_17 : decode cX11_isDigit 17 = .ok (.ireturn, 1) := by decide +kernel
theorem dX11_isSign_0 : decode cX11_isSign 0 = .ok (.iload_n 0, 1) := by decide +kernel
theorem dX11_isSign_1 : decode cX11_isSign 1 = .ok (.bipush 59, 2) := by decide +kernel
theorem dX11_isSign_3 : decode cX11_isSign 3 = .ok (.if_icmp .eq 63, 3) := by decide +kernel
theorem dX11_isSign_6 : decode cX11_isSign 6 = .ok (.iload_n 0, 1) := by decide +kernel
theorem dX11_isSign_7 : decode cX11_isSign 7 = .ok (.bipush 40, 2) := by decide +kernel
theorem dX11_isSign_9 : decode cX11_isSign 9 = .ok (.if_icmp .eq 57, 3) := by decide +kernel
theorem dX11_isSign_12 : decode cX11_isSign 12 = .ok (.iload_n 0, 1) := by decide +kernel
theorem dX11_isSign_13 : decode cX11_isSign 13 = .ok (.bipush 41, 2) := by decide +kernel
theorem dX11_isSign_15 : decode cX11_isSign 15 = .ok (.if_icmp .eq 51, 3) := by decide +kernel
theorem dX11_isSign_18 : decode cX11_isSign 18 = .ok (.iload_n 0, 1) := by decide +kernel
theorem dX11_isSign_19 : decode cX11_isSign 19 = .ok (.bipush 60, 2) := by decide +kernel
