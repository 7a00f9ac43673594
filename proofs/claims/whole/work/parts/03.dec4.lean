theorem dX11_movesOf_7 : decode cX11_movesOf 7 = .ok (.aload_n 0, 1) := by decide +kernel
theorem dX11_movesOf_8 : decode cX11_movesOf 8 = .ok (.getfield 398, 3) := by decide +kernel
theorem dX11_movesOf_11 : decode cX11_movesOf 11 = .ok (.if_icmp .ge 50, 3) := by decide +kernel
theorem dX11_movesOf_14 : decode cX11_movesOf 14 = .ok (.iload_n 3, 1) := by decide +kernel
theorem dX11_movesOf_15 : decode cX11_movesOf 15 = .ok (.aload_n 0, 1) := by decide +kernel
theorem dX11_movesOf_16 : decode cX11_movesOf 16 = .ok (.iload_n 1, 1) := by decide +kernel
theorem dX11_movesOf_17 : decode cX11_movesOf 17 = .ok (.iload 4, 2) := by decide +kernel
theorem dX11_movesOf_19 : decode cX11_movesOf 19 = .ok (.invokevirtual 427, 3) := by decide +kernel
theorem dX11_movesOf_22 : decode cX11_movesOf 22 = .ok (.ifCond .eq 24, 3) := by decide +kernel
theorem dX11_movesOf_25 : decode cX11_movesOf 25 = .ok (.iload_n 2, 1) := by decide +kernel
theorem dX11_movesOf_26 : decode cX11_movesOf 26 = .ok (.bipush (-2), 2) := by decide +kernel
theorem dX11_movesOf_28 : decode cX11_movesOf 28 = .ok (.if_icmp .eq 14, 3) := by decide +kernel
theorem dX11_movesOf_31 : decode cX11_movesOf 31 = .ok (.aload_n 0, 1) := by decide +kernel
theorem dX11_movesOf_32 : decode cX11_movesOf 32 = .ok (.getfield 75, 3) := by decide +kernel
theorem dX11_movesOf_35 : decode cX11_movesOf 35 = .ok (.iload 4, 2) := by decide +kernel
theorem dX11_movesOf_37 : decode cX11_movesOf 37 = .ok (.iaload, 1) := by decide +kernel
theorem dX11_movesOf_38 : decode cX11_movesOf 38 = .ok (.iload_n 2, 1) := by decide +kernel
theorem dX11_movesOf_39 : decode cX11_movesOf 39 = .ok (.if_icmp .ne 7, 3) := by decide +kernel
theorem dX11_movesOf_42 : decode cX11_movesOf 42 = .ok (.iconst 1, 1) := by decide +kernel
theorem dX11_movesOf_43 : decode cX11_movesOf 43 = .ok (.goto 4, 3) := by decide +kernel
theorem dX11_movesOf_46 : decode cX11_movesOf 46 = .ok (.iconst 0, 1) := by decide +kernel
theorem dX11_movesOf_47 : decode cX11_movesOf 47 = .ok (.invokestatic 325, 3) := by decide +kernel
theorem dX11_movesOf_50 : decode cX11_movesOf 50 = .ok (.iload 4, 2) := by decide +kernel
theorem dX11_movesOf_52 : decode cX11_movesOf 52 = .ok (.ishl, 1) := by decide +kernel
theorem dX11_movesOf_53 : decode cX11_movesOf 53 = .ok (.ior, 1) := by decide +kernel
theorem dX11_movesOf_54 : decode cX11_movesOf 54 = .ok (.istore_n 3, 1) := by decide +kernel
theorem dX11_movesOf_55 : decode cX11_movesOf 55 = .ok (.iinc 4 1, 3) := by decide +kernel
theorem dX11_movesOf_58 : decode cX11_movesOf 58 = .ok (.goto (-53), 3) := by decide +kernel
theorem dX11_movesOf_61 : decode cX11_movesOf 61 = .ok (.iload_n 3, 1) := by decide +kernel
theorem dX11_movesOf_62 : decode cX11_movesOf 62 = .ok (.ireturn, 1) := by decide +kernel
theorem dX11_tribe_0 : decode cX11_tribe 0 = .ok (.aload_n 0, 1) := by decide +kernel
theorem dX11_tribe_1 : decode cX11_tribe 1 = .ok (.iload_n 1, 1) := by decide +kernel
theorem dX11_tribe_2 : decode cX11_tribe 2 = .ok (.invokevirtual 431, 3) := by decide +kernel
theorem dX11_tribe_5 : decode cX11_tribe 5 = .ok (.ifCond .ne 5, 3) := by decide +kernel
theorem dX11_tribe_8 : decode cX11_tribe 8 = .ok (.iconst (-1), 1) := by decide +kernel
theorem dX11_tribe_9 : decode cX11_tribe 9 = .ok (.ireturn, 1) := by decide +kernel
theorem dX11_tribe_10 : decode cX11_tribe 10 = .ok (.iload_n 2, 1) := by decide +kernel
theorem dX11_tribe_11 : decode cX11_tribe 11 = .ok (.tableswitch 118 0 6 #[41, 48, 55, 65, 74, 84, 92], 41) := by decide +kernel
theorem dX11_tribe_52 : decode cX11_tribe 52 = .ok (.aload_n 0, 1) := by decide +kernel
theorem dX11_tribe_53 : decode cX11_tribe 53 = .ok (.getfield 48, 3) := by decide +kernel
theorem dX11_tribe_56 : decode cX11_tribe 56 = .ok (.iload_n 1, 1) := by decide +kernel
theorem dX11_tribe_57 : decode cX11_tribe 57 = .ok (.iaload, 1) := by decide +kernel
theorem dX11_tribe_58 : decode cX11_tribe 58 = .ok (.ireturn, 1) := by decide +kernel
theorem dX11_tribe_59 : decode cX11_tribe 59 = .ok (.aload_n 0, 1) := by decide +kernel
theorem dX11_tribe_60 : decode cX11_tribe 60 = .ok (.getfield 51, 3) := by decide +kernel
theorem dX11_tribe_63 : decode cX11_tribe 63 = .ok (.iload_n 1, 1) := by decide +kernel
theorem dX11_tribe_64 : decode cX11_tribe 64 = .ok (.iaload, 1) := by decide +kernel
theorem dX11_tribe_65 : decode cX11_tribe 65 = .ok (.ireturn, 1) := by decide +kernel
theorem dX11_tribe_66 : decode cX11_tribe 66 = .ok (.aload_n 0, 1) := by decide +kernel
theorem dX11_tribe_67 : decode cX11_tribe 67 = .ok (.getfield 94, 3) := by decide +kernel
theorem dX11_tribe_70 : decode cX11_tribe 70 = .ok (.iload_n 1, 1) := by decide +kernel
theorem dX11_tribe_71 : decode cX11_tribe 71 = .ok (.baload, 1) := by decide +kernel
theorem dX11_tribe_72 : decode cX11_tribe 72 = .ok (.invokestatic 325, 3) := by decide +kernel
theorem dX11_tribe_75 : decode cX11_tribe 75 = .ok (.ireturn, 1) := by decide +kernel
theorem dX11_tribe_76 : decode cX11_tribe 76 = .ok (.aload_n 0, 1) := by decide +kernel
theorem dX11_tribe_77 : decode cX11_tribe 77 = .ok (.getfield 100, 3) := by decide +kernel
theorem dX11_tribe_80 : decode cX11_tribe 80 = .ok (.iconst 4, 1) := by decide +kernel
theorem dX11_tribe_81 : decode cX11_tribe 81 = .ok (.iload_n 1, 1) := by decide +kernel
theorem dX11_tribe_82 : decode cX11_tribe 82 = .ok (.iadd, 1) := by decide +kernel
theorem dX11_tribe_83 : decode cX11_tribe 83 = .ok (.iaload, 1) := by decide +kernel
theorem dX11_tribe_84 : decode cX11_tribe 84 = .ok (.ireturn, 1) := by decide +kernel
theorem dX11_tribe_85 : decode cX11_tribe 85 = .ok (.aload_n 0, 1) := by decide +kernel
theorem dX11_tribe_86 : decode cX11_tribe 86 = .ok (.getfield 100, 3) := by decide +kernel
theorem dX11_tribe_89 : decode cX11_tribe 89 = .ok (.bipush 9, 2) := by decide +kernel
theorem dX11_tribe_91 : decode cX11_tribe 91 = .ok (.iload_n 1, 1) := by decide +kernel
theorem dX11_tribe_92 : decode cX11_tribe 92 = .ok (.iadd, 1) := by decide +kernel
theorem dX11_tribe_93 : decode cX11_tribe 93 = .ok (.iaload, 1) := by decide +kernel
theorem dX11_tribe_94 : decode cX11_tribe 94 = .ok (.ireturn, 1) := by decide +kernel
theorem dX11_tribe_95 : decode cX11_tribe 95 = .ok (.aload_n 0, 1) := by decide +kernel
theorem dX11_tribe_96 : decode cX11_tribe 96 = .ok (.iload_n 1, 1) := by decide +kernel
theorem dX11_tribe_97 : decode cX11_tribe 97 = .ok (.bipush (-2), 2) := by decide +kernel
theorem dX11_tribe_99 : decode cX11_tribe 99 = .ok (.invokevirtual 434, 3) := by decide +kernel
theorem dX11_tribe_102 : decode cX11_tribe 102 = .ok (.ireturn, 1) := by decide +kernel
theorem dX11_tribe_103 : decode cX11_tribe 103 = .ok (.iload_n 1, 1) := by decide +kernel
theorem dX11_tribe_104 : decode cX11_tribe 104 = .ok (.aload_n 0, 1) := by decide +kernel
theorem dX11_tribe_105 : decode cX11_tribe 105 = .ok (.getfield 100, 3) := by decide +kernel
theorem dX11_tribe_108 : decode cX11_tribe 108 = .ok (.iconst 1, 1) := by decide +kernel
theorem dX11_tribe_109 : decode cX11_tribe 109 = .ok (.iaload, 1) := by decide +kernel
theorem dX11_tribe_110 : decode cX11_tribe 110 = .ok (.if_icmp .ne 7, 3) := by decide +kernel
theorem dX11_tribe_113 : decode cX11_tribe 113 = .ok (.iconst 0, 1) := by decide +kernel
theorem dX11_tribe_114 : decode cX11_tribe 114 = .ok (.goto 14, 3) := by decide +kernel
theorem dX11_tribe_117 : decode cX11_tribe 117 = .ok (.aload_n 0, 1) := by decide +kernel
theorem dX11_tribe_118 : decode cX11_tribe 118 = .ok (.iload_n 1, 1) := by decide +kernel
theorem dX11_tribe_119 : decode cX11_tribe 119 = .ok (.aload_n 0, 1) := by decide +kernel
theorem dX11_tribe_120 : decode cX11_tribe 120 = .ok (.getfield 100, 3) := by decide +kernel
theorem dX11_tribe_123 : decode cX11_tribe 123 = .ok (.iconst 0, 1) := by decide +kernel
theorem dX11_tribe_124 : decode cX11_tribe 124 = .ok (.iaload, 1) := by decide +kernel
theorem dX11_tribe_125 : decode cX11_tribe 125 = .ok (.invokevirtual 434, 3) := by decide +kernel
theorem dX11_tribe_128 : decode cX11_tribe 128 = .ok (.ireturn, 1) := by decide +kernel
theorem dX11_tribe_129 : decode cX11_tribe 129 = .ok (.iconst (-1), 1) := by decide +kernel
theorem dX11_tribe_130 : decode cX11_tribe 130 = .ok (.ireturn, 1) := by decide +kernel
theorem dX11_whoCan_0 : decode cX11_whoCan 0 = .ok (.iconst 0, 1) := by decide +kernel
theorem dX11_whoCan_1 : decode cX11_whoCan 1 = .ok (.istore_n 2, 1) := by decide +kernel
theorem dX11_whoCan_2 : decode cX11_whoCan 2 = .ok (.iconst 0, 1) := by decide +kernel
theorem dX11_whoCan_3 : decode cX11_whoCan 3 = .ok (.istore_n 3, 1) := by decide +kernel
theorem dX11_whoCan_4 : decode cX11_whoCan 4 = .ok (.iload_n 3, 1) := by decide +kernel
theorem dX11_whoCan_5 : decode cX11_whoCan 5 = .ok (.aload_n 0, 1) := by decide +kernel
theorem dX11_whoCan_6 : decode cX11_whoCan 6 = .ok (.getfield 395, 3) := by decide +kernel
theorem dX11_whoCan_9 : decode cX11_whoCan 9 = .ok (.if_icmp .ge 23, 3) := by decide +kernel
theorem dX11_whoCan_12 : decode cX11_whoCan 12 = .ok (.iload_n 2, 1) := by decide +kernel
theorem dX11_whoCan_13 : decode cX11_whoCan 13 = .ok (.aload_n 0, 1) := by decide +kernel
theorem dX11_whoCan_14 : decode cX11_whoCan 14 = .ok (.iload_n 3, 1) := by decide +kernel
theorem dX11_whoCan_15 : decode cX11_whoCan 15 = .ok (.iload_n 1, 1) := by decide +kernel
theorem dX11_whoCan_16 : decode cX11_whoCan 16 = .ok (.invokevirtual 427, 3) := by decide +kernel
theorem dX11_whoCan_19 : decode cX11_whoCan 19 = .ok (.invokestatic 325, 3) := by decide +kernel
theorem dX11_whoCan_22 : decode cX11_whoCan 22 = .ok (.iload_n 3, 1) := by decide +kernel
theorem dX11_whoCan_23 : decode cX11_whoCan 23 = .ok (.ishl, 1) := by decide +kernel
theorem dX11_whoCan_24 : decode cX11_whoCan 24 = .ok (.ior, 1) := by decide +kernel
theorem dX11_whoCan_25 : decode cX11_whoCan 25 = .ok (.istore_n 2, 1) := by decide +kernel
theorem dX11_whoCan_26 : decode cX11_whoCan 26 = .ok (.iinc 3 1, 3) := by decide +kernel
theorem dX11_whoCan_29 : decode cX11_whoCan 29 = .ok (.goto (-25), 3) := by decide +kernel
theorem dX11_whoCan_32 : decode cX11_whoCan 32 = .ok (.iload_n 2, 1) := by decide +kernel
theorem dX11_whoCan_33 : decode cX11_whoCan 33 = .ok (.ireturn, 1) := by decide +kernel
theorem dX11_move_0 : decode cX11_move 0 = .ok (.aload_n 0, 1) := by decide +kernel
theorem dX11_move_1 : decode cX11_move 1 = .ok (.iload_n 1, 1) := by decide +kernel
theorem dX11_move_2 : decode cX11_move 2 = .ok (.invokevirtual 437, 3) := by decide +kernel
theorem dX11_move_5 : decode cX11_move 5 = .ok (.ifCond .ne 6, 3) := by decide +kernel
theorem dX11_move_8 : decode cX11_move 8 = .ok (.bipush (-2), 2) := by decide +kernel
theorem dX11_move_10 : decode cX11_move 10 = .ok (.ireturn, 1) := by decide +kernel
theorem dX11_move_11 : decode cX11_move 11 = .ok (.iload_n 2, 1) := by decide +kernel
theorem dX11_move_12 : decode cX11_move 12 = .ok (.tableswitch 81 0 5 #[40, 47, 54, 61, 68, 75], 40) := by decide +kernel
theorem dX11_move_52 : decode cX11_move 52 = .ok (.aload_n 0, 1) := by decide +kernel
theorem dX11_move_53 : decode cX11_move 53 = .ok (.getfield 75, 3) := by decide +kernel
theorem dX11_move_56 : decode cX11_move 56 = .ok (.iload_n 1, 1) := by decide +kernel
theorem dX11_move_57 : decode cX11_move 57 = .ok (.iaload, 1) := by decide +kernel
theorem dX11_move_58 : decode cX11_move 58 = .ok (.ireturn, 1) := by decide +kernel
theorem dX11_move_59 : decode cX11_move 59 = .ok (.aload_n 0, 1) := by decide +kernel
theorem dX11_move_60 : decode cX11_move 60 = .ok (.getfield 78, 3) := by decide +kernel
theorem dX11_move_63 : decode cX11_move 63 = .ok (.iload_n 1, 1) := by decide +kernel
theorem dX11_move_64 : decode cX11_move 64 = .ok (.iaload, 1) := by decide +kernel
theorem dX11_move_65 : decode cX11_move 65 = .ok (.ireturn, 1) := by decide +kernel
theorem dX11_move_66 : decode cX11_move 66 = .ok (.aload_n 0, 1) := by decide +kernel
theorem dX11_move_67 : decode cX11_move 67 = .ok (.getfield 81, 3) := by decide +kernel
theorem dX11_move_70 : decode cX11_move 70 = .ok (.iload_n 1, 1) := by decide +kernel
theorem dX11_move_71 : decode cX11_move 71 = .ok (.iaload, 1) := by decide +kernel
theorem dX11_move_72 : decode cX11_move 72 = .ok (.ireturn, 1) := by decide +kernel
theorem dX11_move_73 : decode cX11_move 73 = .ok (.aload_n 0, 1) := by decide +kernel
theorem dX11_move_74 : decode cX11_move 74 = .ok (.getfield 84, 3) := by decide +kernel
theorem dX11_move_77 : decode cX11_move 77 = .ok (.iload_n 1, 1) := by decide +kernel
theorem dX11_move_78 : decode cX11_move 78 = .ok (.iaload, 1) := by decide +kernel
theorem dX11_move_79 : decode cX11_move 79 = .ok (.ireturn, 1) := by decide +kernel
theorem dX11_move_80 : decode cX11_move 80 = .ok (.aload_n 0, 1) := by decide +kernel
theorem dX11_move_81 : decode cX11_move 81 = .ok (.getfield 87, 3) := by decide +kernel
theorem dX11_move_84 : decode cX11_move 84 = .ok (.iload_n 1, 1) := by decide +kernel
theorem dX11_move_85 : decode cX11_move 85 = .ok (.iaload, 1) := by decide +kernel
theorem dX11_move_86 : decode cX11_move 86 = .ok (.ireturn, 1) := by decide +kernel
theorem dX11_move_87 : decode cX11_move 87 = .ok (.aload_n 0, 1) := by decide +kernel
theorem dX11_move_88 : decode cX11_move 88 = .ok (.iload_n 1, 1) := by decide +kernel
theorem dX11_move_89 : decode cX11_move 89 = .ok (.invokevirtual 440, 3) := by decide +kernel
theorem dX11_move_92 : decode cX11_move 92 = .ok (.ireturn, 1) := by decide +kernel
theorem dX11_move_93 : decode cX11_move 93 = .ok (.bipush (-2), 2) := by decide +kernel
theorem dX11_move_95 : decode cX11_move 95 = .ok (.ireturn, 1) := by decide +kernel
theorem dX11_worth_0 : decode cX11_worth 0 = .ok (.aload_n 0, 1) := by decide +kernel
theorem dX11_worth_1 : decode cX11_worth 1 = .ok (.iload_n 1, 1) := by decide +kernel
theorem dX11_worth_2 : decode cX11_worth 2 = .ok (.invokevirtual 431, 3) := by decide +kernel
theorem dX11_worth_5 : decode cX11_worth 5 = .ok (.ifCond .eq 20, 3) := by decide +kernel
theorem dX11_worth_8 : decode cX11_worth 8 = .ok (.aload_n 0, 1) := by decide +kernel
theorem dX11_worth_9 : decode cX11_worth 9 = .ok (.iload_n 2, 1) := by decide +kernel
theorem dX11_worth_10 : decode cX11_worth 10 = .ok (.invokevirtual 443, 3) := by decide +kernel
theorem dX11_worth_13 : decode cX11_worth 13 = .ok (.ifCond .eq 12, 3) := by decide +kernel
theorem dX11_worth_16 : decode cX11_worth 16 = .ok (.aload_n 0, 1) := by decide +kernel
theorem dX11_worth_17 : decode cX11_worth 17 = .ok (.iload_n 1, 1) := by decide +kernel
theorem dX11_worth_18 : decode cX11_worth 18 = .ok (.iload_n 2, 1) := by decide +kernel
theorem dX11_worth_19 : decode cX11_worth 19 = .ok (.invokevirtual 446, 3) := by decide +kernel
theorem dX11_worth_22 : decode cX11_worth 22 = .ok (.goto 4, 3) := by decide +kernel
theorem dX11_worth_25 : decode cX11_worth 25 = .ok (.iconst (-1), 1) := by decide +kernel
theorem dX11_worth_26 : decode cX11_worth 26 = .ok (.ireturn, 1) := by decide +kernel
theorem dX11_slip_0 : decode cX11_slip 0 = .ok (.aload_n 0, 1) := by decide +kernel
theorem dX11_slip_1 : decode cX11_slip 1 = .ok (.iload_n 1, 1) := by decide +kernel
theorem dX11_slip_2 : decode cX11_slip 2 = .ok (.invokevirtual 431, 3) := by decide +kernel
theorem dX11_slip_5 : decode cX11_slip 5 = .ok (.ifCond .eq 20, 3) := by decide +kernel
theorem dX11_slip_8 : decode cX11_slip 8 = .ok (.aload_n 0, 1) := by decide +kernel
theorem dX11_slip_9 : decode cX11_slip 9 = .ok (.iload_n 2, 1) := by decide +kernel
theorem dX11_slip_10 : decode cX11_slip 10 = .ok (.invokevirtual 437, 3) := by decide +kernel
theorem dX11_slip_13 : decode cX11_slip 13 = .ok (.ifCond .eq 12, 3) := by decide +kernel
theorem dX11_slip_16 : decode cX11_slip 16 = .ok (.aload_n 0, 1) := by decide +kernel
theorem dX11_slip_17 : decode cX11_slip 17 = .ok (.iload_n 1, 1) := by decide +kernel
theorem dX11_slip_18 : decode cX11_slip 18 = .ok (.iload_n 2, 1) := by decide +kernel
theorem dX11_slip_19 : decode cX11_slip 19 = .ok (.invokevirtual 449, 3) := by decide +kernel
theorem dX11_slip_22 : decode cX11_slip 22 = .ok (.goto 4, 3) := by decide +kernel
theorem dX11_slip_25 : decode cX11_slip 25 = .ok (.iconst (-1), 1) := by decide +kernel
theorem dX11_slip_26 : decode cX11_slip 26 = .ok (.ireturn, 1) := by decide +kernel
theorem dX11_act_0 : decode cX11_act 0 = .ok (.aload_n 0, 1) := by decide +kernel
theorem dX11_act_1 : decode cX11_act 1 = .ok (.getfield 404, 3) := by decide +kernel
theorem dX11_act_4 : decode cX11_act 4 = .ok (.bipush 40, 2) := by decide +kernel
theorem dX11_act_6 : decode cX11_act 6 = .ok (.if_icmp .ne 43, 3) := by decide +kernel
theorem dX11_act_9 : decode cX11_act 9 = .ok (.iconst 0, 1) := by decide +kernel
theorem dX11_act_10 : decode cX11_act 10 = .ok (.istore_n 1, 1) := by decide +kernel
theorem dX11_act_11 : decode cX11_act 11 = .ok (.iload_n 1, 1) := by decide +kernel
theorem dX11_act_12 : decode cX11_act 12 = .ok (.sipush 702, 3) := by decide +kernel
theorem dX11_act_15 : decode cX11_act 15 = .ok (.if_icmp .ge 24, 3) := by decide +kernel
theorem dX11_act_18 : decode cX11_act 18 = .ok (.aload_n 0, 1) := by decide +kernel
theorem dX11_act_19 : decode cX11_act 19 = .ok (.getfield 106, 3) := by decide +kernel
theorem dX11_act_22 : decode cX11_act 22 = .ok (.iload_n 1, 1) := by decide +kernel
theorem dX11_act_23 : decode cX11_act 23 = .ok (.aload_n 0, 1) := by decide +kernel
theorem dX11_act_24 : decode cX11_act 24 = .ok (.getfield 106, 3) := by decide +kernel
theorem dX11_act_27 : decode cX11_act 27 = .ok (.bipush 18, 2) := by decide +kernel
theorem dX11_act_29 : decode cX11_act 29 = .ok (.iload_n 1, 1) := by decide +kernel
theorem dX11_act_30 : decode cX11_act 30 = .ok (.iadd, 1) := by decide +kernel
theorem dX11_act_31 : decode cX11_act 31 = .ok (.iaload, 1) := by decide +kernel
theorem dX11_act_32 : decode cX11_act 32 = .ok (.iastore, 1) := by decide +kernel
theorem dX11_act_33 : decode cX11_act 33 = .ok (.iinc 1 1, 3) := by decide +kernel
theorem dX11_act_36 : decode cX11_act 36 = .ok (.goto (-25), 3) := by decide +kernel
theorem dX11_act_39 : decode cX11_act 39 = .ok (.aload_n 0, 1) := by decide +kernel
theorem dX11_act_40 : decode cX11_act 40 = .ok (.dup, 1) := by decide +kernel
theorem dX11_act_41 : decode cX11_act 41 = .ok (.getfield 404, 3) := by decide +kernel
theorem dX11_act_44 : decode cX11_act 44 = .ok (.iconst 1, 1) := by decide +kernel
theorem dX11_act_45 : decode cX11_act 45 = .ok (.isub, 1) := by decide +kernel
theorem dX11_act_46 : decode cX11_act 46 = .ok (.putfield 404, 3) := by decide +kernel
theorem dX11_act_49 : decode cX11_act 49 = .ok (.iconst 0, 1) := by decide +kernel
theorem dX11_act_50 : decode cX11_act 50 = .ok (.istore_n 1, 1) := by decide +kernel
theorem dX11_act_51 : decode cX11_act 51 = .ok (.iload_n 1, 1) := by decide +kernel
theorem dX11_act_52 : decode cX11_act 52 = .ok (.bipush 18, 2) := by decide +kernel
theorem dX11_act_54 : decode cX11_act 54 = .ok (.if_icmp .ge 29, 3) := by decide +kernel
theorem dX11_act_57 : decode cX11_act 57 = .ok (.aload_n 0, 1) := by decide +kernel
theorem dX11_act_58 : decode cX11_act 58 = .ok (.getfield 106, 3) := by decide +kernel
theorem dX11_act_61 : decode cX11_act 61 = .ok (.bipush 18, 2) := by decide +kernel
theorem dX11_act_63 : decode cX11_act 63 = .ok (.aload_n 0, 1) := by decide +kernel
theorem dX11_act_64 : decode cX11_act 64 = .ok (.getfield 404, 3) := by decide +kernel
theorem dX11_act_67 : decode cX11_act 67 = .ok (.imul, 1) := by decide +kernel
theorem dX11_act_68 : decode cX11_act 68 = .ok (.iload_n 1, 1) := by decide +kernel
theorem dX11_act_69 : decode cX11_act 69 = .ok (.iadd, 1) := by decide +kernel
theorem dX11_act_70 : decode cX11_act 70 = .ok (.aload_n 0, 1) := by decide +kernel
theorem dX11_act_71 : decode cX11_act 71 = .ok (.getfield 100, 3) := by decide +kernel
theorem dX11_act_74 : decode cX11_act 74 = .ok (.iload_n 1, 1) := by decide +kernel
theorem dX11_act_75 : decode cX11_act 75 = .ok (.iaload, 1) := by decide +kernel
theorem dX11_act_76 : decode cX11_act 76 = .ok (.iastore, 1) := by decide +kernel
theorem dX11_act_77 : decode cX11_act 77 = .ok (.iinc 1 1, 3) := by decide +kernel
theorem dX11_act_80 : decode cX11_act 80 = .ok (.goto (-29), 3) := by decide +kernel
theorem dX11_act_83 : decode cX11_act 83 = .ok (.aload_n 0, 1) := by decide +kernel
theorem dX11_act_84 : decode cX11_act 84 = .ok (.dup, 1) := by decide +kernel
theorem dX11_act_85 : decode cX11_act 85 = .ok (.getfield 404, 3) := by decide +kernel
theorem dX11_act_88 : decode cX11_act 88 = .ok (.iconst 1, 1) := by decide +kernel
theorem dX11_act_89 : decode cX11_act 89 = .ok (.iadd, 1) := by decide +kernel
theorem dX11_act_90 : decode cX11_act 90 = .ok (.putfield 404, 3) := by decide +kernel
theorem dX11_act_93 : decode cX11_act 93 = .ok (.aload_n 0, 1) := by decide +kernel
theorem dX11_act_94 : decode cX11_act 94 = .ok (.iconst 0, 1) := by decide +kernel
theorem dX11_act_95 : decode cX11_act 95 = .ok (.putfield 407, 3) := by decide +kernel
theorem dX11_act_98 : decode cX11_act 98 = .ok (.return_, 1) := by decide +kernel
theorem dX11_exchange_0 : decode cX11_exchange 0 = .ok (.iconst 0, 1) := by decide +kernel
theorem dX11_exchange_1 : decode cX11_exchange 1 = .ok (.istore_n 2, 1) := by decide +kernel
theorem dX11_exchange_2 : decode cX11_exchange 2 = .ok (.iload_n 2, 1) := by decide +kernel
theorem dX11_exchange_3 : decode cX11_exchange 3 = .ok (.bipush 18, 2) := by decide +kernel
theorem dX11_exchange_5 : decode cX11_exchange 5 = .ok (.if_icmp .ge 39, 3) := by decide +kernel
theorem dX11_exchange_8 : decode cX11_exchange 8 = .ok (.aload_n 0, 1) := by decide +kernel
theorem dX11_exchange_9 : decode cX11_exchange 9 = .ok (.getfield 106, 3) := by decide +kernel
theorem dX11_exchange_12 : decode cX11_exchange 12 = .ok (.iload_n 1, 1) := by decide +kernel
theorem dX11_exchange_13 : decode cX11_exchange 13 = .ok (.iload_n 2, 1) := by decide +kernel
theorem dX11_exchange_14 : decode cX11_exchange 14 = .ok (.iadd, 1) := by decide +kernel
theorem dX11_exchange_15 : decode cX11_exchange 15 = .ok (.iaload, 1) := by decide +kernel
theorem dX11_exchange_16 : decode cX11_exchange 16 = .ok (.istore_n 3, 1) := by decide +kernel
theorem dX11_exchange_17 : decode cX11_exchange 17 = .ok (.aload_n 0, 1) := by decide +kernel
theorem dX11_exchange_18 : decode cX11_exchange 18 = .ok (.getfield 106, 3) := by decide +kernel
theorem dX11_exchange_21 : decode cX11_exchange 21 = .ok (.iload_n 1, 1) := by decide +kernel
theorem dX11_exchange_22 : decode cX11_exchange 22 = .ok (.iload_n 2, 1) := by decide +kernel
theorem dX11_exchange_23 : decode cX11_exchange 23 = .ok (.iadd, 1) := by decide +kernel
theorem dX11_exchange_24 : decode cX11_exchange 24 = .ok (.aload_n 0, 1) := by decide +kernel
theorem dX11_exchange_25 : decode cX11_exchange 25 = .ok (.getfield 100, 3) := by decide +kernel
theorem dX11_exchange_28 : decode cX11_exchange 28 = .ok (.iload_n 2, 1) := by decide +kernel
theorem dX11_exchange_29 : decode cX11_exchange 29 = .ok (.iaload, 1) := by decide +kernel
theorem dX11_exchange_30 : decode cX11_exchange 30 = .ok (.iastore, 1) := by decide +kernel
theorem dX11_exchange_31 : decode cX11_exchange 31 = .ok (.aload_n 0, 1) := by decide +kernel
theorem dX11_exchange_32 : decode cX11_exchange 32 = .ok (.getfield 100, 3) := by decide +kernel
theorem dX11_exchange_35 : decode cX11_exchange 35 = .ok (.iload_n 2, 1) := by decide +kernel
theorem dX11_exchange_36 : decode cX11_exchange 36 = .ok (.iload_n 3, 1) := by decide +kernel
theorem dX11_exchange_37 : decode cX11_exchange 37 = .ok (.iastore, 1) := by decide +kernel
theorem dX11_exchange_38 : decode cX11_exchange 38 = .ok (.iinc 2 1, 3) := by decide +kernel
theorem dX11_exchange_41 : decode cX11_exchange 41 = .ok (.goto (-39), 3) := by decide +kernel
theorem dX11_exchange_44 : decode cX11_exchange 44 = .ok (.return_, 1) := by decide +kernel
theorem dX11_take_0 : decode cX11_take 0 = .ok (.aload_n 0, 1) := by decide +kernel
theorem dX11_take_1 : decode cX11_take 1 = .ok (.iload_n 1, 1) := by decide +kernel
theorem dX11_take_2 : decode cX11_take 2 = .ok (.invokevirtual 431, 3) := by decide +kernel
theorem dX11_take_5 : decode cX11_take 5 = .ok (.ifCond .eq 45, 3) := by decide +kernel
theorem dX11_take_8 : decode cX11_take 8 = .ok (.iload_n 1, 1) := by decide +kernel
theorem dX11_take_9 : decode cX11_take 9 = .ok (.aload_n 0, 1) := by decide +kernel
theorem dX11_take_10 : decode cX11_take 10 = .ok (.getfield 100, 3) := by decide +kernel
theorem dX11_take_13 : decode cX11_take 13 = .ok (.iconst 1, 1) := by decide +kernel
theorem dX11_take_14 : decode cX11_take 14 = .ok (.iaload, 1) := by decide +kernel
theorem dX11_take_15 : decode cX11_take 15 = .ok (.if_icmp .eq 35, 3) := by decide +kernel
theorem dX11_take_18 : decode cX11_take 18 = .ok (.aload_n 0, 1) := by decide +kernel
theorem dX11_take_19 : decode cX11_take 19 = .ok (.iload_n 2, 1) := by decide +kernel
theorem dX11_take_20 : decode cX11_take 20 = .ok (.invokevirtual 437, 3) := by decide +kernel
theorem dX11_take_23 : decode cX11_take 23 = .ok (.ifCond .eq 27, 3) := by decide +kernel
theorem dX11_take_26 : decode cX11_take 26 = .ok (.aload_n 0, 1) := by decide +kernel
theorem dX11_take_27 : decode cX11_take 27 = .ok (.getfield 75, 3) := by decide +kernel
theorem dX11_take_30 : decode cX11_take 30 = .ok (.iload_n 2, 1) := by decide +kernel
theorem dX11_take_31 : decode cX11_take 31 = .ok (.iaload, 1) := by decide +kernel
theorem dX11_take_32 : decode cX11_take 32 = .ok (.aload_n 0, 1) := by decide +kernel
theorem dX11_take_33 : decode cX11_take 33 = .ok (.getfield 100, 3) := by decide +kernel
theorem dX11_take_36 : decode cX11_take 36 = .ok (.iconst 0, 1) := by decide +kernel
theorem dX11_take_37 : decode cX11_take 37 = .ok (.iaload, 1) := by decide +kernel
theorem dX11_take_38 : decode cX11_take 38 = .ok (.if_icmp .ne 12, 3) := by decide +kernel
theorem dX11_take_41 : decode cX11_take 41 = .ok (.aload_n 0, 1) := by decide +kernel
theorem dX11_take_42 : decode cX11_take 42 = .ok (.iload_n 1, 1) := by decide +kernel
theorem dX11_take_43 : decode cX11_take 43 = .ok (.iload_n 2, 1) := by decide +kernel
theorem dX11_take_44 : decode cX11_take 44 = .ok (.invokevirtual 427, 3) := by decide +kernel
theorem dX11_take_47 : decode cX11_take 47 = .ok (.ifCond .ne 5, 3) := by decide +kernel
theorem dX11_take_50 : decode cX11_take 50 = .ok (.iconst (-1), 1) := by decide +kernel
theorem dX11_take_51 : decode cX11_take 51 = .ok (.ireturn, 1) := by decide +kernel
theorem dX11_take_52 : decode cX11_take 52 = .ok (.aload_n 0, 1) := by decide +kernel
theorem dX11_take_53 : decode cX11_take 53 = .ok (.invokevirtual 452, 3) := by decide +kernel
theorem dX11_take_56 : decode cX11_take 56 = .ok (.aload_n 0, 1) := by decide +kernel
theorem dX11_take_57 : decode cX11_take 57 = .ok (.getfield 100, 3) := by decide +kernel
theorem dX11_take_60 : decode cX11_take 60 = .ok (.bipush 17, 2) := by decide +kernel
theorem dX11_take_62 : decode cX11_take 62 = .ok (.aload_n 0, 1) := by decide +kernel
theorem dX11_take_63 : decode cX11_take 63 = .ok (.getfield 100, 3) := by decide +kernel
theorem dX11_take_66 : decode cX11_take 66 = .ok (.bipush 17, 2) := by decide +kernel
theorem dX11_take_68 : decode cX11_take 68 = .ok (.iaload, 1) := by decide +kernel
theorem dX11_take_69 : decode cX11_take 69 = .ok (.sipush 137, 3) := by decide +kernel
theorem dX11_take_72 : decode cX11_take 72 = .ok (.imul, 1) := by decide +kernel
theorem dX11_take_73 : decode cX11_take 73 = .ok (.bipush 71, 2) := by decide +kernel
theorem dX11_take_75 : decode cX11_take 75 = .ok (.iadd, 1) := by decide +kernel
theorem dX11_take_76 : decode cX11_take 76 = .ok (.sipush 1000, 3) := by decide +kernel
theorem dX11_take_79 : decode cX11_take 79 = .ok (.irem, 1) := by decide +kernel
theorem dX11_take_80 : decode cX11_take 80 = .ok (.iastore, 1) := by decide +kernel
theorem dX11_take_81 : decode cX11_take 81 = .ok (.aload_n 0, 1) := by decide +kernel
theorem dX11_take_82 : decode cX11_take 82 = .ok (.getfield 100, 3) := by decide +kernel
theorem dX11_take_85 : decode cX11_take 85 = .ok (.bipush 17, 2) := by decide +kernel
theorem dX11_take_87 : decode cX11_take 87 = .ok (.iaload, 1) := by decide +kernel
theorem dX11_take_88 : decode cX11_take 88 = .ok (.bipush 100, 2) := by decide +kernel
theorem dX11_take_90 : decode cX11_take 90 = .ok (.irem, 1) := by decide +kernel
theorem dX11_take_91 : decode cX11_take 91 = .ok (.aload_n 0, 1) := by decide +kernel
theorem dX11_take_92 : decode cX11_take 92 = .ok (.iload_n 1, 1) := by decide +kernel
theorem dX11_take_93 : decode cX11_take 93 = .ok (.iload_n 2, 1) := by decide +kernel
theorem dX11_take_94 : decode cX11_take 94 = .ok (.invokevirtual 449, 3) := by decide +kernel
theorem dX11_take_97 : decode cX11_take 97 = .ok (.if_icmp .ge 7, 3) := by decide +kernel
theorem dX11_take_100 : decode cX11_take 100 = .ok (.iconst 1, 1) := by decide +kernel
theorem dX11_take_101 : decode cX11_take 101 = .ok (.goto 4, 3) := by decide +kernel
theorem dX11_take_104 : decode cX11_take 104 = .ok (.iconst 0, 1) := by decide +kernel
theorem dX11_take_105 : decode cX11_take 105 = .ok (.istore_n 3, 1) := by decide +kernel
theorem dX11_take_106 : decode cX11_take 106 = .ok (.iload_n 3, 1) := by decide +kernel
theorem dX11_take_107 : decode cX11_take 107 = .ok (.ifCond .ne 18, 3) := by decide +kernel
theorem dX11_take_110 : decode cX11_take 110 = .ok (.aload_n 0, 1) := by decide +kernel
theorem dX11_take_111 : decode cX11_take 111 = .ok (.getfield 100, 3) := by decide +kernel
theorem dX11_take_114 : decode cX11_take 114 = .ok (.iconst 0, 1) := by decide +kernel
theorem dX11_take_115 : decode cX11_take 115 = .ok (.aload_n 0, 1) := by decide +kernel
theorem dX11_take_116 : decode cX11_take 116 = .ok (.getfield 78, 3) := by decide +kernel
theorem dX11_take_119 : decode cX11_take 119 = .ok (.iload_n 2, 1) := by decide +kernel
theorem dX11_take_120 : decode cX11_take 120 = .ok (.iaload, 1) := by decide +kernel
theorem dX11_take_121 : decode cX11_take 121 = .ok (.iastore, 1) := by decide +kernel
theorem dX11_take_122 : decode cX11_take 122 = .ok (.goto 63, 3) := by decide +kernel
theorem dX11_take_125 : decode cX11_take 125 = .ok (.aload_n 0, 1) := by decide +kernel
theorem dX11_take_126 : decode cX11_take 126 = .ok (.getfield 87, 3) := by decide +kernel
theorem dX11_take_129 : decode cX11_take 129 = .ok (.iload_n 2, 1) := by decide +kernel
theorem dX11_take_130 : decode cX11_take 130 = .ok (.iaload, 1) := by decide +kernel
theorem dX11_take_131 : decode cX11_take 131 = .ok (.ifCond .lt 29, 3) := by decide +kernel
theorem dX11_take_134 : decode cX11_take 134 = .ok (.aload_n 0, 1) := by decide +kernel
theorem dX11_take_135 : decode cX11_take 135 = .ok (.getfield 100, 3) := by decide +kernel
theorem dX11_take_138 : decode cX11_take 138 = .ok (.iconst 0, 1) := by decide +kernel
theorem dX11_take_139 : decode cX11_take 139 = .ok (.aload_n 0, 1) := by decide +kernel
theorem dX11_take_140 : decode cX11_take 140 = .ok (.getfield 87, 3) := by decide +kernel
theorem dX11_take_143 : decode cX11_take 143 = .ok (.iload_n 2, 1) := by decide +kernel
theorem dX11_take_144 : decode cX11_take 144 = .ok (.iaload, 1) := by decide +kernel
theorem dX11_take_145 : decode cX11_take 145 = .ok (.iastore, 1) := by decide +kernel
theorem dX11_take_146 : decode cX11_take 146 = .ok (.aload_n 0, 1) := by decide +kernel
theorem dX11_take_147 : decode cX11_take 147 = .ok (.getfield 100, 3) := by decide +kernel
theorem dX11_take_150 : decode cX11_take 150 = .ok (.bipush 14, 2) := by decide +kernel
theorem dX11_take_152 : decode cX11_take 152 = .ok (.dup2, 1) := by decide +kernel
theorem dX11_take_153 : decode cX11_take 153 = .ok (.iaload, 1) := by decide +kernel
theorem dX11_take_154 : decode cX11_take 154 = .ok (.iconst 1, 1) := by decide +kernel
theorem dX11_take_155 : decode cX11_take 155 = .ok (.iadd, 1) := by decide +kernel
theorem dX11_take_156 : decode cX11_take 156 = .ok (.iastore, 1) := by decide +kernel
theorem dX11_take_157 : decode cX11_take 157 = .ok (.goto 28, 3) := by decide +kernel
theorem dX11_take_160 : decode cX11_take 160 = .ok (.aload_n 0, 1) := by decide +kernel
theorem dX11_take_161 : decode cX11_take 161 = .ok (.getfield 100, 3) := by decide +kernel
theorem dX11_take_164 : decode cX11_take 164 = .ok (.iconst 0, 1) := by decide +kernel
theorem dX11_take_165 : decode cX11_take 165 = .ok (.iconst 0, 1) := by decide +kernel
theorem dX11_take_166 : decode cX11_take 166 = .ok (.iastore, 1) := by decide +kernel
theorem dX11_take_167 : decode cX11_take 167 = .ok (.aload_n 0, 1) := by decide +kernel
theorem dX11_take_168 : decode cX11_take 168 = .ok (.getfield 100, 3) := by decide +kernel
theorem dX11_take_171 : decode cX11_take 171 = .ok (.iconst 2, 1) := by decide +kernel
theorem dX11_take_172 : decode cX11_take 172 = .ok (.iconst 0, 1) := by decide +kernel
theorem dX11_take_173 : decode cX11_take 173 = .ok (.iastore, 1) := by decide +kernel
theorem dX11_take_174 : decode cX11_take 174 = .ok (.aload_n 0, 1) := by decide +kernel
theorem dX11_take_175 : decode cX11_take 175 = .ok (.getfield 100, 3) := by decide +kernel
theorem dX11_take_178 : decode cX11_take 178 = .ok (.bipush 15, 2) := by decide +kernel
theorem dX11_take_180 : decode cX11_take 180 = .ok (.dup2, 1) := by decide +kernel
theorem dX11_take_181 : decode cX11_take 181 = .ok (.iaload, 1) := by decide +kernel
theorem dX11_take_182 : decode cX11_take 182 = .ok (.iconst 1, 1) := by decide +kernel
theorem dX11_take_183 : decode cX11_take 183 = .ok (.iadd, 1) := by decide +kernel
theorem dX11_take_184 : decode cX11_take 184 = .ok (.iastore, 1) := by decide +kernel
theorem dX11_take_185 : decode cX11_take 185 = .ok (.aload_n 0, 1) := by decide +kernel
theorem dX11_take_186 : decode cX11_take 186 = .ok (.getfield 100, 3) := by decide +kernel
theorem dX11_take_189 : decode cX11_take 189 = .ok (.iconst 1, 1) := by decide +kernel
theorem dX11_take_190 : decode cX11_take 190 = .ok (.iload_n 1, 1) := by decide +kernel
theorem dX11_take_191 : decode cX11_take 191 = .ok (.iastore, 1) := by decide +kernel
theorem dX11_take_192 : decode cX11_take 192 = .ok (.aload_n 0, 1) := by decide +kernel
theorem dX11_take_193 : decode cX11_take 193 = .ok (.getfield 100, 3) := by decide +kernel
theorem dX11_take_196 : decode cX11_take 196 = .ok (.iconst 0, 1) := by decide +kernel
theorem dX11_take_197 : decode cX11_take 197 = .ok (.iaload, 1) := by decide +kernel
theorem dX11_take_198 : decode cX11_take 198 = .ok (.ireturn, 1) := by decide +kernel
theorem dX11_rain_0 : decode cX11_rain 0 = .ok (.aload_n 0, 1) := by decide +kernel
theorem dX11_rain_1 : decode cX11_rain 1 = .ok (.getfield 100, 3) := by decide +kernel
theorem dX11_rain_4 : decode cX11_rain 4 = .ok (.iconst 3, 1) := by decide +kernel
theorem dX11_rain_5 : decode cX11_rain 5 = .ok (.iaload, 1) := by decide +kernel
theorem dX11_rain_6 : decode cX11_rain 6 = .ok (.iconst 1, 1) := by decide +kernel
theorem dX11_rain_7 : decode cX11_rain 7 = .ok (.if_icmp .ne 5, 3) := by decide +kernel
theorem dX11_rain_10 : decode cX11_rain 10 = .ok (.iconst (-1), 1) := by decide +kernel
theorem dX11_rain_11 : decode cX11_rain 11 = .ok (.ireturn, 1) := by decide +kernel
theorem dX11_rain_12 : decode cX11_rain 12 = .ok (.aload_n 0, 1) := by decide +kernel
theorem dX11_rain_13 : decode cX11_rain 13 = .ok (.invokevirtual 452, 3) := by decide +kernel
theorem dX11_rain_16 : decode cX11_rain 16 = .ok (.aload_n 0, 1) := by decide +kernel
theorem dX11_rain_17 : decode cX11_rain 17 = .ok (.getfield 100, 3) := by decide +kernel
theorem dX11_rain_20 : decode cX11_rain 20 = .ok (.iconst 3, 1) := by decide +kernel
theorem dX11_rain_21 : decode cX11_rain 21 = .ok (.iconst 1, 1) := by decide +kernel
theorem dX11_rain_22 : decode cX11_rain 22 = .ok (.iastore, 1) := by decide +kernel
theorem dX11_rain_23 : decode cX11_rain 23 = .ok (.aload_n 0, 1) := by decide +kernel
theorem dX11_rain_24 : decode cX11_rain 24 = .ok (.getfield 100, 3) := by decide +kernel
theorem dX11_rain_27 : decode cX11_rain 27 = .ok (.iconst 2, 1) := by decide +kernel
theorem dX11_rain_28 : decode cX11_rain 28 = .ok (.iaload, 1) := by decide +kernel
theorem dX11_rain_29 : decode cX11_rain 29 = .ok (.ireturn, 1) := by decide +kernel
theorem dX11_give_0 : decode cX11_give 0 = .ok (.aload_n 0, 1) := by decide +kernel
theorem dX11_give_1 : decode cX11_give 1 = .ok (.iload_n 1, 1) := by decide +kernel
theorem dX11_give_2 : decode cX11_give 2 = .ok (.invokevirtual 431, 3) := by decide +kernel
theorem dX11_give_5 : decode cX11_give 5 = .ok (.ifCond .eq 13, 3) := by decide +kernel
theorem dX11_give_8 : decode cX11_give 8 = .ok (.iload_n 1, 1) := by decide +kernel
theorem dX11_give_9 : decode cX11_give 9 = .ok (.aload_n 0, 1) := by decide +kernel
theorem dX11_give_10 : decode cX11_give 10 = .ok (.getfield 100, 3) := by decide +kernel
theorem dX11_give_13 : decode cX11_give 13 = .ok (.iconst 1, 1) := by decide +kernel
theorem dX11_give_14 : decode cX11_give 14 = .ok (.iaload, 1) := by decide +kernel
theorem dX11_give_15 : decode cX11_give 15 = .ok (.if_icmp .ne 5, 3) := by decide +kernel
theorem dX11_give_18 : decode cX11_give 18 = .ok (.iconst (-1), 1) := by decide +kernel
theorem dX11_give_19 : decode cX11_give 19 = .ok (.ireturn, 1) := by decide +kernel
theorem dX11_give_20 : decode cX11_give 20 = .ok (.aload_n 0, 1) := by decide +kernel
theorem dX11_give_21 : decode cX11_give 21 = .ok (.invokevirtual 452, 3) := by decide +kernel
theorem dX11_give_24 : decode cX11_give 24 = .ok (.aload_n 0, 1) := by decide +kernel
theorem dX11_give_25 : decode cX11_give 25 = .ok (.getfield 100, 3) := by decide +kernel
theorem dX11_give_28 : decode cX11_give 28 = .ok (.iconst 1, 1) := by decide +kernel
theorem dX11_give_29 : decode cX11_give 29 = .ok (.iaload, 1) := by decide +kernel
theorem dX11_give_30 : decode cX11_give 30 = .ok (.istore_n 2, 1) := by decide +kernel
theorem dX11_give_31 : decode cX11_give 31 = .ok (.aload_n 0, 1) := by decide +kernel
theorem dX11_give_32 : decode cX11_give 32 = .ok (.getfield 100, 3) := by decide +kernel
theorem dX11_give_35 : decode cX11_give 35 = .ok (.iconst 1, 1) := by decide +kernel
theorem dX11_give_36 : decode cX11_give 36 = .ok (.iload_n 1, 1) := by decide +kernel
theorem dX11_give_37 : decode cX11_give 37 = .ok (.iastore, 1) := by decide +kernel
theorem dX11_give_38 : decode cX11_give 38 = .ok (.iload_n 2, 1) := by decide +kernel
theorem dX11_give_39 : decode cX11_give 39 = .ok (.ireturn, 1) := by decide +kernel
theorem dX11_goNight_0 : decode cX11_goNight 0 = .ok (.iconst 0, 1) := by decide +kernel
theorem dX11_goNight_1 : decode cX11_goNight 1 = .ok (.istore_n 1, 1) := by decide +kernel
theorem dX11_goNight_2 : decode cX11_goNight 2 = .ok (.iconst 0, 1) := by decide +kernel
theorem dX11_goNight_3 : decode cX11_goNight 3 = .ok (.istore_n 2, 1) := by decide +kernel
theorem dX11_goNight_4 : decode cX11_goNight 4 = .ok (.iload_n 2, 1) := by decide +kernel
theorem dX11_goNight_5 : decode cX11_goNight 5 = .ok (.aload_n 0, 1) := by decide +kernel
theorem dX11_goNight_6 : decode cX11_goNight 6 = .ok (.getfield 395, 3) := by decide +kernel
theorem dX11_goNight_9 : decode cX11_goNight 9 = .ok (.if_icmp .ge 37, 3) := by decide +kernel
theorem dX11_goNight_12 : decode cX11_goNight 12 = .ok (.aload_n 0, 1) := by decide +kernel
theorem dX11_goNight_13 : decode cX11_goNight 13 = .ok (.iload_n 2, 1) := by decide +kernel
theorem dX11_goNight_14 : decode cX11_goNight 14 = .ok (.aload_n 0, 1) := by decide +kernel
theorem dX11_goNight_15 : decode cX11_goNight 15 = .ok (.getfield 103, 3) := by decide +kernel
theorem dX11_goNight_18 : decode cX11_goNight 18 = .ok (.iconst 0, 1) := by decide +kernel
theorem dX11_goNight_19 : decode cX11_goNight 19 = .ok (.iaload, 1) := by decide +kernel
theorem dX11_goNight_20 : decode cX11_goNight 20 = .ok (.invokevirtual 446, 3) := by decide +kernel
theorem dX11_goNight_23 : decode cX11_goNight 23 = .ok (.istore_n 3, 1) := by decide +kernel
theorem dX11_goNight_24 : decode cX11_goNight 24 = .ok (.aload_n 0, 1) := by decide +kernel
theorem dX11_goNight_25 : decode cX11_goNight 25 = .ok (.getfield 103, 3) := by decide +kernel
theorem dX11_goNight_28 : decode cX11_goNight 28 = .ok (.iconst 4, 1) := by decide +kernel
theorem dX11_goNight_29 : decode cX11_goNight 29 = .ok (.iload_n 2, 1) := by decide +kernel
theorem dX11_goNight_30 : decode cX11_goNight 30 = .ok (.iadd, 1) := by decide +kernel
theorem dX11_goNight_31 : decode cX11_goNight 31 = .ok (.dup2, 1) := by decide +kernel
theorem dX11_goNight_32 : decode cX11_goNight 32 = .ok (.iaload, 1) := by decide +kernel
theorem dX11_goNight_33 : decode cX11_goNight 33 = .ok (.iload_n 3, 1) := by decide +kernel
theorem dX11_goNight_34 : decode cX11_goNight 34 = .ok (.iadd, 1) := by decide +kernel
theorem dX11_goNight_35 : decode cX11_goNight 35 = .ok (.iastore, 1) := by decide +kernel
theorem dX11_goNight_36 : decode cX11_goNight 36 = .ok (.iload_n 1, 1) := by decide +kernel
theorem dX11_goNight_37 : decode cX11_goNight 37 = .ok (.iload_n 3, 1) := by decide +kernel
theorem dX11_goNight_38 : decode cX11_goNight 38 = .ok (.iadd, 1) := by decide +kernel
theorem dX11_goNight_39 : decode cX11_goNight 39 = .ok (.istore_n 1, 1) := by decide +kernel
theorem dX11_goNight_40 : decode cX11_goNight 40 = .ok (.iinc 2 1, 3) := by decide +kernel
theorem dX11_goNight_43 : decode cX11_goNight 43 = .ok (.goto (-39), 3) := by decide +kernel
theorem dX11_goNight_46 : decode cX11_goNight 46 = .ok (.aload_n 0, 1) := by decide +kernel
theorem dX11_goNight_47 : decode cX11_goNight 47 = .ok (.getfield 103, 3) := by decide +kernel
theorem dX11_goNight_50 : decode cX11_goNight 50 = .ok (.iconst 1, 1) := by decide +kernel
theorem dX11_goNight_51 : decode cX11_goNight 51 = .ok (.iaload, 1) := by decide +kernel
theorem dX11_goNight_52 : decode cX11_goNight 52 = .ok (.ifCond .lt 21, 3) := by decide +kernel
theorem dX11_goNight_55 : decode cX11_goNight 55 = .ok (.aload_n 0, 1) := by decide +kernel
theorem dX11_goNight_56 : decode cX11_goNight 56 = .ok (.getfield 103, 3) := by decide +kernel
theorem dX11_goNight_59 : decode cX11_goNight 59 = .ok (.bipush 9, 2) := by decide +kernel
theorem dX11_goNight_61 : decode cX11_goNight 61 = .ok (.aload_n 0, 1) := by decide +kernel
theorem dX11_goNight_62 : decode cX11_goNight 62 = .ok (.getfield 103, 3) := by decide +kernel
theorem dX11_goNight_65 : decode cX11_goNight 65 = .ok (.iconst 1, 1) := by decide +kernel
theorem dX11_goNight_66 : decode cX11_goNight 66 = .ok (.iaload, 1) := by decide +kernel
theorem dX11_goNight_67 : decode cX11_goNight 67 = .ok (.iadd, 1) := by decide +kernel
theorem dX11_goNight_68 : decode cX11_goNight 68 = .ok (.dup2, 1) := by decide +kernel
theorem dX11_goNight_69 : decode cX11_goNight 69 = .ok (.iaload, 1) := by decide +kernel
theorem dX11_goNight_70 : decode cX11_goNight 70 = .ok (.iconst 1, 1) := by decide +kernel
theorem dX11_goNight_71 : decode cX11_goNight 71 = .ok (.iadd, 1) := by decide +kernel
theorem dX11_goNight_72 : decode cX11_goNight 72 = .ok (.iastore, 1) := by decide +kernel
theorem dX11_goNight_73 : decode cX11_goNight 73 = .ok (.aload_n 0, 1) := by decide +kernel
theorem dX11_goNight_74 : decode cX11_goNight 74 = .ok (.getfield 103, 3) := by decide +kernel
theorem dX11_goNight_77 : decode cX11_goNight 77 = .ok (.iconst 2, 1) := by decide +kernel
theorem dX11_goNight_78 : decode cX11_goNight 78 = .ok (.dup2, 1) := by decide +kernel
theorem dX11_goNight_79 : decode cX11_goNight 79 = .ok (.iaload, 1) := by decide +kernel
theorem dX11_goNight_80 : decode cX11_goNight 80 = .ok (.iconst 1, 1) := by decide +kernel
theorem dX11_goNight_81 : decode cX11_goNight 81 = .ok (.iadd, 1) := by decide +kernel
theorem dX11_goNight_82 : decode cX11_goNight 82 = .ok (.iastore, 1) := by decide +kernel
theorem dX11_goNight_83 : decode cX11_goNight 83 = .ok (.aload_n 0, 1) := by decide +kernel
theorem dX11_goNight_84 : decode cX11_goNight 84 = .ok (.getfield 103, 3) := by decide +kernel
theorem dX11_goNight_87 : decode cX11_goNight 87 = .ok (.iconst 2, 1) := by decide +kernel
theorem dX11_goNight_88 : decode cX11_goNight 88 = .ok (.iaload, 1) := by decide +kernel
theorem dX11_goNight_89 : decode cX11_goNight 89 = .ok (.aload_n 0, 1) := by decide +kernel
theorem dX11_goNight_90 : decode cX11_goNight 90 = .ok (.getfield 97, 3) := by decide +kernel
theorem dX11_goNight_93 : decode cX11_goNight 93 = .ok (.if_icmp .lt 39, 3) := by decide +kernel
theorem dX11_goNight_96 : decode cX11_goNight 96 = .ok (.aload_n 0, 1) := by decide +kernel
theorem dX11_goNight_97 : decode cX11_goNight 97 = .ok (.getfield 103, 3) := by decide +kernel
theorem dX11_goNight_100 : decode cX11_goNight 100 = .ok (.iconst 0, 1) := by decide +kernel
theorem dX11_goNight_101 : decode cX11_goNight 101 = .ok (.aload_n 0, 1) := by decide +kernel
theorem dX11_goNight_102 : decode cX11_goNight 102 = .ok (.getfield 392, 3) := by decide +kernel
theorem dX11_goNight_105 : decode cX11_goNight 105 = .ok (.ifCond .ne 7, 3) := by decide +kernel
theorem dX11_goNight_108 : decode cX11_goNight 108 = .ok (.iconst (-1), 1) := by decide +kernel
theorem dX11_goNight_109 : decode cX11_goNight 109 = .ok (.goto 4, 3) := by decide +kernel
theorem dX11_goNight_112 : decode cX11_goNight 112 = .ok (.iconst 0, 1) := by decide +kernel
theorem dX11_goNight_113 : decode cX11_goNight 113 = .ok (.iastore, 1) := by decide +kernel
theorem dX11_goNight_114 : decode cX11_goNight 114 = .ok (.aload_n 0, 1) := by decide +kernel
theorem dX11_goNight_115 : decode cX11_goNight 115 = .ok (.getfield 103, 3) := by decide +kernel
theorem dX11_goNight_118 : decode cX11_goNight 118 = .ok (.iconst 2, 1) := by decide +kernel
theorem dX11_goNight_119 : decode cX11_goNight 119 = .ok (.iconst 0, 1) := by decide +kernel
theorem dX11_goNight_120 : decode cX11_goNight 120 = .ok (.iastore, 1) := by decide +kernel
theorem dX11_goNight_121 : decode cX11_goNight 121 = .ok (.aload_n 0, 1) := by decide +kernel
theorem dX11_goNight_122 : decode cX11_goNight 122 = .ok (.getfield 103, 3) := by decide +kernel
theorem dX11_goNight_125 : decode cX11_goNight 125 = .ok (.bipush 15, 2) := by decide +kernel
theorem dX11_goNight_127 : decode cX11_goNight 127 = .ok (.dup2, 1) := by decide +kernel
theorem dX11_goNight_128 : decode cX11_goNight 128 = .ok (.iaload, 1) := by decide +kernel
theorem dX11_goNight_129 : decode cX11_goNight 129 = .ok (.iconst 1, 1) := by decide +kernel
theorem dX11_goNight_130 : decode cX11_goNight 130 = .ok (.iadd, 1) := by decide +kernel
theorem dX11_goNight_131 : decode cX11_goNight 131 = .ok (.iastore, 1) := by decide +kernel
theorem dX11_goNight_132 : decode cX11_goNight 132 = .ok (.aload_n 0, 1) := by decide +kernel
theorem dX11_goNight_133 : decode cX11_goNight 133 = .ok (.getfield 103, 3) := by decide +kernel
theorem dX11_goNight_136 : decode cX11_goNight 136 = .ok (.iconst 3, 1) := by decide +kernel
theorem dX11_goNight_137 : decode cX11_goNight 137 = .ok (.iconst 0, 1) := by decide +kernel
theorem dX11_goNight_138 : decode cX11_goNight 138 = .ok (.iastore, 1) := by decide +kernel
theorem dX11_goNight_139 : decode cX11_goNight 139 = .ok (.aload_n 0, 1) := by decide +kernel
theorem dX11_goNight_140 : decode cX11_goNight 140 = .ok (.getfield 103, 3) := by decide +kernel
theorem dX11_goNight_143 : decode cX11_goNight 143 = .ok (.bipush 16, 2) := by decide +kernel
theorem dX11_goNight_145 : decode cX11_goNight 145 = .ok (.dup2, 1) := by decide +kernel
theorem dX11_goNight_146 : decode cX11_goNight 146 = .ok (.iaload, 1) := by decide +kernel
theorem dX11_goNight_147 : decode cX11_goNight 147 = .ok (.iconst 1, 1) := by decide +kernel
theorem dX11_goNight_148 : decode cX11_goNight 148 = .ok (.iadd, 1) := by decide +kernel
theorem dX11_goNight_149 : decode cX11_goNight 149 = .ok (.iastore, 1) := by decide +kernel
theorem dX11_goNight_150 : decode cX11_goNight 150 = .ok (.iload_n 1, 1) := by decide +kernel
theorem dX11_goNight_151 : decode cX11_goNight 151 = .ok (.ireturn, 1) := by decide +kernel
theorem dX11_night_0 : decode cX11_night 0 = .ok (.aload_n 0, 1) := by decide +kernel
theorem dX11_night_1 : decode cX11_night 1 = .ok (.getfield 100, 3) := by decide +kernel
theorem dX11_night_4 : decode cX11_night 4 = .ok (.bipush 16, 2) := by decide +kernel
theorem dX11_night_6 : decode cX11_night 6 = .ok (.iaload, 1) := by decide +kernel
theorem dX11_night_7 : decode cX11_night 7 = .ok (.sipush 999, 3) := by decide +kernel
theorem dX11_night_10 : decode cX11_night 10 = .ok (.if_icmp .ne 5, 3) := by decide +kernel
theorem dX11_night_13 : decode cX11_night 13 = .ok (.iconst (-1), 1) := by decide +kernel
theorem dX11_night_14 : decode cX11_night 14 = .ok (.ireturn, 1) := by decide +kernel
theorem dX11_night_15 : decode cX11_night 15 = .ok (.aload_n 0, 1) := by decide +kernel
theorem dX11_night_16 : decode cX11_night 16 = .ok (.invokevirtual 452, 3) := by decide +kernel
theorem dX11_night_19 : decode cX11_night 19 = .ok (.aload_n 0, 1) := by decide +kernel
theorem dX11_night_20 : decode cX11_night 20 = .ok (.invokevirtual 455, 3) := by decide +kernel
theorem dX11_night_23 : decode cX11_night 23 = .ok (.aload_n 0, 1) := by decide +kernel
theorem dX11_night_24 : decode cX11_night 24 = .ok (.invokevirtual 458, 3) := by decide +kernel
theorem dX11_night_27 : decode cX11_night 27 = .ok (.istore_n 1, 1) := by decide +kernel
theorem dX11_night_28 : decode cX11_night 28 = .ok (.iconst 0, 1) := by decide +kernel
theorem dX11_night_29 : decode cX11_night 29 = .ok (.istore_n 2, 1) := by decide +kernel
theorem dX11_night_30 : decode cX11_night 30 = .ok (.iload_n 2, 1) := by decide +kernel
theorem dX11_night_31 : decode cX11_night 31 = .ok (.bipush 18, 2) := by decide +kernel
theorem dX11_night_33 : decode cX11_night 33 = .ok (.if_icmp .ge 21, 3) := by decide +kernel
theorem dX11_night_36 : decode cX11_night 36 = .ok (.aload_n 0, 1) := by decide +kernel
theorem dX11_night_37 : decode cX11_night 37 = .ok (.getfield 100, 3) := by decide +kernel
theorem dX11_night_40 : decode cX11_night 40 = .ok (.iload_n 2, 1) := by decide +kernel
theorem dX11_night_41 : decode cX11_night 41 = .ok (.aload_n 0, 1) := by decide +kernel
theorem dX11_night_42 : decode cX11_night 42 = .ok (.getfield 103, 3) := by decide +kernel
theorem dX11_night_45 : decode cX11_night 45 = .ok (.iload_n 2, 1) := by decide +kernel
theorem dX11_night_46 : decode cX11_night 46 = .ok (.iaload, 1) := by decide +kernel
theorem dX11_night_47 : decode cX11_night 47 = .ok (.iastore, 1) := by decide +kernel
theorem dX11_night_48 : decode cX11_night 48 = .ok (.iinc 2 1, 3) := by decide +kernel
theorem dX11_night_51 : decode cX11_night 51 = .ok (.goto (-21), 3) := by decide +kernel
theorem dX11_night_54 : decode cX11_night 54 = .ok (.iload_n 1, 1) := by decide +kernel
theorem dX11_night_55 : decode cX11_night 55 = .ok (.ireturn, 1) := by decide +kernel
theorem dX11_undo_0 : decode cX11_undo 0 = .ok (.aload_n 0, 1) := by decide +kernel
theorem dX11_undo_1 : decode cX11_undo 1 = .ok (.getfield 404, 3) := by decide +kernel
theorem dX11_undo_4 : decode cX11_undo 4 = .ok (.ifCond .ne 5, 3) := by decide +kernel
theorem dX11_undo_7 : decode cX11_undo 7 = .ok (.iconst 0, 1) := by decide +kernel
theorem dX11_undo_8 : decode cX11_undo 8 = .ok (.ireturn, 1) := by decide +kernel
theorem dX11_undo_9 : decode cX11_undo 9 = .ok (.aload_n 0, 1) := by decide +kernel
theorem dX11_undo_10 : decode cX11_undo 10 = .ok (.dup, 1) := by decide +kernel
theorem dX11_undo_11 : decode cX11_undo 11 = .ok (.getfield 404, 3) := by decide +kernel
theorem dX11_undo_14 : decode cX11_undo 14 = .ok (.iconst 1, 1) := by decide +kernel
theorem dX11_undo_15 : decode cX11_undo 15 = .ok (.isub, 1) := by decide +kernel
theorem dX11_undo_16 : decode cX11_undo 16 = .ok (.putfield 404, 3) := by decide +kernel
theorem dX11_undo_19 : decode cX11_undo 19 = .ok (.aload_n 0, 1) := by decide +kernel
theorem dX11_undo_20 : decode cX11_undo 20 = .ok (.dup, 1) := by decide +kernel
theorem dX11_undo_21 : decode cX11_undo 21 = .ok (.getfield 407, 3) := by decide +kernel
theorem dX11_undo_24 : decode cX11_undo 24 = .ok (.iconst 1, 1) := by decide +kernel
theorem dX11_undo_25 : decode cX11_undo 25 = .ok (.iadd, 1) := by decide +kernel
theorem dX11_undo_26 : decode cX11_undo 26 = .ok (.putfield 407, 3) := by decide +kernel
theorem dX11_undo_29 : decode cX11_undo 29 = .ok (.aload_n 0, 1) := by decide +kernel
theorem dX11_undo_30 : decode cX11_undo 30 = .ok (.bipush 18, 2) := by decide +kernel
theorem dX11_undo_32 : decode cX11_undo 32 = .ok (.aload_n 0, 1) := by decide +kernel
theorem dX11_undo_33 : decode cX11_undo 33 = .ok (.getfield 404, 3) := by decide +kernel
theorem dX11_undo_36 : decode cX11_undo 36 = .ok (.imul, 1) := by decide +kernel
theorem dX11_undo_37 : decode cX11_undo 37 = .ok (.invokevirtual 461, 3) := by decide +kernel
theorem dX11_undo_40 : decode cX11_undo 40 = .ok (.iconst 1, 1) := by decide +kernel
theorem dX11_undo_41 : decode cX11_undo 41 = .ok (.ireturn, 1) := by decide +kernel
theorem dX11_redo_0 : decode cX11_redo 0 = .ok (.aload_n 0, 1) := by decide +kernel
theorem dX11_redo_1 : decode cX11_redo 1 = .ok (.getfield 407, 3) := by decide +kernel
theorem dX11_redo_4 : decode cX11_redo 4 = .ok (.ifCond .ne 5, 3) := by decide +kernel
theorem dX11_redo_7 : decode cX11_redo 7 = .ok (.iconst 0, 1) := by decide +kernel
theorem dX11_redo_8 : decode cX11_redo 8 = .ok (.ireturn, 1) := by decide +kernel
theorem dX11_redo_9 : decode cX11_redo 9 = .ok (.aload_n 0, 1) := by decide +kernel
theorem dX11_redo_10 : decode cX11_redo 10 = .ok (.bipush 18, 2) := by decide +kernel
theorem dX11_redo_12 : decode cX11_redo 12 = .ok (.aload_n 0, 1) := by decide +kernel
theorem dX11_redo_13 : decode cX11_redo 13 = .ok (.getfield 404, 3) := by decide +kernel
theorem dX11_redo_16 : decode cX11_redo 16 = .ok (.imul, 1) := by decide +kernel
theorem dX11_redo_17 : decode cX11_redo 17 = .ok (.invokevirtual 461, 3) := by decide +kernel
theorem dX11_redo_20 : decode cX11_redo 20 = .ok (.aload_n 0, 1) := by decide +kernel
theorem dX11_redo_21 : decode cX11_redo 21 = .ok (.dup, 1) := by decide +kernel
theorem dX11_redo_22 : decode cX11_redo 22 = .ok (.getfield 404, 3) := by decide +kernel
theorem dX11_redo_25 : decode cX11_redo 25 = .ok (.iconst 1, 1) := by decide +kernel
theorem dX11_redo_26 : decode cX11_redo 26 = .ok (.iadd, 1) := by decide +kernel
theorem dX11_redo_27 : decode cX11_redo 27 = .ok (.putfield 404, 3) := by decide +kernel
theorem dX11_redo_30 : decode cX11_redo 30 = .ok (.aload_n 0, 1) := by decide +kernel
theorem dX11_redo_31 : decode cX11_redo 31 = .ok (.dup, 1) := by decide +kernel
theorem dX11_redo_32 : decode cX11_redo 32 = .ok (.getfield 407, 3) := by decide +kernel
theorem dX11_redo_35 : decode cX11_redo 35 = .ok (.iconst 1, 1) := by decide +kernel
theorem dX11_redo_36 : decode cX11_redo 36 = .ok (.isub, 1) := by decide +kernel
theorem dX11_redo_37 : decode cX11_redo 37 = .ok (.putfield 407, 3) := by decide +kernel
theorem dX11_redo_40 : decode cX11_redo 40 = .ok (.iconst 1, 1) := by decide +kernel
theorem dX11_redo_41 : decode cX11_redo 41 = .ok (.ireturn, 1) := by decide +kernel
theorem dX11_isOther_0 : decode cX11_isOther 0 = .ok (.aload_n 0, 1) := by decide +kernel
theorem dX11_isOther_1 : decode cX11_isOther 1 = .ok (.iload_n 1, 1) := by decide +kernel
theorem dX11_isOther_2 : decode cX11_isOther 2 = .ok (.invokevirtual 431, 3) := by decide +kernel
theorem dX11_isOther_5 : decode cX11_isOther 5 = .ok (.ifCond .eq 17, 3) := by decide +kernel
theorem dX11_isOther_8 : decode cX11_isOther 8 = .ok (.iload_n 1, 1) := by decide +kernel
theorem dX11_isOther_9 : decode cX11_isOther 9 = .ok (.aload_n 0, 1) := by decide +kernel
theorem dX11_isOther_10 : decode cX11_isOther 10 = .ok (.getfield 100, 3) := by decide +kernel
theorem dX11_isOther_13 : decode cX11_isOther 13 = .ok (.iconst 1, 1) := by decide +kernel
theorem dX11_isOther_14 : decode cX11_isOther 14 = .ok (.iaload, 1) := by decide +kernel
theorem dX11_isOther_15 : decode cX11_isOther 15 = .ok (.if_icmp .eq 7, 3) := by decide +kernel
theorem dX11_isOther_18 : decode cX11_isOther 18 = .ok (.iconst 1, 1) := by decide +kernel
theorem dX11_isOther_19 : decode cX11_isOther 19 = .ok (.goto 4, 3) := by decide +kernel
theorem dX11_isOther_22 : decode cX11_isOther 22 = .ok (.iconst 0, 1) := by decide +kernel
theorem dX11_isOther_23 : decode cX11_isOther 23 = .ok (.ireturn, 1) := by decide +kernel
theorem dX11_takerAt_0 : decode cX11_takerAt 0 = .ok (.iload_n 1, 1) := by decide +kernel
theorem dX11_takerAt_1 : decode cX11_takerAt 1 = .ok (.ifCond .ne 7, 3) := by decide +kernel
theorem dX11_takerAt_4 : decode cX11_takerAt 4 = .ok (.iload_n 2, 1) := by decide +kernel
theorem dX11_takerAt_5 : decode cX11_takerAt 5 = .ok (.goto 9, 3) := by decide +kernel
theorem dX11_takerAt_8 : decode cX11_takerAt 8 = .ok (.aload_n 0, 1) := by decide +kernel
theorem dX11_takerAt_9 : decode cX11_takerAt 9 = .ok (.getfield 100, 3) := by decide +kernel
theorem dX11_takerAt_12 : decode cX11_takerAt 12 = .ok (.iconst 1, 1) := by decide +kernel
theorem dX11_takerAt_13 : decode cX11_takerAt 13 = .ok (.iaload, 1) := by decide +kernel
theorem dX11_takerAt_14 : decode cX11_takerAt 14 = .ok (.ireturn, 1) := by decide +kernel
theorem dX11_leastFrom_0 : decode cX11_leastFrom 0 = .ok (.ldc_w 464, 3) := by decide +kernel
theorem dX11_leastFrom_3 : decode cX11_leastFrom 3 = .ok (.istore 4, 2) := by decide +kernel
theorem dX11_leastFrom_5 : decode cX11_leastFrom 5 = .ok (.iconst 0, 1) := by decide +kernel
theorem dX11_leastFrom_6 : decode cX11_leastFrom 6 = .ok (.istore 5, 2) := by decide +kernel
theorem dX11_leastFrom_8 : decode cX11_leastFrom 8 = .ok (.iload 5, 2) := by decide +kernel
theorem dX11_leastFrom_10 : decode cX11_leastFrom 10 = .ok (.aload_n 0, 1) := by decide +kernel
theorem dX11_leastFrom_11 : decode cX11_leastFrom 11 = .ok (.getfield 398, 3) := by decide +kernel
theorem dX11_leastFrom_14 : decode cX11_leastFrom 14 = .ok (.if_icmp .ge 69, 3) := by decide +kernel
theorem dX11_leastFrom_17 : decode cX11_leastFrom 17 = .ok (.aload_n 0, 1) := by decide +kernel
theorem dX11_leastFrom_18 : decode cX11_leastFrom 18 = .ok (.getfield 109, 3) := by decide +kernel
theorem dX11_leastFrom_21 : decode cX11_leastFrom 21 = .ok (.bipush 8, 2) := by decide +kernel
theorem dX11_leastFrom_23 : decode cX11_leastFrom 23 = .ok (.iconst 1, 1) := by decide +kernel
theorem dX11_leastFrom_24 : decode cX11_leastFrom 24 = .ok (.iload_n 2, 1) := by decide +kernel
theorem dX11_leastFrom_25 : decode cX11_leastFrom 25 = .ok (.isub, 1) := by decide +kernel
theorem dX11_leastFrom_26 : decode cX11_leastFrom 26 = .ok (.imul, 1) := by decide +kernel
theorem dX11_leastFrom_27 : decode cX11_leastFrom 27 = .ok (.aload_n 0, 1) := by decide +kernel
theorem dX11_leastFrom_28 : decode cX11_leastFrom 28 = .ok (.getfield 78, 3) := by decide +kernel
theorem dX11_leastFrom_31 : decode cX11_leastFrom 31 = .ok (.iload 5, 2) := by decide +kernel
theorem dX11_leastFrom_33 : decode cX11_leastFrom 33 = .ok (.iaload, 1) := by decide +kernel
theorem dX11_leastFrom_34 : decode cX11_leastFrom 34 = .ok (.iadd, 1) := by decide +kernel
theorem dX11_leastFrom_35 : decode cX11_leastFrom 35 = .ok (.iaload, 1) := by decide +kernel
theorem dX11_leastFrom_36 : decode cX11_leastFrom 36 = .ok (.iconst 1, 1) := by decide +kernel
theorem dX11_leastFrom_37 : decode cX11_leastFrom 37 = .ok (.iadd, 1) := by decide +kernel
theorem dX11_leastFrom_38 : decode cX11_leastFrom 38 = .ok (.istore 6, 2) := by decide +kernel
theorem dX11_leastFrom_40 : decode cX11_leastFrom 40 = .ok (.aload_n 0, 1) := by decide +kernel
theorem dX11_leastFrom_41 : decode cX11_leastFrom 41 = .ok (.getfield 75, 3) := by decide +kernel
theorem dX11_leastFrom_44 : decode cX11_leastFrom 44 = .ok (.iload 5, 2) := by decide +kernel
theorem dX11_leastFrom_46 : decode cX11_leastFrom 46 = .ok (.iaload, 1) := by decide +kernel
theorem dX11_leastFrom_47 : decode cX11_leastFrom 47 = .ok (.iload_n 1, 1) := by decide +kernel
theorem dX11_leastFrom_48 : decode cX11_leastFrom 48 = .ok (.if_icmp .ne 29, 3) := by decide +kernel
theorem dX11_leastFrom_51 : decode cX11_leastFrom 51 = .ok (.aload_n 0, 1) := by decide +kernel
theorem dX11_leastFrom_52 : decode cX11_leastFrom 52 = .ok (.aload_n 0, 1) := by decide +kernel
theorem dX11_leastFrom_53 : decode cX11_leastFrom 53 = .ok (.iload_n 2, 1) := by decide +kernel
theorem dX11_leastFrom_54 : decode cX11_leastFrom 54 = .ok (.iload_n 3, 1) := by decide +kernel
theorem dX11_leastFrom_55 : decode cX11_leastFrom 55 = .ok (.invokevirtual 465, 3) := by decide +kernel
theorem dX11_leastFrom_58 : decode cX11_leastFrom 58 = .ok (.iload 5, 2) := by decide +kernel
theorem dX11_leastFrom_60 : decode cX11_leastFrom 60 = .ok (.invokevirtual 427, 3) := by decide +kernel
theorem dX11_leastFrom_63 : decode cX11_leastFrom 63 = .ok (.ifCond .eq 14, 3) := by decide +kernel
theorem dX11_leastFrom_66 : decode cX11_leastFrom 66 = .ok (.iload 6, 2) := by decide +kernel
theorem dX11_leastFrom_68 : decode cX11_leastFrom 68 = .ok (.iload 4, 2) := by decide +kernel
theorem dX11_leastFrom_70 : decode cX11_leastFrom 70 = .ok (.if_icmp .ge 7, 3) := by decide +kernel
theorem dX11_leastFrom_73 : decode cX11_leastFrom 73 = .ok (.iload 6, 2) := by decide +kernel
theorem dX11_leastFrom_75 : decode cX11_leastFrom 75 = .ok (.istore 4, 2) := by decide +kernel
theorem dX11_leastFrom_77 : decode cX11_leastFrom 77 = .ok (.iinc 5 1, 3) := by decide +kernel
theorem dX11_leastFrom_80 : decode cX11_leastFrom 80 = .ok (.goto (-72), 3) := by decide +kernel
theorem dX11_leastFrom_83 : decode cX11_leastFrom 83 = .ok (.iload 4, 2) := by decide +kernel
theorem dX11_leastFrom_85 : decode cX11_leastFrom 85 = .ok (.ireturn, 1) := by decide +kernel
theorem dX11_layLeft_0 : decode cX11_layLeft 0 = .ok (.iconst 0, 1) := by decide +kernel
theorem dX11_layLeft_1 : decode cX11_layLeft 1 = .ok (.istore_n 3, 1) := by decide +kernel
theorem dX11_layLeft_2 : decode cX11_layLeft 2 = .ok (.iload_n 3, 1) := by decide +kernel
theorem dX11_layLeft_3 : decode cX11_layLeft 3 = .ok (.bipush 16, 2) := by decide +kernel
theorem dX11_layLeft_5 : decode cX11_layLeft 5 = .ok (.if_icmp .ge 30, 3) := by decide +kernel
theorem dX11_layLeft_8 : decode cX11_layLeft 8 = .ok (.aload_n 0, 1) := by decide +kernel
theorem dX11_layLeft_9 : decode cX11_layLeft 9 = .ok (.getfield 109, 3) := by decide +kernel
theorem dX11_layLeft_12 : decode cX11_layLeft 12 = .ok (.iload_n 3, 1) := by decide +kernel
theorem dX11_layLeft_13 : decode cX11_layLeft 13 = .ok (.iload_n 3, 1) := by decide +kernel
theorem dX11_layLeft_14 : decode cX11_layLeft 14 = .ok (.bipush 8, 2) := by decide +kernel
theorem dX11_layLeft_16 : decode cX11_layLeft 16 = .ok (.irem, 1) := by decide +kernel
theorem dX11_layLeft_17 : decode cX11_layLeft 17 = .ok (.iload_n 2, 1) := by decide +kernel
theorem dX11_layLeft_18 : decode cX11_layLeft 18 = .ok (.if_icmp .ne 7, 3) := by decide +kernel
theorem dX11_layLeft_21 : decode cX11_layLeft 21 = .ok (.iconst 0, 1) := by decide +kernel
theorem dX11_layLeft_22 : decode cX11_layLeft 22 = .ok (.goto 6, 3) := by decide +kernel
theorem dX11_layLeft_25 : decode cX11_layLeft 25 = .ok (.ldc_w 464, 3) := by decide +kernel
theorem dX11_layLeft_28 : decode cX11_layLeft 28 = .ok (.iastore, 1) := by decide +kernel
theorem dX11_layLeft_29 : decode cX11_layLeft 29 = .ok (.iinc 3 1, 3) := by decide +kernel
theorem dX11_layLeft_32 : decode cX11_layLeft 32 = .ok (.goto (-30), 3) := by decide +kernel
theorem dX11_layLeft_35 : decode cX11_layLeft 35 = .ok (.iconst 1, 1) := by decide +kernel
theorem dX11_layLeft_36 : decode cX11_layLeft 36 = .ok (.istore_n 3, 1) := by decide +kernel
theorem dX11_layLeft_37 : decode cX11_layLeft 37 = .ok (.iload_n 3, 1) := by decide +kernel
theorem dX11_layLeft_38 : decode cX11_layLeft 38 = .ok (.ifCond .eq 96, 3) := by decide +kernel
theorem dX11_layLeft_41 : decode cX11_layLeft 41 = .ok (.iconst 0, 1) := by decide +kernel
theorem dX11_layLeft_42 : decode cX11_layLeft 42 = .ok (.istore_n 3, 1) := by decide +kernel
theorem dX11_layLeft_43 : decode cX11_layLeft 43 = .ok (.iconst 0, 1) := by decide +kernel
theorem dX11_layLeft_44 : decode cX11_layLeft 44 = .ok (.istore 4, 2) := by decide +kernel
theorem dX11_layLeft_46 : decode cX11_layLeft 46 = .ok (.iload 4, 2) := by decide +kernel
theorem dX11_layLeft_48 : decode cX11_layLeft 48 = .ok (.bipush 16, 2) := by decide +kernel
theorem dX11_layLeft_50 : decode cX11_layLeft 50 = .ok (.if_icmp .ge 81, 3) := by decide +kernel
theorem dX11_layLeft_53 : decode cX11_layLeft 53 = .ok (.iload 4, 2) := by decide +kernel
theorem dX11_layLeft_55 : decode cX11_layLeft 55 = .ok (.bipush 8, 2) := by decide +kernel
theorem dX11_layLeft_57 : decode cX11_layLeft 57 = .ok (.irem, 1) := by decide +kernel
theorem dX11_layLeft_58 : decode cX11_layLeft 58 = .ok (.istore 5, 2) := by decide +kernel
theorem dX11_layLeft_60 : decode cX11_layLeft 60 = .ok (.iload 5, 2) := by decide +kernel
theorem dX11_layLeft_62 : decode cX11_layLeft 62 = .ok (.iload_n 2, 1) := by decide +kernel
theorem dX11_layLeft_63 : decode cX11_layLeft 63 = .ok (.if_icmp .eq 12, 3) := by decide +kernel
theorem dX11_layLeft_66 : decode cX11_layLeft 66 = .ok (.iload 5, 2) := by decide +kernel
theorem dX11_layLeft_68 : decode cX11_layLeft 68 = .ok (.aload_n 0, 1) := by decide +kernel
theorem dX11_layLeft_69 : decode cX11_layLeft 69 = .ok (.getfield 392, 3) := by decide +kernel
theorem dX11_layLeft_72 : decode cX11_layLeft 72 = .ok (.if_icmp .lt 13, 3) := by decide +kernel
theorem dX11_layLeft_75 : decode cX11_layLeft 75 = .ok (.aload_n 0, 1) := by decide +kernel
theorem dX11_layLeft_76 : decode cX11_layLeft 76 = .ok (.getfield 109, 3) := by decide +kernel
theorem dX11_layLeft_79 : decode cX11_layLeft 79 = .ok (.iload 4, 2) := by decide +kernel
theorem dX11_layLeft_81 : decode cX11_layLeft 81 = .ok (.iaload, 1) := by decide +kernel
theorem dX11_layLeft_82 : decode cX11_layLeft 82 = .ok (.goto 15, 3) := by decide +kernel
theorem dX11_layLeft_85 : decode cX11_layLeft 85 = .ok (.aload_n 0, 1) := by decide +kernel
theorem dX11_layLeft_86 : decode cX11_layLeft 86 = .ok (.iload 5, 2) := by decide +kernel
theorem dX11_layLeft_88 : decode cX11_layLeft 88 = .ok (.iload 4, 2) := by decide +kernel
theorem dX11_layLeft_90 : decode cX11_layLeft 90 = .ok (.bipush 8, 2) := by decide +kernel
theorem dX11_layLeft_92 : decode cX11_layLeft 92 = .ok (.idiv, 1) := by decide +kernel
theorem dX11_layLeft_93 : decode cX11_layLeft 93 = .ok (.iload_n 1, 1) := by decide +kernel
theorem dX11_layLeft_94 : decode cX11_layLeft 94 = .ok (.invokevirtual 468, 3) := by decide +kernel
theorem dX11_layLeft_97 : decode cX11_layLeft 97 = .ok (.istore 6, 2) := by decide +kernel
theorem dX11_layLeft_99 : decode cX11_layLeft 99 = .ok (.iload 6, 2) := by decide +kernel
theorem dX11_layLeft_101 : decode cX11_layLeft 101 = .ok (.aload_n 0, 1) := by decide +kernel
theorem dX11_layLeft_102 : decode cX11_layLeft 102 = .ok (.getfield 109, 3) := by decide +kernel
theorem dX11_layLeft_105 : decode cX11_layLeft 105 = .ok (.iload 4, 2) := by decide +kernel
theorem dX11_layLeft_107 : decode cX11_layLeft 107 = .ok (.iaload, 1) := by decide +kernel
theorem dX11_layLeft_108 : decode cX11_layLeft 108 = .ok (.if_icmp .lt 6, 3) := by decide +kernel
theorem dX11_layLeft_111 : decode cX11_layLeft 111 = .ok (.goto 14, 3) := by decide +kernel
theorem dX11_layLeft_114 : decode cX11_layLeft 114 = .ok (.aload_n 0, 1) := by decide +kernel
theorem dX11_layLeft_115 : decode cX11_layLeft 115 = .ok (.getfield 109, 3) := by decide +kernel
theorem dX11_layLeft_118 : decode cX11_layLeft 118 = .ok (.iload 4, 2) := by decide +kernel
theorem dX11_layLeft_120 : decode cX11_layLeft 120 = .ok (.iload 6, 2) := by decide +kernel
theorem dX11_layLeft_122 : decode cX11_layLeft 122 = .ok (.iastore, 1) := by decide +kernel
theorem dX11_layLeft_123 : decode cX11_layLeft 123 = .ok (.iconst 1, 1) := by decide +kernel
theorem dX11_layLeft_124 : decode cX11_layLeft 124 = .ok (.istore_n 3, 1) := by decide +kernel
theorem dX11_layLeft_125 : decode cX11_layLeft 125 = .ok (.iinc 4 1, 3) := by decide +kernel
theorem dX11_layLeft_128 : decode cX11_layLeft 128 = .ok (.goto (-82), 3) := by decide +kernel
theorem dX11_layLeft_131 : decode cX11_layLeft 131 = .ok (.goto (-94), 3) := by decide +kernel
theorem dX11_layLeft_134 : decode cX11_layLeft 134 = .ok (.return_, 1) := by decide +kernel
theorem dX11_way_0 : decode cX11_way 0 = .ok (.aload_n 0, 1) := by decide +kernel
theorem dX11_way_1 : decode cX11_way 1 = .ok (.iconst 0, 1) := by decide +kernel
theorem dX11_way_2 : decode cX11_way 2 = .ok (.putfield 413, 3) := by decide +kernel
theorem dX11_way_5 : decode cX11_way 5 = .ok (.aload_n 0, 1) := by decide +kernel
theorem dX11_way_6 : decode cX11_way 6 = .ok (.iload_n 1, 1) := by decide +kernel
theorem dX11_way_7 : decode cX11_way 7 = .ok (.invokevirtual 471, 3) := by decide +kernel
theorem dX11_way_10 : decode cX11_way 10 = .ok (.ifCond .eq 11, 3) := by decide +kernel
theorem dX11_way_13 : decode cX11_way 13 = .ok (.aload_n 0, 1) := by decide +kernel
theorem dX11_way_14 : decode cX11_way 14 = .ok (.iload_n 2, 1) := by decide +kernel
theorem dX11_way_15 : decode cX11_way 15 = .ok (.invokevirtual 443, 3) := by decide +kernel
theorem dX11_way_18 : decode cX11_way 18 = .ok (.ifCond .ne 5, 3) := by decide +kernel
theorem dX11_way_21 : decode cX11_way 21 = .ok (.iconst (-1), 1) := by decide +kernel
theorem dX11_way_22 : decode cX11_way 22 = .ok (.ireturn, 1) := by decide +kernel
theorem dX11_way_23 : decode cX11_way 23 = .ok (.aload_n 0, 1) := by decide +kernel
theorem dX11_way_24 : decode cX11_way 24 = .ok (.iload_n 1, 1) := by decide +kernel
theorem dX11_way_25 : decode cX11_way 25 = .ok (.iload_n 2, 1) := by decide +kernel
theorem dX11_way_26 : decode cX11_way 26 = .ok (.invokevirtual 474, 3) := by decide +kernel
theorem dX11_way_29 : decode cX11_way 29 = .ok (.aload_n 0, 1) := by decide +kernel
theorem dX11_way_30 : decode cX11_way 30 = .ok (.getfield 109, 3) := by decide +kernel
theorem dX11_way_33 : decode cX11_way 33 = .ok (.aload_n 0, 1) := by decide +kernel
theorem dX11_way_34 : decode cX11_way 34 = .ok (.getfield 100, 3) := by decide +kernel
theorem dX11_way_37 : decode cX11_way 37 = .ok (.iconst 0, 1) := by decide +kernel
theorem dX11_way_38 : decode cX11_way 38 = .ok (.iaload, 1) := by decide +kernel
theorem dX11_way_39 : decode cX11_way 39 = .ok (.iaload, 1) := by decide +kernel
theorem dX11_way_40 : decode cX11_way 40 = .ok (.istore_n 3, 1) := by decide +kernel
theorem dX11_way_41 : decode cX11_way 41 = .ok (.iload_n 3, 1) := by decide +kernel
theorem dX11_way_42 : decode cX11_way 42 = .ok (.ldc_w 464, 3) := by decide +kernel
theorem dX11_way_45 : decode cX11_way 45 = .ok (.if_icmp .lt 5, 3) := by decide +kernel
theorem dX11_way_48 : decode cX11_way 48 = .ok (.iconst (-1), 1) := by decide +kernel
theorem dX11_way_49 : decode cX11_way 49 = .ok (.ireturn, 1) := by decide +kernel
theorem dX11_way_50 : decode cX11_way 50 = .ok (.aload_n 0, 1) := by decide +kernel
theorem dX11_way_51 : decode cX11_way 51 = .ok (.getfield 100, 3) := by decide +kernel
theorem dX11_way_54 : decode cX11_way 54 = .ok (.iconst 0, 1) := by decide +kernel
theorem dX11_way_55 : decode cX11_way 55 = .ok (.iaload, 1) := by decide +kernel
theorem dX11_way_56 : decode cX11_way 56 = .ok (.istore 4, 2) := by decide +kernel
theorem dX11_way_58 : decode cX11_way 58 = .ok (.iconst 0, 1) := by decide +kernel
theorem dX11_way_59 : decode cX11_way 59 = .ok (.istore 5, 2) := by decide +kernel
theorem dX11_way_61 : decode cX11_way 61 = .ok (.iload 5, 2) := by decide +kernel
theorem dX11_way_63 : decode cX11_way 63 = .ok (.iload_n 3, 1) := by decide +kernel
theorem dX11_way_64 : decode cX11_way 64 = .ok (.if_icmp .ge 108, 3) := by decide +kernel
theorem dX11_way_67 : decode cX11_way 67 = .ok (.iload 5, 2) := by decide +kernel
theorem dX11_way_69 : decode cX11_way 69 = .ok (.iconst 2, 1) := by decide +kernel
theorem dX11_way_70 : decode cX11_way 70 = .ok (.irem, 1) := by decide +kernel
theorem dX11_way_71 : decode cX11_way 71 = .ok (.istore 6, 2) := by decide +kernel
theorem dX11_way_73 : decode cX11_way 73 = .ok (.iconst 0, 1) := by decide +kernel
theorem dX11_way_74 : decode cX11_way 74 = .ok (.istore 7, 2) := by decide +kernel
theorem dX11_way_76 : decode cX11_way 76 = .ok (.aload_n 0, 1) := by decide +kernel
theorem dX11_way_77 : decode cX11_way 77 = .ok (.getfield 75, 3) := by decide +kernel
theorem dX11_way_80 : decode cX11_way 80 = .ok (.iload 7, 2) := by decide +kernel
theorem dX11_way_82 : decode cX11_way 82 = .ok (.iaload, 1) := by decide +kernel
theorem dX11_way_83 : decode cX11_way 83 = .ok (.iload 4, 2) := by decide +kernel
theorem dX11_way_85 : decode cX11_way 85 = .ok (.if_icmp .ne 57, 3) := by decide +kernel
theorem dX11_way_88 : decode cX11_way 88 = .ok (.aload_n 0, 1) := by decide +kernel
theorem dX11_way_89 : decode cX11_way 89 = .ok (.aload_n 0, 1) := by decide +kernel
theorem dX11_way_90 : decode cX11_way 90 = .ok (.iload 6, 2) := by decide +kernel
theorem dX11_way_92 : decode cX11_way 92 = .ok (.iload_n 1, 1) := by decide +kernel
theorem dX11_way_93 : decode cX11_way 93 = .ok (.invokevirtual 465, 3) := by decide +kernel
theorem dX11_way_96 : decode cX11_way 96 = .ok (.iload 7, 2) := by decide +kernel
theorem dX11_way_98 : decode cX11_way 98 = .ok (.invokevirtual 427, 3) := by decide +kernel
theorem dX11_way_101 : decode cX11_way 101 = .ok (.ifCond .eq 41, 3) := by decide +kernel
theorem dX11_way_104 : decode cX11_way 104 = .ok (.aload_n 0, 1) := by decide +kernel
theorem dX11_way_105 : decode cX11_way 105 = .ok (.getfield 109, 3) := by decide +kernel
theorem dX11_way_108 : decode cX11_way 108 = .ok (.bipush 8, 2) := by decide +kernel
theorem dX11_way_110 : decode cX11_way 110 = .ok (.iconst 1, 1) := by decide +kernel
theorem dX11_way_111 : decode cX11_way 111 = .ok (.iload 6, 2) := by decide +kernel
theorem dX11_way_113 : decode cX11_way 113 = .ok (.isub, 1) := by decide +kernel
theorem dX11_way_114 : decode cX11_way 114 = .ok (.imul, 1) := by decide +kernel
theorem dX11_way_115 : decode cX11_way 115 = .ok (.aload_n 0, 1) := by decide +kernel
theorem dX11_way_116 : decode cX11_way 116 = .ok (.getfield 78, 3) := by decide +kernel
theorem dX11_way_119 : decode cX11_way 119 = .ok (.iload 7, 2) := by decide +kernel
theorem dX11_way_121 : decode cX11_way 121 = .ok (.iaload, 1) := by decide +kernel
theorem dX11_way_122 : decode cX11_way 122 = .ok (.iadd, 1) := by decide +kernel
theorem dX11_way_123 : decode cX11_way 123 = .ok (.iaload, 1) := by decide +kernel
theorem dX11_way_124 : decode cX11_way 124 = .ok (.iconst 1, 1) := by decide +kernel
theorem dX11_way_125 : decode cX11_way 125 = .ok (.iadd, 1) := by decide +kernel
theorem dX11_way_126 : decode cX11_way 126 = .ok (.aload_n 0, 1) := by decide +kernel
theorem dX11_way_127 : decode cX11_way 127 = .ok (.getfield 109, 3) := by decide +kernel
theorem dX11_way_130 : decode cX11_way 130 = .ok (.bipush 8, 2) := by decide +kernel
theorem dX11_way_132 : decode cX11_way 132 = .ok (.iload 6, 2) := by decide +kernel
theorem dX11_way_134 : decode cX11_way 134 = .ok (.imul, 1) := by decide +kernel
theorem dX11_way_135 : decode cX11_way 135 = .ok (.iload 4, 2) := by decide +kernel
theorem dX11_way_137 : decode cX11_way 137 = .ok (.iadd, 1) := by decide +kernel
theorem dX11_way_138 : decode cX11_way 138 = .ok (.iaload, 1) := by decide +kernel
theorem dX11_way_139 : decode cX11_way 139 = .ok (.if_icmp .eq 9, 3) := by decide +kernel
theorem dX11_way_142 : decode cX11_way 142 = .ok (.iinc 7 1, 3) := by decide +kernel
theorem dX11_way_145 : decode cX11_way 145 = .ok (.goto (-69), 3) := by decide +kernel
theorem dX11_way_148 : decode cX11_way 148 = .ok (.aload_n 0, 1) := by decide +kernel
theorem dX11_way_149 : decode cX11_way 149 = .ok (.getfield 112, 3) := by decide +kernel
theorem dX11_way_152 : decode cX11_way 152 = .ok (.iload 5, 2) := by decide +kernel
theorem dX11_way_154 : decode cX11_way 154 = .ok (.iload 7, 2) := by decide +kernel
theorem dX11_way_156 : decode cX11_way 156 = .ok (.iastore, 1) := by decide +kernel
theorem dX11_way_157 : decode cX11_way 157 = .ok (.aload_n 0, 1) := by decide +kernel
theorem dX11_way_158 : decode cX11_way 158 = .ok (.getfield 78, 3) := by decide +kernel
theorem dX11_way_161 : decode cX11_way 161 = .ok (.iload 7, 2) := by decide +kernel
theorem dX11_way_163 : decode cX11_way 163 = .ok (.iaload, 1) := by decide +kernel
theorem dX11_way_164 : decode cX11_way 164 = .ok (.istore 4, 2) := by decide +kernel
theorem dX11_way_166 : decode cX11_way 166 = .ok (.iinc 5 1, 3) := by decide +kernel
theorem dX11_way_169 : decode cX11_way 169 = .ok (.goto (-108), 3) := by decide +kernel
theorem dX11_way_172 : decode cX11_way 172 = .ok (.aload_n 0, 1) := by decide +kernel
theorem dX11_way_173 : decode cX11_way 173 = .ok (.iload_n 3, 1) := by decide +kernel
theorem dX11_way_174 : decode cX11_way 174 = .ok (.putfield 413, 3) := by decide +kernel
theorem dX11_way_177 : decode cX11_way 177 = .ok (.iload_n 3, 1) := by decide +kernel
theorem dX11_way_178 : decode cX11_way 178 = .ok (.ireturn, 1) := by decide +kernel
theorem dX11_divisor_0 : decode cX11_divisor 0 = .ok (.iload_n 0, 1) := by decide +kernel
theorem dX11_divisor_1 : decode cX11_divisor 1 = .ok (.istore_n 2, 1) := by decide +kernel
theorem dX11_divisor_2 : decode cX11_divisor 2 = .ok (.iload_n 1, 1) := by decide +kernel
theorem dX11_divisor_3 : decode cX11_divisor 3 = .ok (.istore_n 3, 1) := by decide +kernel
theorem dX11_divisor_4 : decode cX11_divisor 4 = .ok (.iload_n 3, 1) := by decide +kernel
theorem dX11_divisor_5 : decode cX11_divisor 5 = .ok (.ifCond .le 16, 3) := by decide +kernel
theorem dX11_divisor_8 : decode cX11_divisor 8 = .ok (.iload_n 2, 1) := by decide +kernel
theorem dX11_divisor_9 : decode cX11_divisor 9 = .ok (.iload_n 3, 1) := by decide +kernel
theorem dX11_divisor_10 : decode cX11_divisor 10 = .ok (.irem, 1) := by decide +kernel
theorem dX11_divisor_11 : decode cX11_divisor 11 = .ok (.istore 4, 2) := by decide +kernel
theorem dX11_divisor_13 : decode cX11_divisor 13 = .ok (.iload_n 3, 1) := by decide +kernel
theorem dX11_divisor_14 : decode cX11_divisor 14 = .ok (.istore_n 2, 1) := by decide +kernel
theorem dX11_divisor_15 : decode cX11_divisor 15 = .ok (.iload 4, 2) := by decide +kernel
theorem dX11_divisor_17 : decode cX11_divisor 17 = .ok (.istore_n 3, 1) := by decide +kernel
theorem dX11_divisor_18 : decode cX11_divisor 18 = .ok (.goto (-14), 3) := by decide +kernel
theorem dX11_divisor_21 : decode cX11_divisor 21 = .ok (.iload_n 2, 1) := by decide +kernel
theorem dX11_divisor_22 : decode cX11_divisor 22 = .ok (.ireturn, 1) := by decide +kernel
theorem dX11_power_0 : decode cX11_power 0 = .ok (.iconst 1, 1) := by decide +kernel
theorem dX11_power_1 : decode cX11_power 1 = .ok (.istore_n 2, 1) := by decide +kernel
theorem dX11_power_2 : decode cX11_power 2 = .ok (.iconst 0, 1) := by decide +kernel
theorem dX11_power_3 : decode cX11_power 3 = .ok (.istore_n 3, 1) := by decide +kernel
theorem dX11_power_4 : decode cX11_power 4 = .ok (.iload_n 3, 1) := by decide +kernel
theorem dX11_power_5 : decode cX11_power 5 = .ok (.iload_n 1, 1) := by decide +kernel
theorem dX11_power_6 : decode cX11_power 6 = .ok (.if_icmp .ge 13, 3) := by decide +kernel
theorem dX11_power_9 : decode cX11_power 9 = .ok (.iload_n 2, 1) := by decide +kernel
theorem dX11_power_10 : decode cX11_power 10 = .ok (.iload_n 0, 1) := by decide +kernel
theorem dX11_power_11 : decode cX11_power 11 = .ok (.imul, 1) := by decide +kernel
theorem dX11_power_12 : decode cX11_power 12 = .ok (.istore_n 2, 1) := by decide +kernel
theorem dX11_power_13 : decode cX11_power 13 = .ok (.iinc 3 1, 3) := by decide +kernel
theorem dX11_power_16 : decode cX11_power 16 = .ok (.goto (-12), 3) := by decide +kernel
theorem dX11_power_19 : decode cX11_power 19 = .ok (.iload_n 2, 1) := by decide +kernel
theorem dX11_power_20 : decode cX11_power 20 = .ok (.ireturn, 1) := by decide +kernel
theorem dX11_surely_0 : decode cX11_surely 0 = .ok (.iload 4, 2) := by decide +kernel
theorem dX11_surely_2 : decode cX11_surely 2 = .ok (.istore 5, 2) := by decide +kernel
theorem dX11_surely_4 : decode cX11_surely 4 = .ok (.iload_n 3, 1) := by decide +kernel
theorem dX11_surely_5 : decode cX11_surely 5 = .ok (.iconst 1, 1) := by decide +kernel
theorem dX11_surely_6 : decode cX11_surely 6 = .ok (.isub, 1) := by decide +kernel
theorem dX11_surely_7 : decode cX11_surely 7 = .ok (.istore 6, 2) := by decide +kernel
theorem dX11_surely_9 : decode cX11_surely 9 = .ok (.iload 6, 2) := by decide +kernel
theorem dX11_surely_11 : decode cX11_surely 11 = .ok (.ifCond .lt 32, 3) := by decide +kernel
theorem dX11_surely_14 : decode cX11_surely 14 = .ok (.aload_n 0, 1) := by decide +kernel
theorem dX11_surely_15 : decode cX11_surely 15 = .ok (.getfield 115, 3) := by decide +kernel
theorem dX11_surely_18 : decode cX11_surely 18 = .ok (.iload 6, 2) := by decide +kernel
theorem dX11_surely_20 : decode cX11_surely 20 = .ok (.iload 5, 2) := by decide +kernel
theorem dX11_surely_22 : decode cX11_surely 22 = .ok (.aload_n 0, 1) := by decide +kernel
theorem dX11_surely_23 : decode cX11_surely 23 = .ok (.getfield 398, 3) := by decide +kernel
theorem dX11_surely_26 : decode cX11_surely 26 = .ok (.irem, 1) := by decide +kernel
theorem dX11_surely_27 : decode cX11_surely 27 = .ok (.iastore, 1) := by decide +kernel
theorem dX11_surely_28 : decode cX11_surely 28 = .ok (.iload 5, 2) := by decide +kernel
theorem dX11_surely_30 : decode cX11_surely 30 = .ok (.aload_n 0, 1) := by decide +kernel
theorem dX11_surely_31 : decode cX11_surely 31 = .ok (.getfield 398, 3) := by decide +kernel
theorem dX11_surely_34 : decode cX11_surely 34 = .ok (.idiv, 1) := by decide +kernel
theorem dX11_surely_35 : decode cX11_surely 35 = .ok (.istore 5, 2) := by decide +kernel
theorem dX11_surely_37 : decode cX11_surely 37 = .ok (.iinc 6 (-1), 3) := by decide +kernel
theorem dX11_surely_40 : decode cX11_surely 40 = .ok (.goto (-31), 3) := by decide +kernel
theorem dX11_surely_43 : decode cX11_surely 43 = .ok (.aload_n 0, 1) := by decide +kernel
theorem dX11_surely_44 : decode cX11_surely 44 = .ok (.getfield 100, 3) := by decide +kernel
theorem dX11_surely_47 : decode cX11_surely 47 = .ok (.iconst 0, 1) := by decide +kernel
theorem dX11_surely_48 : decode cX11_surely 48 = .ok (.iaload, 1) := by decide +kernel
theorem dX11_surely_49 : decode cX11_surely 49 = .ok (.istore 6, 2) := by decide +kernel
theorem dX11_surely_51 : decode cX11_surely 51 = .ok (.iconst 1, 1) := by decide +kernel
theorem dX11_surely_52 : decode cX11_surely 52 = .ok (.istore 7, 2) := by decide +kernel
theorem dX11_surely_54 : decode cX11_surely 54 = .ok (.iconst 0, 1) := by decide +kernel
theorem dX11_surely_55 : decode cX11_surely 55 = .ok (.istore 8, 2) := by decide +kernel
theorem dX11_surely_57 : decode cX11_surely 57 = .ok (.iload 8, 2) := by decide +kernel
theorem dX11_surely_59 : decode cX11_surely 59 = .ok (.iload_n 3, 1) := by decide +kernel
theorem dX11_surely_60 : decode cX11_surely 60 = .ok (.if_icmp .ge 79, 3) := by decide +kernel
theorem dX11_surely_63 : decode cX11_surely 63 = .ok (.aload_n 0, 1) := by decide +kernel
theorem dX11_surely_64 : decode cX11_surely 64 = .ok (.getfield 115, 3) := by decide +kernel
theorem dX11_surely_67 : decode cX11_surely 67 = .ok (.iload 8, 2) := by decide +kernel
theorem dX11_surely_69 : decode cX11_surely 69 = .ok (.iaload, 1) := by decide +kernel
theorem dX11_surely_70 : decode cX11_surely 70 = .ok (.istore 9, 2) := by decide +kernel
theorem dX11_surely_72 : decode cX11_surely 72 = .ok (.aload_n 0, 1) := by decide +kernel
theorem dX11_surely_73 : decode cX11_surely 73 = .ok (.iload 8, 2) := by decide +kernel
theorem dX11_surely_75 : decode cX11_surely 75 = .ok (.iconst 2, 1) := by decide +kernel
theorem dX11_surely_76 : decode cX11_surely 76 = .ok (.irem, 1) := by decide +kernel
theorem dX11_surely_77 : decode cX11_surely 77 = .ok (.iload_n 1, 1) := by decide +kernel
theorem dX11_surely_78 : decode cX11_surely 78 = .ok (.invokevirtual 465, 3) := by decide +kernel
theorem dX11_surely_81 : decode cX11_surely 81 = .ok (.istore 10, 2) := by decide +kernel
theorem dX11_surely_83 : decode cX11_surely 83 = .ok (.aload_n 0, 1) := by decide +kernel
theorem dX11_surely_84 : decode cX11_surely 84 = .ok (.getfield 75, 3) := by decide +kernel
theorem dX11_surely_87 : decode cX11_surely 87 = .ok (.iload 9, 2) := by decide +kernel
theorem dX11_surely_89 : decode cX11_surely 89 = .ok (.iaload, 1) := by decide +kernel
theorem dX11_surely_90 : decode cX11_surely 90 = .ok (.iload 6, 2) := by decide +kernel
theorem dX11_surely_92 : decode cX11_surely 92 = .ok (.if_icmp .ne 14, 3) := by decide +kernel
theorem dX11_surely_95 : decode cX11_surely 95 = .ok (.aload_n 0, 1) := by decide +kernel
theorem dX11_surely_96 : decode cX11_surely 96 = .ok (.iload 10, 2) := by decide +kernel
theorem dX11_surely_98 : decode cX11_surely 98 = .ok (.iload 9, 2) := by decide +kernel
theorem dX11_surely_100 : decode cX11_surely 100 = .ok (.invokevirtual 427, 3) := by decide +kernel
theorem dX11_surely_103 : decode cX11_surely 103 = .ok (.ifCond .ne 5, 3) := by decide +kernel
theorem dX11_surely_106 : decode cX11_surely 106 = .ok (.iconst (-1), 1) := by decide +kernel
theorem dX11_surely_107 : decode cX11_surely 107 = .ok (.ireturn, 1) := by decide +kernel
theorem dX11_surely_108 : decode cX11_surely 108 = .ok (.iload 7, 2) := by decide +kernel
theorem dX11_surely_110 : decode cX11_surely 110 = .ok (.bipush 100, 2) := by decide +kernel
theorem dX11_surely_112 : decode cX11_surely 112 = .ok (.aload_n 0, 1) := by decide +kernel
theorem dX11_surely_113 : decode cX11_surely 113 = .ok (.iload 10, 2) := by decide +kernel
theorem dX11_surely_115 : decode cX11_surely 115 = .ok (.iload 9, 2) := by decide +kernel
theorem dX11_surely_117 : decode cX11_surely 117 = .ok (.invokevirtual 449, 3) := by decide +kernel
theorem dX11_surely_120 : decode cX11_surely 120 = .ok (.isub, 1) := by decide +kernel
theorem dX11_surely_121 : decode cX11_surely 121 = .ok (.imul, 1) := by decide +kernel
theorem dX11_surely_122 : decode cX11_surely 122 = .ok (.istore 7, 2) := by decide +kernel
theorem dX11_surely_124 : decode cX11_surely 124 = .ok (.aload_n 0, 1) := by decide +kernel
theorem dX11_surely_125 : decode cX11_surely 125 = .ok (.getfield 78, 3) := by decide +kernel
theorem dX11_surely_128 : decode cX11_surely 128 = .ok (.iload 9, 2) := by decide +kernel
theorem dX11_surely_130 : decode cX11_surely 130 = .ok (.iaload, 1) := by decide +kernel
theorem dX11_surely_131 : decode cX11_surely 131 = .ok (.istore 6, 2) := by decide +kernel
theorem dX11_surely_133 : decode cX11_surely 133 = .ok (.iinc 8 1, 3) := by decide +kernel
theorem dX11_surely_136 : decode cX11_surely 136 = .ok (.goto (-79), 3) := by decide +kernel
theorem dX11_surely_139 : decode cX11_surely 139 = .ok (.iload 6, 2) := by decide +kernel
theorem dX11_surely_141 : decode cX11_surely 141 = .ok (.iload_n 2, 1) := by decide +kernel
theorem dX11_surely_142 : decode cX11_surely 142 = .ok (.if_icmp .ne 8, 3) := by decide +kernel
theorem dX11_surely_145 : decode cX11_surely 145 = .ok (.iload 7, 2) := by decide +kernel
theorem dX11_surely_147 : decode cX11_surely 147 = .ok (.goto 4, 3) := by decide +kernel
theorem dX11_surely_150 : decode cX11_surely 150 = .ok (.iconst (-1), 1) := by decide +kernel
theorem dX11_surely_151 : decode cX11_surely 151 = .ok (.ireturn, 1) := by decide +kernel
theorem dX11_surest_0 : decode cX11_surest 0 = .ok (.aload_n 0, 1) := by decide +kernel
theorem dX11_surest_1 : decode cX11_surest 1 = .ok (.iconst 0, 1) := by decide +kernel
theorem dX11_surest_2 : decode cX11_surest 2 = .ok (.putfield 413, 3) := by decide +kernel
theorem dX11_surest_5 : decode cX11_surest 5 = .ok (.aload_n 0, 1) := by decide +kernel
theorem dX11_surest_6 : decode cX11_surest 6 = .ok (.iload_n 1, 1) := by decide +kernel
theorem dX11_surest_7 : decode cX11_surest 7 = .ok (.invokevirtual 471, 3) := by decide +kernel
theorem dX11_surest_10 : decode cX11_surest 10 = .ok (.ifCond .eq 20, 3) := by decide +kernel
theorem dX11_surest_13 : decode cX11_surest 13 = .ok (.aload_n 0, 1) := by decide +kernel
theorem dX11_surest_14 : decode cX11_surest 14 = .ok (.iload_n 2, 1) := by decide +kernel
theorem dX11_surest_15 : decode cX11_surest 15 = .ok (.invokevirtual 443, 3) := by decide +kernel
theorem dX11_surest_18 : decode cX11_surest 18 = .ok (.ifCond .eq 12, 3) := by decide +kernel
theorem dX11_surest_21 : decode cX11_surest 21 = .ok (.iload_n 3, 1) := by decide +kernel
theorem dX11_surest_22 : decode cX11_surest 22 = .ok (.iconst 0, 1) := by decide +kernel
theorem dX11_surest_23 : decode cX11_surest 23 = .ok (.iconst 1, 1) := by decide +kernel
theorem dX11_surest_24 : decode cX11_surest 24 = .ok (.invokestatic 416, 3) := by decide +kernel
theorem dX11_surest_27 : decode cX11_surest 27 = .ok (.ifCond .ne 5, 3) := by decide +kernel
theorem dX11_surest_30 : decode cX11_surest 30 = .ok (.iconst (-1), 1) := by decide +kernel
theorem dX11_surest_31 : decode cX11_surest 31 = .ok (.ireturn, 1) := by decide +kernel
theorem dX11_surest_32 : decode cX11_surest 32 = .ok (.iconst (-1), 1) := by decide +kernel
theorem dX11_surest_33 : decode cX11_surest 33 = .ok (.istore 4, 2) := by decide +kernel
theorem dX11_surest_35 : decode cX11_surest 35 = .ok (.iconst 0, 1) := by decide +kernel
theorem dX11_surest_36 : decode cX11_surest 36 = .ok (.istore 5, 2) := by decide +kernel
theorem dX11_surest_38 : decode cX11_surest 38 = .ok (.iconst 0, 1) := by decide +kernel
theorem dX11_surest_39 : decode cX11_surest 39 = .ok (.istore 6, 2) := by decide +kernel
theorem dX11_surest_41 : decode cX11_surest 41 = .ok (.iload 6, 2) := by decide +kernel
theorem dX11_surest_43 : decode cX11_surest 43 = .ok (.iconst 4, 1) := by decide +kernel
theorem dX11_surest_44 : decode cX11_surest 44 = .ok (.if_icmp .gt 121, 3) := by decide +kernel
theorem dX11_surest_47 : decode cX11_surest 47 = .ok (.aload_n 0, 1) := by decide +kernel
theorem dX11_surest_48 : decode cX11_surest 48 = .ok (.getfield 398, 3) := by decide +kernel
theorem dX11_surest_51 : decode cX11_surest 51 = .ok (.iload 6, 2) := by decide +kernel
theorem dX11_surest_53 : decode cX11_surest 53 = .ok (.invokestatic 477, 3) := by decide +kernel
theorem dX11_surest_56 : decode cX11_surest 56 = .ok (.istore 7, 2) := by decide +kernel
theorem dX11_surest_58 : decode cX11_surest 58 = .ok (.iconst 0, 1) := by decide +kernel
theorem dX11_surest_59 : decode cX11_surest 59 = .ok (.istore 8, 2) := by decide +kernel
theorem dX11_surest_61 : decode cX11_surest 61 = .ok (.iload 8, 2) := by decide +kernel
theorem dX11_surest_63 : decode cX11_surest 63 = .ok (.iload 7, 2) := by decide +kernel
theorem dX11_surest_65 : decode cX11_surest 65 = .ok (.if_icmp .ge 94, 3) := by decide +kernel
theorem dX11_surest_68 : decode cX11_surest 68 = .ok (.aload_n 0, 1) := by decide +kernel
theorem dX11_surest_69 : decode cX11_surest 69 = .ok (.iload_n 1, 1) := by decide +kernel
theorem dX11_surest_70 : decode cX11_surest 70 = .ok (.iload_n 2, 1) := by decide +kernel
theorem dX11_surest_71 : decode cX11_surest 71 = .ok (.iload 6, 2) := by decide +kernel
theorem dX11_surest_73 : decode cX11_surest 73 = .ok (.iload 8, 2) := by decide +kernel
theorem dX11_surest_75 : decode cX11_surest 75 = .ok (.invokevirtual 480, 3) := by decide +kernel
theorem dX11_surest_78 : decode cX11_surest 78 = .ok (.istore 9, 2) := by decide +kernel
theorem dX11_surest_80 : decode cX11_surest 80 = .ok (.iload 9, 2) := by decide +kernel
theorem dX11_surest_82 : decode cX11_surest 82 = .ok (.ifCond .lt 71, 3) := by decide +kernel
theorem dX11_surest_85 : decode cX11_surest 85 = .ok (.iload 9, 2) := by decide +kernel
theorem dX11_surest_87 : decode cX11_surest 87 = .ok (.bipush 100, 2) := by decide +kernel
theorem dX11_surest_89 : decode cX11_surest 89 = .ok (.iconst 4, 1) := by decide +kernel
theorem dX11_surest_90 : decode cX11_surest 90 = .ok (.iload 6, 2) := by decide +kernel
theorem dX11_surest_92 : decode cX11_surest 92 = .ok (.isub, 1) := by decide +kernel
theorem dX11_surest_93 : decode cX11_surest 93 = .ok (.invokestatic 477, 3) := by decide +kernel
theorem dX11_surest_96 : decode cX11_surest 96 = .ok (.imul, 1) := by decide +kernel
theorem dX11_surest_97 : decode cX11_surest 97 = .ok (.iload 4, 2) := by decide +kernel
theorem dX11_surest_99 : decode cX11_surest 99 = .ok (.if_icmp .gt 6, 3) := by decide +kernel
theorem dX11_surest_102 : decode cX11_surest 102 = .ok (.goto 51, 3) := by decide +kernel
theorem dX11_surest_105 : decode cX11_surest 105 = .ok (.iload 9, 2) := by decide +kernel
theorem dX11_surest_107 : decode cX11_surest 107 = .ok (.bipush 100, 2) := by decide +kernel
theorem dX11_surest_109 : decode cX11_surest 109 = .ok (.iconst 4, 1) := by decide +kernel
theorem dX11_surest_110 : decode cX11_surest 110 = .ok (.iload 6, 2) := by decide +kernel
theorem dX11_surest_112 : decode cX11_surest 112 = .ok (.isub, 1) := by decide +kernel
theorem dX11_surest_113 : decode cX11_surest 113 = .ok (.invokestatic 477, 3) := by decide +kernel
theorem dX11_surest_116 : decode cX11_surest 116 = .ok (.imul, 1) := by decide +kernel
theorem dX11_surest_117 : decode cX11_surest 117 = .ok (.istore 4, 2) := by decide +kernel
theorem dX11_surest_119 : decode cX11_surest 119 = .ok (.iload 6, 2) := by decide +kernel
theorem dX11_surest_121 : decode cX11_surest 121 = .ok (.istore 5, 2) := by decide +kernel
theorem dX11_surest_123 : decode cX11_surest 123 = .ok (.iconst 0, 1) := by decide +kernel
theorem dX11_surest_124 : decode cX11_surest 124 = .ok (.istore 10, 2) := by decide +kernel
theorem dX11_surest_126 : decode cX11_surest 126 = .ok (.iload 10, 2) := by decide +kernel
theorem dX11_surest_128 : decode cX11_surest 128 = .ok (.iload 6, 2) := by decide +kernel
theorem dX11_surest_130 : decode cX11_surest 130 = .ok (.if_icmp .ge 23, 3) := by decide +kernel
theorem dX11_surest_133 : decode cX11_surest 133 = .ok (.aload_n 0, 1) := by decide +kernel
theorem dX11_surest_134 : decode cX11_surest 134 = .ok (.getfield 112, 3) := by decide +kernel
theorem dX11_surest_137 : decode cX11_surest 137 = .ok (.iload 10, 2) := by decide +kernel
theorem dX11_surest_139 : decode cX11_surest 139 = .ok (.aload_n 0, 1) := by decide +kernel
theorem dX11_surest_140 : decode cX11_surest 140 = .ok (.getfield 115, 3) := by decide +kernel
theorem dX11_surest_143 : decode cX11_surest 143 = .ok (.iload 10, 2) := by decide +kernel
theorem dX11_surest_145 : decode cX11_surest 145 = .ok (.iaload, 1) := by decide +kernel
theorem dX11_surest_146 : decode cX11_surest 146 = .ok (.iastore, 1) := by decide +kernel
theorem dX11_surest_147 : decode cX11_surest 147 = .ok (.iinc 10 1, 3) := by decide +kernel
theorem dX11_surest_150 : decode cX11_surest 150 = .ok (.goto (-24), 3) := by decide +kernel
theorem dX11_surest_153 : decode cX11_surest 153 = .ok (.iinc 8 1, 3) := by decide +kernel
theorem dX11_surest_156 : decode cX11_surest 156 = .ok (.goto (-95), 3) := by decide +kernel
theorem dX11_surest_159 : decode cX11_surest 159 = .ok (.iinc 6 1, 3) := by decide +kernel
theorem dX11_surest_162 : decode cX11_surest 162 = .ok (.goto (-121), 3) := by decide +kernel
theorem dX11_surest_165 : decode cX11_surest 165 = .ok (.iload 4, 2) := by decide +kernel
theorem dX11_surest_167 : decode cX11_surest 167 = .ok (.ifCond .ge 5, 3) := by decide +kernel
theorem dX11_surest_170 : decode cX11_surest 170 = .ok (.iconst (-1), 1) := by decide +kernel
theorem dX11_surest_171 : decode cX11_surest 171 = .ok (.ireturn, 1) := by decide +kernel
theorem dX11_surest_172 : decode cX11_surest 172 = .ok (.aload_n 0, 1) := by decide +kernel
theorem dX11_surest_173 : decode cX11_surest 173 = .ok (.iload 5, 2) := by decide +kernel
theorem dX11_surest_175 : decode cX11_surest 175 = .ok (.putfield 413, 3) := by decide +kernel
theorem dX11_surest_178 : decode cX11_surest 178 = .ok (.bipush 100, 2) := by decide +kernel
theorem dX11_surest_180 : decode cX11_surest 180 = .ok (.iconst 4, 1) := by decide +kernel
theorem dX11_surest_181 : decode cX11_surest 181 = .ok (.invokestatic 477, 3) := by decide +kernel
theorem dX11_surest_184 : decode cX11_surest 184 = .ok (.istore 6, 2) := by decide +kernel
theorem dX11_surest_186 : decode cX11_surest 186 = .ok (.iload 6, 2) := by decide +kernel
theorem dX11_surest_188 : decode cX11_surest 188 = .ok (.iload 4, 2) := by decide +kernel
theorem dX11_surest_190 : decode cX11_surest 190 = .ok (.invokestatic 484, 3) := by decide +kernel
theorem dX11_surest_193 : decode cX11_surest 193 = .ok (.istore 7, 2) := by decide +kernel
theorem dX11_surest_195 : decode cX11_surest 195 = .ok (.iload_n 3, 1) := by decide +kernel
theorem dX11_surest_196 : decode cX11_surest 196 = .ok (.ifCond .ne 11, 3) := by decide +kernel
theorem dX11_surest_199 : decode cX11_surest 199 = .ok (.iload 4, 2) := by decide +kernel
theorem dX11_surest_201 : decode cX11_surest 201 = .ok (.iload 7, 2) := by decide +kernel
theorem dX11_surest_203 : decode cX11_surest 203 = .ok (.idiv, 1) := by decide +kernel
theorem dX11_surest_204 : decode cX11_surest 204 = .ok (.goto 8, 3) := by decide +kernel
theorem dX11_surest_207 : decode cX11_surest 207 = .ok (.iload 6, 2) := by decide +kernel
theorem dX11_surest_209 : decode cX11_surest 209 = .ok (.iload 7, 2) := by decide +kernel
theorem dX11_surest_211 : decode cX11_surest 211 = .ok (.idiv, 1) := by decide +kernel
theorem dX11_surest_212 : decode cX11_surest 212 = .ok (.ireturn, 1) := by decide +kernel
theorem dX11_spreads_0 : decode cX11_spreads 0 = .ok (.iconst 0, 1) := by decide +kernel
theorem dX11_spreads_1 : decode cX11_spreads 1 = .ok (.istore_n 2, 1) := by decide +kernel
theorem dX11_spreads_2 : decode cX11_spreads 2 = .ok (.iconst 0, 1) := by decide +kernel
theorem dX11_spreads_3 : decode cX11_spreads 3 = .ok (.istore_n 3, 1) := by decide +kernel
theorem dX11_spreads_4 : decode cX11_spreads 4 = .ok (.iload_n 3, 1) := by decide +kernel
theorem dX11_spreads_5 : decode cX11_spreads 5 = .ok (.bipush 8, 2) := by decide +kernel
theorem dX11_spreads_7 : decode cX11_spreads 7 = .ok (.aload_n 0, 1) := by decide +kernel
theorem dX11_spreads_8 : decode cX11_spreads 8 = .ok (.getfield 395, 3) := by decide +kernel
theorem dX11_spreads_11 : decode cX11_spreads 11 = .ok (.imul, 1) := by decide +kernel
theorem dX11_spreads_12 : decode cX11_spreads 12 = .ok (.if_icmp .ge 138, 3) := by decide +kernel
theorem dX11_spreads_15 : decode cX11_spreads 15 = .ok (.aload_n 0, 1) := by decide +kernel
theorem dX11_spreads_16 : decode cX11_spreads 16 = .ok (.getfield 118, 3) := by decide +kernel
theorem dX11_spreads_19 : decode cX11_spreads 19 = .ok (.iload_n 3, 1) := by decide +kernel
theorem dX11_spreads_20 : decode cX11_spreads 20 = .ok (.baload, 1) := by decide +kernel
theorem dX11_spreads_21 : decode cX11_spreads 21 = .ok (.ifCond .ne 6, 3) := by decide +kernel
theorem dX11_spreads_24 : decode cX11_spreads 24 = .ok (.goto 120, 3) := by decide +kernel
theorem dX11_spreads_27 : decode cX11_spreads 27 = .ok (.iconst 0, 1) := by decide +kernel
theorem dX11_spreads_28 : decode cX11_spreads 28 = .ok (.istore 4, 2) := by decide +kernel
theorem dX11_spreads_30 : decode cX11_spreads 30 = .ok (.iload 4, 2) := by decide +kernel
theorem dX11_spreads_32 : decode cX11_spreads 32 = .ok (.aload_n 0, 1) := by decide +kernel
theorem dX11_spreads_33 : decode cX11_spreads 33 = .ok (.getfield 398, 3) := by decide +kernel
theorem dX11_spreads_36 : decode cX11_spreads 36 = .ok (.if_icmp .ge 108, 3) := by decide +kernel
theorem dX11_spreads_39 : decode cX11_spreads 39 = .ok (.iconst 0, 1) := by decide +kernel
theorem dX11_spreads_40 : decode cX11_spreads 40 = .ok (.istore 5, 2) := by decide +kernel
theorem dX11_spreads_42 : decode cX11_spreads 42 = .ok (.iload 5, 2) := by decide +kernel
theorem dX11_spreads_44 : decode cX11_spreads 44 = .ok (.aload_n 0, 1) := by decide +kernel
theorem dX11_spreads_45 : decode cX11_spreads 45 = .ok (.getfield 395, 3) := by decide +kernel
theorem dX11_spreads_48 : decode cX11_spreads 48 = .ok (.if_icmp .ge 90, 3) := by decide +kernel
theorem dX11_spreads_51 : decode cX11_spreads 51 = .ok (.aload_n 0, 1) := by decide +kernel
theorem dX11_spreads_52 : decode cX11_spreads 52 = .ok (.getfield 75, 3) := by decide +kernel
theorem dX11_spreads_55 : decode cX11_spreads 55 = .ok (.iload 4, 2) := by decide +kernel
theorem dX11_spreads_57 : decode cX11_spreads 57 = .ok (.iaload, 1) := by decide +kernel
theorem dX11_spreads_58 : decode cX11_spreads 58 = .ok (.iload_n 3, 1) := by decide +kernel
theorem dX11_spreads_59 : decode cX11_spreads 59 = .ok (.bipush 8, 2) := by decide +kernel
theorem dX11_spreads_61 : decode cX11_spreads 61 = .ok (.irem, 1) := by decide +kernel
theorem dX11_spreads_62 : decode cX11_spreads 62 = .ok (.if_icmp .ne 76, 3) := by decide +kernel
theorem dX11_spreads_65 : decode cX11_spreads 65 = .ok (.bipush 8, 2) := by decide +kernel
theorem dX11_spreads_67 : decode cX11_spreads 67 = .ok (.iload 5, 2) := by decide +kernel
theorem dX11_spreads_69 : decode cX11_spreads 69 = .ok (.imul, 1) := by decide +kernel
theorem dX11_spreads_70 : decode cX11_spreads 70 = .ok (.aload_n 0, 1) := by decide +kernel
theorem dX11_spreads_71 : decode cX11_spreads 71 = .ok (.getfield 78, 3) := by decide +kernel
theorem dX11_spreads_74 : decode cX11_spreads 74 = .ok (.iload 4, 2) := by decide +kernel
theorem dX11_spreads_76 : decode cX11_spreads 76 = .ok (.iaload, 1) := by decide +kernel
theorem dX11_spreads_77 : decode cX11_spreads 77 = .ok (.iadd, 1) := by decide +kernel
theorem dX11_spreads_78 : decode cX11_spreads 78 = .ok (.istore 6, 2) := by decide +kernel
theorem dX11_spreads_80 : decode cX11_spreads 80 = .ok (.iload_n 1, 1) := by decide +kernel
theorem dX11_spreads_81 : decode cX11_spreads 81 = .ok (.iload 5, 2) := by decide +kernel
theorem dX11_spreads_83 : decode cX11_spreads 83 = .ok (.ishr, 1) := by decide +kernel
theorem dX11_spreads_84 : decode cX11_spreads 84 = .ok (.iconst 1, 1) := by decide +kernel
theorem dX11_spreads_85 : decode cX11_spreads 85 = .ok (.iand, 1) := by decide +kernel
theorem dX11_spreads_86 : decode cX11_spreads 86 = .ok (.ifCond .eq 46, 3) := by decide +kernel
theorem dX11_spreads_89 : decode cX11_spreads 89 = .ok (.iload 5, 2) := by decide +kernel
theorem dX11_spreads_91 : decode cX11_spreads 91 = .ok (.iload_n 3, 1) := by decide +kernel
theorem dX11_spreads_92 : decode cX11_spreads 92 = .ok (.bipush 8, 2) := by decide +kernel
theorem dX11_spreads_94 : decode cX11_spreads 94 = .ok (.idiv, 1) := by decide +kernel
theorem dX11_spreads_95 : decode cX11_spreads 95 = .ok (.if_icmp .eq 37, 3) := by decide +kernel
theorem dX11_spreads_98 : decode cX11_spreads 98 = .ok (.aload_n 0, 1) := by decide +kernel
theorem dX11_spreads_99 : decode cX11_spreads 99 = .ok (.iload 5, 2) := by decide +kernel
theorem dX11_spreads_101 : decode cX11_spreads 101 = .ok (.iload 4, 2) := by decide +kernel
theorem dX11_spreads_103 : decode cX11_spreads 103 = .ok (.invokevirtual 427, 3) := by decide +kernel
theorem dX11_spreads_106 : decode cX11_spreads 106 = .ok (.ifCond .eq 26, 3) := by decide +kernel
theorem dX11_spreads_109 : decode cX11_spreads 109 = .ok (.aload_n 0, 1) := by decide +kernel
theorem dX11_spreads_110 : decode cX11_spreads 110 = .ok (.getfield 118, 3) := by decide +kernel
theorem dX11_spreads_113 : decode cX11_spreads 113 = .ok (.iload 6, 2) := by decide +kernel
theorem dX11_spreads_115 : decode cX11_spreads 115 = .ok (.baload, 1) := by decide +kernel
theorem dX11_spreads_116 : decode cX11_spreads 116 = .ok (.ifCond .eq 6, 3) := by decide +kernel
theorem dX11_spreads_119 : decode cX11_spreads 119 = .ok (.goto 13, 3) := by decide +kernel
theorem dX11_spreads_122 : decode cX11_spreads 122 = .ok (.aload_n 0, 1) := by decide +kernel
theorem dX11_spreads_123 : decode cX11_spreads 123 = .ok (.getfield 118, 3) := by decide +kernel
theorem dX11_spreads_126 : decode cX11_spreads 126 = .ok (.iload 6, 2) := by decide +kernel
theorem dX11_spreads_128 : decode cX11_spreads 128 = .ok (.iconst 1, 1) := by decide +kernel
theorem dX11_spreads_129 : decode cX11_spreads 129 = .ok (.bastore, 1) := by decide +kernel
theorem dX11_spreads_130 : decode cX11_spreads 130 = .ok (.iconst 1, 1) := by decide +kernel
theorem dX11_spreads_131 : decode cX11_spreads 131 = .ok (.istore_n 2, 1) := by decide +kernel
theorem dX11_spreads_132 : decode cX11_spreads 132 = .ok (.iinc 5 1, 3) := by decide +kernel
theorem dX11_spreads_135 : decode cX11_spreads 135 = .ok (.goto (-93), 3) := by decide +kernel
theorem dX11_spreads_138 : decode cX11_spreads 138 = .ok (.iinc 4 1, 3) := by decide +kernel
theorem dX11_spreads_141 : decode cX11_spreads 141 = .ok (.goto (-111), 3) := by decide +kernel
theorem dX11_spreads_144 : decode cX11_spreads 144 = .ok (.iinc 3 1, 3) := by decide +kernel
theorem dX11_spreads_147 : decode cX11_spreads 147 = .ok (.goto (-143), 3) := by decide +kernel
theorem dX11_spreads_150 : decode cX11_spreads 150 = .ok (.iload_n 2, 1) := by decide +kernel
theorem dX11_spreads_151 : decode cX11_spreads 151 = .ok (.ireturn, 1) := by decide +kernel
theorem dX11_madeBy_0 : decode cX11_madeBy 0 = .ok (.iconst 0, 1) := by decide +kernel
theorem dX11_madeBy_1 : decode cX11_madeBy 1 = .ok (.istore_n 2, 1) := by decide +kernel
theorem dX11_madeBy_2 : decode cX11_madeBy 2 = .ok (.iconst 0, 1) := by decide +kernel
theorem dX11_madeBy_3 : decode cX11_madeBy 3 = .ok (.istore_n 3, 1) := by decide +kernel
theorem dX11_madeBy_4 : decode cX11_madeBy 4 = .ok (.iload_n 3, 1) := by decide +kernel
theorem dX11_madeBy_5 : decode cX11_madeBy 5 = .ok (.bipush 40, 2) := by decide +kernel
theorem dX11_madeBy_7 : decode cX11_madeBy 7 = .ok (.if_icmp .ge 16, 3) := by decide +kernel
theorem dX11_madeBy_10 : decode cX11_madeBy 10 = .ok (.aload_n 0, 1) := by decide +kernel
theorem dX11_madeBy_11 : decode cX11_madeBy 11 = .ok (.getfield 118, 3) := by decide +kernel
theorem dX11_madeBy_14 : decode cX11_madeBy 14 = .ok (.iload_n 3, 1) := by decide +kernel
theorem dX11_madeBy_15 : decode cX11_madeBy 15 = .ok (.iconst 0, 1) := by decide +kernel
theorem dX11_madeBy_16 : decode cX11_madeBy 16 = .ok (.bastore, 1) := by decide +kernel
theorem dX11_madeBy_17 : decode cX11_madeBy 17 = .ok (.iinc 3 1, 3) := by decide +kernel
theorem dX11_madeBy_20 : decode cX11_madeBy 20 = .ok (.goto (-16), 3) := by decide +kernel
theorem dX11_madeBy_23 : decode cX11_madeBy 23 = .ok (.aload_n 0, 1) := by decide +kernel
theorem dX11_madeBy_24 : decode cX11_madeBy 24 = .ok (.getfield 395, 3) := by decide +kernel
theorem dX11_madeBy_27 : decode cX11_madeBy 27 = .ok (.ifCond .ne 23, 3) := by decide +kernel
theorem dX11_madeBy_30 : decode cX11_madeBy 30 = .ok (.aload_n 0, 1) := by decide +kernel
theorem dX11_madeBy_31 : decode cX11_madeBy 31 = .ok (.getfield 392, 3) := by decide +kernel
theorem dX11_madeBy_34 : decode cX11_madeBy 34 = .ok (.ifCond .ne 7, 3) := by decide +kernel
theorem dX11_madeBy_37 : decode cX11_madeBy 37 = .ok (.iconst 0, 1) := by decide +kernel
theorem dX11_madeBy_38 : decode cX11_madeBy 38 = .ok (.goto 11, 3) := by decide +kernel
theorem dX11_madeBy_41 : decode cX11_madeBy 41 = .ok (.iconst 1, 1) := by decide +kernel
theorem dX11_madeBy_42 : decode cX11_madeBy 42 = .ok (.aload_n 0, 1) := by decide +kernel
theorem dX11_madeBy_43 : decode cX11_madeBy 43 = .ok (.getfield 100, 3) := by decide +kernel
theorem dX11_madeBy_46 : decode cX11_madeBy 46 = .ok (.iconst 0, 1) := by decide +kernel
theorem dX11_madeBy_47 : decode cX11_madeBy 47 = .ok (.iaload, 1) := by decide +kernel
theorem dX11_madeBy_48 : decode cX11_madeBy 48 = .ok (.ishl, 1) := by decide +kernel
theorem dX11_madeBy_49 : decode cX11_madeBy 49 = .ok (.ireturn, 1) := by decide +kernel
theorem dX11_madeBy_50 : decode cX11_madeBy 50 = .ok (.aload_n 0, 1) := by decide +kernel
theorem dX11_madeBy_51 : decode cX11_madeBy 51 = .ok (.getfield 392, 3) := by decide +kernel
theorem dX11_madeBy_54 : decode cX11_madeBy 54 = .ok (.ifCond .ne 5, 3) := by decide +kernel
theorem dX11_madeBy_57 : decode cX11_madeBy 57 = .ok (.iconst 0, 1) := by decide +kernel
theorem dX11_madeBy_58 : decode cX11_madeBy 58 = .ok (.ireturn, 1) := by decide +kernel
theorem dX11_madeBy_59 : decode cX11_madeBy 59 = .ok (.aload_n 0, 1) := by decide +kernel
theorem dX11_madeBy_60 : decode cX11_madeBy 60 = .ok (.getfield 118, 3) := by decide +kernel
theorem dX11_madeBy_63 : decode cX11_madeBy 63 = .ok (.bipush 8, 2) := by decide +kernel
theorem dX11_madeBy_65 : decode cX11_madeBy 65 = .ok (.aload_n 0, 1) := by decide +kernel
theorem dX11_madeBy_66 : decode cX11_madeBy 66 = .ok (.getfield 100, 3) := by decide +kernel
theorem dX11_madeBy_69 : decode cX11_madeBy 69 = .ok (.iconst 1, 1) := by decide +kernel
theorem dX11_madeBy_70 : decode cX11_madeBy 70 = .ok (.iaload, 1) := by decide +kernel
theorem dX11_madeBy_71 : decode cX11_madeBy 71 = .ok (.imul, 1) := by decide +kernel
theorem dX11_madeBy_72 : decode cX11_madeBy 72 = .ok (.aload_n 0, 1) := by decide +kernel
theorem dX11_madeBy_73 : decode cX11_madeBy 73 = .ok (.getfield 100, 3) := by decide +kernel
theorem dX11_madeBy_76 : decode cX11_madeBy 76 = .ok (.iconst 0, 1) := by decide +kernel
theorem dX11_madeBy_77 : decode cX11_madeBy 77 = .ok (.iaload, 1) := by decide +kernel
theorem dX11_madeBy_78 : decode cX11_madeBy 78 = .ok (.iadd, 1) := by decide +kernel
theorem dX11_madeBy_79 : decode cX11_madeBy 79 = .ok (.iconst 1, 1) := by decide +kernel
theorem dX11_madeBy_80 : decode cX11_madeBy 80 = .ok (.bastore, 1) := by decide +kernel
theorem dX11_madeBy_81 : decode cX11_madeBy 81 = .ok (.iconst 1, 1) := by decide +kernel
theorem dX11_madeBy_82 : decode cX11_madeBy 82 = .ok (.istore_n 3, 1) := by decide +kernel
theorem dX11_madeBy_83 : decode cX11_madeBy 83 = .ok (.iload_n 3, 1) := by decide +kernel
theorem dX11_madeBy_84 : decode cX11_madeBy 84 = .ok (.ifCond .eq 21, 3) := by decide +kernel
theorem dX11_madeBy_87 : decode cX11_madeBy 87 = .ok (.aload_n 0, 1) := by decide +kernel
theorem dX11_madeBy_88 : decode cX11_madeBy 88 = .ok (.iload_n 1, 1) := by decide +kernel
theorem dX11_madeBy_89 : decode cX11_madeBy 89 = .ok (.iconst 1, 1) := by decide +kernel
theorem dX11_madeBy_90 : decode cX11_madeBy 90 = .ok (.aload_n 0, 1) := by decide +kernel
theorem dX11_madeBy_91 : decode cX11_madeBy 91 = .ok (.getfield 100, 3) := by decide +kernel
theorem dX11_madeBy_94 : decode cX11_madeBy 94 = .ok (.iconst 1, 1) := by decide +kernel
theorem dX11_madeBy_95 : decode cX11_madeBy 95 = .ok (.iaload, 1) := by decide +kernel
theorem dX11_madeBy_96 : decode cX11_madeBy 96 = .ok (.ishl, 1) := by decide +kernel
theorem dX11_madeBy_97 : decode cX11_madeBy 97 = .ok (.ior, 1) := by decide +kernel
theorem dX11_madeBy_98 : decode cX11_madeBy 98 = .ok (.invokevirtual 487, 3) := by decide +kernel
theorem dX11_madeBy_101 : decode cX11_madeBy 101 = .ok (.istore_n 3, 1) := by decide +kernel
theorem dX11_madeBy_102 : decode cX11_madeBy 102 = .ok (.goto (-19), 3) := by decide +kernel
theorem dX11_madeBy_105 : decode cX11_madeBy 105 = .ok (.iconst 0, 1) := by decide +kernel
theorem dX11_madeBy_106 : decode cX11_madeBy 106 = .ok (.istore 4, 2) := by decide +kernel
theorem dX11_madeBy_108 : decode cX11_madeBy 108 = .ok (.iload 4, 2) := by decide +kernel
theorem dX11_madeBy_110 : decode cX11_madeBy 110 = .ok (.bipush 8, 2) := by decide +kernel
theorem dX11_madeBy_112 : decode cX11_madeBy 112 = .ok (.aload_n 0, 1) := by decide +kernel
theorem dX11_madeBy_113 : decode cX11_madeBy 113 = .ok (.getfield 395, 3) := by decide +kernel
theorem dX11_madeBy_116 : decode cX11_madeBy 116 = .ok (.imul, 1) := by decide +kernel
theorem dX11_madeBy_117 : decode cX11_madeBy 117 = .ok (.if_icmp .ge 29, 3) := by decide +kernel
theorem dX11_madeBy_120 : decode cX11_madeBy 120 = .ok (.aload_n 0, 1) := by decide +kernel
theorem dX11_madeBy_121 : decode cX11_madeBy 121 = .ok (.getfield 118, 3) := by decide +kernel
theorem dX11_madeBy_124 : decode cX11_madeBy 124 = .ok (.iload 4, 2) := by decide +kernel
theorem dX11_madeBy_126 : decode cX11_madeBy 126 = .ok (.baload, 1) := by decide +kernel
theorem dX11_madeBy_127 : decode cX11_madeBy 127 = .ok (.ifCond .eq 13, 3) := by decide +kernel
theorem dX11_madeBy_130 : decode cX11_madeBy 130 = .ok (.iload_n 2, 1) := by decide +kernel
theorem dX11_madeBy_131 : decode cX11_madeBy 131 = .ok (.iconst 1, 1) := by decide +kernel
theorem dX11_madeBy_132 : decode cX11_madeBy 132 = .ok (.iload 4, 2) := by decide +kernel
theorem dX11_madeBy_134 : decode cX11_madeBy 134 = .ok (.bipush 8, 2) := by decide +kernel
theorem dX11_madeBy_136 : decode cX11_madeBy 136 = .ok (.irem, 1) := by decide +kernel
theorem dX11_madeBy_137 : decode cX11_madeBy 137 = .ok (.ishl, 1) := by decide +kernel
theorem dX11_madeBy_138 : decode cX11_madeBy 138 = .ok (.ior, 1) := by decide +kernel
theorem dX11_madeBy_139 : decode cX11_madeBy 139 = .ok (.istore_n 2, 1) := by decide +kernel
theorem dX11_madeBy_140 : decode cX11_madeBy 140 = .ok (.iinc 4 1, 3) := by decide +kernel
theorem dX11_madeBy_143 : decode cX11_madeBy 143 = .ok (.goto (-35), 3) := by decide +kernel
theorem dX11_madeBy_146 : decode cX11_madeBy 146 = .ok (.iload_n 2, 1) := by decide +kernel
theorem dX11_madeBy_147 : decode cX11_madeBy 147 = .ok (.ireturn, 1) := by decide +kernel
theorem dX11_makes_0 : decode cX11_makes 0 = .ok (.iload_n 1, 1) := by decide +kernel
theorem dX11_makes_1 : decode cX11_makes 1 = .ok (.iconst 0, 1) := by decide +kernel
theorem dX11_makes_2 : decode cX11_makes 2 = .ok (.iconst 1, 1) := by decide +kernel
theorem dX11_makes_3 : decode cX11_makes 3 = .ok (.aload_n 0, 1) := by decide +kernel
theorem dX11_makes_4 : decode cX11_makes 4 = .ok (.getfield 395, 3) := by decide +kernel
theorem dX11_makes_7 : decode cX11_makes 7 = .ok (.ishl, 1) := by decide +kernel
theorem dX11_makes_8 : decode cX11_makes 8 = .ok (.iconst 1, 1) := by decide +kernel
theorem dX11_makes_9 : decode cX11_makes 9 = .ok (.isub, 1) := by decide +kernel
theorem dX11_makes_10 : decode cX11_makes 10 = .ok (.invokestatic 416, 3) := by decide +kernel
theorem dX11_makes_13 : decode cX11_makes 13 = .ok (.ifCond .eq 11, 3) := by decide +kernel
theorem dX11_makes_16 : decode cX11_makes 16 = .ok (.aload_n 0, 1) := by decide +kernel
theorem dX11_makes_17 : decode cX11_makes 17 = .ok (.iload_n 1, 1) := by decide +kernel
theorem dX11_makes_18 : decode cX11_makes 18 = .ok (.invokevirtual 490, 3) := by decide +kernel
theorem dX11_makes_21 : decode cX11_makes 21 = .ok (.goto 4, 3) := by decide +kernel
theorem dX11_makes_24 : decode cX11_makes 24 = .ok (.iconst (-1), 1) := by decide +kernel
theorem dX11_makes_25 : decode cX11_makes 25 = .ok (.ireturn, 1) := by decide +kernel
theorem dX11_members_0 : decode cX11_members 0 = .ok (.iconst 0, 1) := by decide +kernel
theorem dX11_members_1 : decode cX11_members 1 = .ok (.istore_n 1, 1) := by decide +kernel
theorem dX11_members_2 : decode cX11_members 2 = .ok (.iconst 0, 1) := by decide +kernel
theorem dX11_members_3 : decode cX11_members 3 = .ok (.istore_n 2, 1) := by decide +kernel
theorem dX11_members_4 : decode cX11_members 4 = .ok (.iload_n 2, 1) := by decide +kernel
theorem dX11_members_5 : decode cX11_members 5 = .ok (.bipush 8, 2) := by decide +kernel
theorem dX11_members_7 : decode cX11_members 7 = .ok (.if_icmp .ge 17, 3) := by decide +kernel
theorem dX11_members_10 : decode cX11_members 10 = .ok (.iload_n 1, 1) := by decide +kernel
theorem dX11_members_11 : decode cX11_members 11 = .ok (.iload_n 0, 1) := by decide +kernel
theorem dX11_members_12 : decode cX11_members 12 = .ok (.iload_n 2, 1) := by decide +kernel
theorem dX11_members_13 : decode cX11_members 13 = .ok (.ishr, 1) := by decide +kernel
theorem dX11_members_14 : decode cX11_members 14 = .ok (.iconst 1, 1) := by decide +kernel
theorem dX11_members_15 : decode cX11_members 15 = .ok (.iand, 1) := by decide +kernel
theorem dX11_members_16 : decode cX11_members 16 = .ok (.iadd, 1) := by decide +kernel
theorem dX11_members_17 : decode cX11_members 17 = .ok (.istore_n 1, 1) := by decide +kernel
theorem dX11_members_18 : decode cX11_members 18 = .ok (.iinc 2 1, 3) := by decide +kernel
theorem dX11_members_21 : decode cX11_members 21 = .ok (.goto (-17), 3) := by decide +kernel
theorem dX11_members_24 : decode cX11_members 24 = .ok (.iload_n 1, 1) := by decide +kernel
theorem dX11_members_25 : decode cX11_members 25 = .ok (.ireturn, 1) := by decide +kernel
theorem dX11_hands_0 : decode cX11_hands 0 = .ok (.aload_n 0, 1) := by decide +kernel
theorem dX11_hands_1 : decode cX11_hands 1 = .ok (.iload_n 1, 1) := by decide +kernel
theorem dX11_hands_2 : decode cX11_hands 2 = .ok (.invokevirtual 443, 3) := by decide +kernel
theorem dX11_hands_5 : decode cX11_hands 5 = .ok (.ifCond .eq 12, 3) := by decide +kernel
theorem dX11_hands_8 : decode cX11_hands 8 = .ok (.iload_n 2, 1) := by decide +kernel
theorem dX11_hands_9 : decode cX11_hands 9 = .ok (.iconst 0, 1) := by decide +kernel
theorem dX11_hands_10 : decode cX11_hands 10 = .ok (.iconst 1, 1) := by decide +kernel
theorem dX11_hands_11 : decode cX11_hands 11 = .ok (.invokestatic 416, 3) := by decide +kernel
theorem dX11_hands_14 : decode cX11_hands 14 = .ok (.ifCond .ne 5, 3) := by decide +kernel
theorem dX11_hands_17 : decode cX11_hands 17 = .ok (.iconst (-1), 1) := by decide +kernel
theorem dX11_hands_18 : decode cX11_hands 18 = .ok (.ireturn, 1) := by decide +kernel
theorem dX11_hands_19 : decode cX11_hands 19 = .ok (.iconst (-1), 1) := by decide +kernel
theorem dX11_hands_20 : decode cX11_hands 20 = .ok (.istore_n 3, 1) := by decide +kernel
theorem dX11_hands_21 : decode cX11_hands 21 = .ok (.iconst 0, 1) := by decide +kernel
theorem dX11_hands_22 : decode cX11_hands 22 = .ok (.istore 4, 2) := by decide +kernel
theorem dX11_hands_24 : decode cX11_hands 24 = .ok (.iload 4, 2) := by decide +kernel
theorem dX11_hands_26 : decode cX11_hands 26 = .ok (.iconst 1, 1) := by decide +kernel
theorem dX11_hands_27 : decode cX11_hands 27 = .ok (.aload_n 0, 1) := by decide +kernel
theorem dX11_hands_28 : decode cX11_hands 28 = .ok (.getfield 395, 3) := by decide +kernel
theorem dX11_hands_31 : decode cX11_hands 31 = .ok (.ishl, 1) := by decide +kernel
theorem dX11_hands_32 : decode cX11_hands 32 = .ok (.if_icmp .ge 79, 3) := by decide +kernel
theorem dX11_hands_35 : decode cX11_hands 35 = .ok (.aload_n 0, 1) := by decide +kernel
theorem dX11_hands_36 : decode cX11_hands 36 = .ok (.getfield 395, 3) := by decide +kernel
theorem dX11_hands_39 : decode cX11_hands 39 = .ok (.ifCond .le 22, 3) := by decide +kernel
theorem dX11_hands_42 : decode cX11_hands 42 = .ok (.iload 4, 2) := by decide +kernel
theorem dX11_hands_44 : decode cX11_hands 44 = .ok (.aload_n 0, 1) := by decide +kernel
theorem dX11_hands_45 : decode cX11_hands 45 = .ok (.getfield 100, 3) := by decide +kernel
theorem dX11_hands_48 : decode cX11_hands 48 = .ok (.iconst 1, 1) := by decide +kernel
theorem dX11_hands_49 : decode cX11_hands 49 = .ok (.iaload, 1) := by decide +kernel
theorem dX11_hands_50 : decode cX11_hands 50 = .ok (.ishr, 1) := by decide +kernel
theorem dX11_hands_51 : decode cX11_hands 51 = .ok (.iconst 1, 1) := by decide +kernel
theorem dX11_hands_52 : decode cX11_hands 52 = .ok (.iand, 1) := by decide +kernel
theorem dX11_hands_53 : decode cX11_hands 53 = .ok (.iconst 1, 1) := by decide +kernel
theorem dX11_hands_54 : decode cX11_hands 54 = .ok (.if_icmp .ne 7, 3) := by decide +kernel
theorem dX11_hands_57 : decode cX11_hands 57 = .ok (.iconst 1, 1) := by decide +kernel
theorem dX11_hands_58 : decode cX11_hands 58 = .ok (.goto 4, 3) := by decide +kernel
theorem dX11_hands_61 : decode cX11_hands 61 = .ok (.iconst 0, 1) := by decide +kernel
theorem dX11_hands_62 : decode cX11_hands 62 = .ok (.istore 5, 2) := by decide +kernel
theorem dX11_hands_64 : decode cX11_hands 64 = .ok (.iload 5, 2) := by decide +kernel
theorem dX11_hands_66 : decode cX11_hands 66 = .ok (.ifCond .ne 39, 3) := by decide +kernel
theorem dX11_hands_69 : decode cX11_hands 69 = .ok (.iload_n 3, 1) := by decide +kernel
theorem dX11_hands_70 : decode cX11_hands 70 = .ok (.ifCond .lt 18, 3) := by decide +kernel
theorem dX11_hands_73 : decode cX11_hands 73 = .ok (.iload 4, 2) := by decide +kernel
theorem dX11_hands_75 : decode cX11_hands 75 = .ok (.invokestatic 493, 3) := by decide +kernel
theorem dX11_hands_78 : decode cX11_hands 78 = .ok (.iload_n 3, 1) := by decide +kernel
theorem dX11_hands_79 : decode cX11_hands 79 = .ok (.invokestatic 493, 3) := by decide +kernel
theorem dX11_hands_82 : decode cX11_hands 82 = .ok (.if_icmp .lt 6, 3) := by decide +kernel
theorem dX11_hands_85 : decode cX11_hands 85 = .ok (.goto 20, 3) := by decide +kernel
theorem dX11_hands_88 : decode cX11_hands 88 = .ok (.aload_n 0, 1) := by decide +kernel
theorem dX11_hands_89 : decode cX11_hands 89 = .ok (.iload 4, 2) := by decide +kernel
theorem dX11_hands_91 : decode cX11_hands 91 = .ok (.invokevirtual 490, 3) := by decide +kernel
theorem dX11_hands_94 : decode cX11_hands 94 = .ok (.iload_n 1, 1) := by decide +kernel
theorem dX11_hands_95 : decode cX11_hands 95 = .ok (.ishr, 1) := by decide +kernel
theorem dX11_hands_96 : decode cX11_hands 96 = .ok (.iconst 1, 1) := by decide +kernel
theorem dX11_hands_97 : decode cX11_hands 97 = .ok (.iand, 1) := by decide +kernel
theorem dX11_hands_98 : decode cX11_hands 98 = .ok (.iconst 1, 1) := by decide +kernel
theorem dX11_hands_99 : decode cX11_hands 99 = .ok (.if_icmp .ne 6, 3) := by decide +kernel
theorem dX11_hands_102 : decode cX11_hands 102 = .ok (.iload 4, 2) := by decide +kernel
theorem dX11_hands_104 : decode cX11_hands 104 = .ok (.istore_n 3, 1) := by decide +kernel
theorem dX11_hands_105 : decode cX11_hands 105 = .ok (.iinc 4 1, 3) := by decide +kernel
theorem dX11_hands_108 : decode cX11_hands 108 = .ok (.goto (-84), 3) := by decide +kernel
theorem dX11_hands_111 : decode cX11_hands 111 = .ok (.iload_n 3, 1) := by decide +kernel
theorem dX11_hands_112 : decode cX11_hands 112 = .ok (.ifCond .ge 7, 3) := by decide +kernel
theorem dX11_hands_115 : decode cX11_hands 115 = .ok (.iconst (-1), 1) := by decide +kernel
theorem dX11_hands_116 : decode cX11_hands 116 = .ok (.goto 15, 3) := by decide +kernel
theorem dX11_hands_119 : decode cX11_hands 119 = .ok (.iload_n 2, 1) := by decide +kernel
theorem dX11_hands_120 : decode cX11_hands 120 = .ok (.ifCond .ne 10, 3) := by decide +kernel
theorem dX11_hands_123 : decode cX11_hands 123 = .ok (.iload_n 3, 1) := by decide +kernel
theorem dX11_hands_124 : decode cX11_hands 124 = .ok (.invokestatic 493, 3) := by decide +kernel
theorem dX11_hands_127 : decode cX11_hands 127 = .ok (.goto 4, 3) := by decide +kernel
theorem dX11_hands_130 : decode cX11_hands 130 = .ok (.iload_n 3, 1) := by decide +kernel
theorem dX11_hands_131 : decode cX11_hands 131 = .ok (.ireturn, 1) := by decide +kernel
theorem dX11_settledBy_0 : decode cX11_settledBy 0 = .ok (.aload_n 0, 1) := by decide +kernel
theorem dX11_settledBy_1 : decode cX11_settledBy 1 = .ok (.iload_n 2, 1) := by decide +kernel
theorem dX11_settledBy_2 : decode cX11_settledBy 2 = .ok (.iload_n 3, 1) := by decide +kernel
theorem dX11_settledBy_3 : decode cX11_settledBy 3 = .ok (.invokevirtual 465, 3) := by decide +kernel
theorem dX11_settledBy_6 : decode cX11_settledBy 6 = .ok (.istore 4, 2) := by decide +kernel
theorem dX11_settledBy_8 : decode cX11_settledBy 8 = .ok (.iload_n 1, 1) := by decide +kernel
theorem dX11_settledBy_9 : decode cX11_settledBy 9 = .ok (.istore 5, 2) := by decide +kernel
theorem dX11_settledBy_11 : decode cX11_settledBy 11 = .ok (.iconst 0, 1) := by decide +kernel
theorem dX11_settledBy_12 : decode cX11_settledBy 12 = .ok (.istore 6, 2) := by decide +kernel
theorem dX11_settledBy_14 : decode cX11_settledBy 14 = .ok (.iload 6, 2) := by decide +kernel
theorem dX11_settledBy_16 : decode cX11_settledBy 16 = .ok (.aload_n 0, 1) := by decide +kernel
theorem dX11_settledBy_17 : decode cX11_settledBy 17 = .ok (.getfield 398, 3) := by decide +kernel
theorem dX11_settledBy_20 : decode cX11_settledBy 20 = .ok (.if_icmp .ge 78, 3) := by decide +kernel
theorem dX11_settledBy_23 : decode cX11_settledBy 23 = .ok (.aload_n 0, 1) := by decide +kernel
theorem dX11_settledBy_24 : decode cX11_settledBy 24 = .ok (.getfield 75, 3) := by decide +kernel
theorem dX11_settledBy_27 : decode cX11_settledBy 27 = .ok (.iload 6, 2) := by decide +kernel
theorem dX11_settledBy_29 : decode cX11_settledBy 29 = .ok (.iaload, 1) := by decide +kernel
theorem dX11_settledBy_30 : decode cX11_settledBy 30 = .ok (.iload_n 1, 1) := by decide +kernel
theorem dX11_settledBy_31 : decode cX11_settledBy 31 = .ok (.if_icmp .ne 61, 3) := by decide +kernel
theorem dX11_settledBy_34 : decode cX11_settledBy 34 = .ok (.aload_n 0, 1) := by decide +kernel
theorem dX11_settledBy_35 : decode cX11_settledBy 35 = .ok (.iload 4, 2) := by decide +kernel
theorem dX11_settledBy_37 : decode cX11_settledBy 37 = .ok (.iload 6, 2) := by decide +kernel
theorem dX11_settledBy_39 : decode cX11_settledBy 39 = .ok (.invokevirtual 427, 3) := by decide +kernel
theorem dX11_settledBy_42 : decode cX11_settledBy 42 = .ok (.ifCond .ne 6, 3) := by decide +kernel
theorem dX11_settledBy_45 : decode cX11_settledBy 45 = .ok (.goto 47, 3) := by decide +kernel
theorem dX11_settledBy_48 : decode cX11_settledBy 48 = .ok (.aload_n 0, 1) := by decide +kernel
theorem dX11_settledBy_49 : decode cX11_settledBy 49 = .ok (.getfield 121, 3) := by decide +kernel
theorem dX11_settledBy_52 : decode cX11_settledBy 52 = .ok (.bipush 8, 2) := by decide +kernel
theorem dX11_settledBy_54 : decode cX11_settledBy 54 = .ok (.iconst 1, 1) := by decide +kernel
theorem dX11_settledBy_55 : decode cX11_settledBy 55 = .ok (.iload_n 2, 1) := by decide +kernel
theorem dX11_settledBy_56 : decode cX11_settledBy 56 = .ok (.isub, 1) := by decide +kernel
theorem dX11_settledBy_57 : decode cX11_settledBy 57 = .ok (.imul, 1) := by decide +kernel
theorem dX11_settledBy_58 : decode cX11_settledBy 58 = .ok (.aload_n 0, 1) := by decide +kernel
theorem dX11_settledBy_59 : decode cX11_settledBy 59 = .ok (.getfield 78, 3) := by decide +kernel
theorem dX11_settledBy_62 : decode cX11_settledBy 62 = .ok (.iload 6, 2) := by decide +kernel
theorem dX11_settledBy_64 : decode cX11_settledBy 64 = .ok (.iaload, 1) := by decide +kernel
theorem dX11_settledBy_65 : decode cX11_settledBy 65 = .ok (.iadd, 1) := by decide +kernel
theorem dX11_settledBy_66 : decode cX11_settledBy 66 = .ok (.iaload, 1) := by decide +kernel
theorem dX11_settledBy_67 : decode cX11_settledBy 67 = .ok (.istore 7, 2) := by decide +kernel
theorem dX11_settledBy_69 : decode cX11_settledBy 69 = .ok (.aload_n 0, 1) := by decide +kernel
theorem dX11_settledBy_70 : decode cX11_settledBy 70 = .ok (.iload 4, 2) := by decide +kernel
theorem dX11_settledBy_72 : decode cX11_settledBy 72 = .ok (.iload 7, 2) := by decide +kernel
theorem dX11_settledBy_74 : decode cX11_settledBy 74 = .ok (.invokevirtual 446, 3) := by decide +kernel
theorem dX11_settledBy_77 : decode cX11_settledBy 77 = .ok (.aload_n 0, 1) := by decide +kernel
theorem dX11_settledBy_78 : decode cX11_settledBy 78 = .ok (.iload 4, 2) := by decide +kernel
theorem dX11_settledBy_80 : decode cX11_settledBy 80 = .ok (.iload 5, 2) := by decide +kernel
theorem dX11_settledBy_82 : decode cX11_settledBy 82 = .ok (.invokevirtual 446, 3) := by decide +kernel
theorem dX11_settledBy_85 : decode cX11_settledBy 85 = .ok (.if_icmp .le 7, 3) := by decide +kernel
theorem dX11_settledBy_88 : decode cX11_settledBy 88 = .ok (.iload 7, 2) := by decide +kernel
theorem dX11_settledBy_90 : decode cX11_settledBy 90 = .ok (.istore 5, 2) := by decide +kernel
theorem dX11_settledBy_92 : decode cX11_settledBy 92 = .ok (.iinc 6 1, 3) := by decide +kernel
theorem dX11_settledBy_95 : decode cX11_settledBy 95 = .ok (.goto (-81), 3) := by decide +kernel
theorem dX11_settledBy_98 : decode cX11_settledBy 98 = .ok (.iload 5, 2) := by decide +kernel
theorem dX11_settledBy_100 : decode cX11_settledBy 100 = .ok (.ireturn, 1) := by decide +kernel
theorem dX11_deal_0 : decode cX11_deal 0 = .ok (.aload_n 0, 1) := by decide +kernel
theorem dX11_deal_1 : decode cX11_deal 1 = .ok (.iload_n 1, 1) := by decide +kernel
theorem dX11_deal_2 : decode cX11_deal 2 = .ok (.invokevirtual 471, 3) := by decide +kernel
theorem dX11_deal_5 : decode cX11_deal 5 = .ok (.ifCond .eq 20, 3) := by decide +kernel
theorem dX11_deal_8 : decode cX11_deal 8 = .ok (.iload_n 2, 1) := by decide +kernel
theorem dX11_deal_9 : decode cX11_deal 9 = .ok (.iconst 0, 1) := by decide +kernel
theorem dX11_deal_10 : decode cX11_deal 10 = .ok (.bipush 8, 2) := by decide +kernel
theorem dX11_deal_12 : decode cX11_deal 12 = .ok (.invokestatic 416, 3) := by decide +kernel
theorem dX11_deal_15 : decode cX11_deal 15 = .ok (.ifCond .eq 10, 3) := by decide +kernel
theorem dX11_deal_18 : decode cX11_deal 18 = .ok (.aload_n 0, 1) := by decide +kernel
theorem dX11_deal_19 : decode cX11_deal 19 = .ok (.getfield 392, 3) := by decide +kernel
theorem dX11_deal_22 : decode cX11_deal 22 = .ok (.ifCond .ne 5, 3) := by decide +kernel
theorem dX11_deal_25 : decode cX11_deal 25 = .ok (.iconst (-1), 1) := by decide +kernel
theorem dX11_deal_26 : decode cX11_deal 26 = .ok (.ireturn, 1) := by decide +kernel
theorem dX11_deal_27 : decode cX11_deal 27 = .ok (.iconst 0, 1) := by decide +kernel
theorem dX11_deal_28 : decode cX11_deal 28 = .ok (.istore_n 3, 1) := by decide +kernel
theorem dX11_deal_29 : decode cX11_deal 29 = .ok (.iload_n 3, 1) := by decide +kernel
theorem dX11_deal_30 : decode cX11_deal 30 = .ok (.bipush 16, 2) := by decide +kernel
theorem dX11_deal_32 : decode cX11_deal 32 = .ok (.if_icmp .ge 19, 3) := by decide +kernel
theorem dX11_deal_35 : decode cX11_deal 35 = .ok (.aload_n 0, 1) := by decide +kernel
theorem dX11_deal_36 : decode cX11_deal 36 = .ok (.getfield 121, 3) := by decide +kernel
theorem dX11_deal_39 : decode cX11_deal 39 = .ok (.iload_n 3, 1) := by decide +kernel
theorem dX11_deal_40 : decode cX11_deal 40 = .ok (.iload_n 3, 1) := by decide +kernel
theorem dX11_deal_41 : decode cX11_deal 41 = .ok (.bipush 8, 2) := by decide +kernel
theorem dX11_deal_43 : decode cX11_deal 43 = .ok (.irem, 1) := by decide +kernel
theorem dX11_deal_44 : decode cX11_deal 44 = .ok (.iastore, 1) := by decide +kernel
theorem dX11_deal_45 : decode cX11_deal 45 = .ok (.iinc 3 1, 3) := by decide +kernel
theorem dX11_deal_48 : decode cX11_deal 48 = .ok (.goto (-19), 3) := by decide +kernel
theorem dX11_deal_51 : decode cX11_deal 51 = .ok (.iconst 0, 1) := by decide +kernel
theorem dX11_deal_52 : decode cX11_deal 52 = .ok (.istore_n 3, 1) := by decide +kernel
theorem dX11_deal_53 : decode cX11_deal 53 = .ok (.iload_n 3, 1) := by decide +kernel
theorem dX11_deal_54 : decode cX11_deal 54 = .ok (.iload_n 2, 1) := by decide +kernel
theorem dX11_deal_55 : decode cX11_deal 55 = .ok (.if_icmp .ge 93, 3) := by decide +kernel
theorem dX11_deal_58 : decode cX11_deal 58 = .ok (.iconst 0, 1) := by decide +kernel
theorem dX11_deal_59 : decode cX11_deal 59 = .ok (.istore 4, 2) := by decide +kernel
theorem dX11_deal_61 : decode cX11_deal 61 = .ok (.iload 4, 2) := by decide +kernel
theorem dX11_deal_63 : decode cX11_deal 63 = .ok (.bipush 16, 2) := by decide +kernel
theorem dX11_deal_65 : decode cX11_deal 65 = .ok (.if_icmp .ge 47, 3) := by decide +kernel
theorem dX11_deal_68 : decode cX11_deal 68 = .ok (.aload_n 0, 1) := by decide +kernel
theorem dX11_deal_69 : decode cX11_deal 69 = .ok (.getfield 124, 3) := by decide +kernel
theorem dX11_deal_72 : decode cX11_deal 72 = .ok (.iload 4, 2) := by decide +kernel
theorem dX11_deal_74 : decode cX11_deal 74 = .ok (.iload 4, 2) := by decide +kernel
theorem dX11_deal_76 : decode cX11_deal 76 = .ok (.bipush 8, 2) := by decide +kernel
theorem dX11_deal_78 : decode cX11_deal 78 = .ok (.irem, 1) := by decide +kernel
theorem dX11_deal_79 : decode cX11_deal 79 = .ok (.aload_n 0, 1) := by decide +kernel
theorem dX11_deal_80 : decode cX11_deal 80 = .ok (.getfield 392, 3) := by decide +kernel
theorem dX11_deal_83 : decode cX11_deal 83 = .ok (.if_icmp .ge 21, 3) := by decide +kernel
theorem dX11_deal_86 : decode cX11_deal 86 = .ok (.aload_n 0, 1) := by decide +kernel
theorem dX11_deal_87 : decode cX11_deal 87 = .ok (.iload 4, 2) := by decide +kernel
theorem dX11_deal_89 : decode cX11_deal 89 = .ok (.bipush 8, 2) := by decide +kernel
theorem dX11_deal_91 : decode cX11_deal 91 = .ok (.irem, 1) := by decide +kernel
theorem dX11_deal_92 : decode cX11_deal 92 = .ok (.iload 4, 2) := by decide +kernel
theorem dX11_deal_94 : decode cX11_deal 94 = .ok (.bipush 8, 2) := by decide +kernel
theorem dX11_deal_96 : decode cX11_deal 96 = .ok (.idiv, 1) := by decide +kernel
theorem dX11_deal_97 : decode cX11_deal 97 = .ok (.iload_n 1, 1) := by decide +kernel
theorem dX11_deal_98 : decode cX11_deal 98 = .ok (.invokevirtual 496, 3) := by decide +kernel
theorem dX11_deal_101 : decode cX11_deal 101 = .ok (.goto 4, 3) := by decide +kernel
theorem dX11_deal_104 : decode cX11_deal 104 = .ok (.iconst 0, 1) := by decide +kernel
theorem dX11_deal_105 : decode cX11_deal 105 = .ok (.iastore, 1) := by decide +kernel
theorem dX11_deal_106 : decode cX11_deal 106 = .ok (.iinc 4 1, 3) := by decide +kernel
theorem dX11_deal_109 : decode cX11_deal 109 = .ok (.goto (-48), 3) := by decide +kernel
theorem dX11_deal_112 : decode cX11_deal 112 = .ok (.iconst 0, 1) := by decide +kernel
theorem dX11_deal_113 : decode cX11_deal 113 = .ok (.istore 4, 2) := by decide +kernel
theorem dX11_deal_115 : decode cX11_deal 115 = .ok (.iload 4, 2) := by decide +kernel
theorem dX11_deal_117 : decode cX11_deal 117 = .ok (.bipush 16, 2) := by decide +kernel
theorem dX11_deal_119 : decode cX11_deal 119 = .ok (.if_icmp .ge 23, 3) := by decide +kernel
theorem dX11_deal_122 : decode cX11_deal 122 = .ok (.aload_n 0, 1) := by decide +kernel
theorem dX11_deal_123 : decode cX11_deal 123 = .ok (.getfield 121, 3) := by decide +kernel
theorem dX11_deal_126 : decode cX11_deal 126 = .ok (.iload 4, 2) := by decide +kernel
theorem dX11_deal_128 : decode cX11_deal 128 = .ok (.aload_n 0, 1) := by decide +kernel
theorem dX11_deal_129 : decode cX11_deal 129 = .ok (.getfield 124, 3) := by decide +kernel
theorem dX11_deal_132 : decode cX11_deal 132 = .ok (.iload 4, 2) := by decide +kernel
theorem dX11_deal_134 : decode cX11_deal 134 = .ok (.iaload, 1) := by decide +kernel
theorem dX11_deal_135 : decode cX11_deal 135 = .ok (.iastore, 1) := by decide +kernel
theorem dX11_deal_136 : decode cX11_deal 136 = .ok (.iinc 4 1, 3) := by decide +kernel
theorem dX11_deal_139 : decode cX11_deal 139 = .ok (.goto (-24), 3) := by decide +kernel
theorem dX11_deal_142 : decode cX11_deal 142 = .ok (.iinc 3 1, 3) := by decide +kernel
theorem dX11_deal_145 : decode cX11_deal 145 = .ok (.goto (-92), 3) := by decide +kernel
theorem dX11_deal_148 : decode cX11_deal 148 = .ok (.aload_n 0, 1) := by decide +kernel
theorem dX11_deal_149 : decode cX11_deal 149 = .ok (.getfield 121, 3) := by decide +kernel
theorem dX11_deal_152 : decode cX11_deal 152 = .ok (.aload_n 0, 1) := by decide +kernel
theorem dX11_deal_153 : decode cX11_deal 153 = .ok (.getfield 100, 3) := by decide +kernel
theorem dX11_deal_156 : decode cX11_deal 156 = .ok (.iconst 0, 1) := by decide +kernel
theorem dX11_deal_157 : decode cX11_deal 157 = .ok (.iaload, 1) := by decide +kernel
theorem dX11_deal_158 : decode cX11_deal 158 = .ok (.iaload, 1) := by decide +kernel
theorem dX11_deal_159 : decode cX11_deal 159 = .ok (.ireturn, 1) := by decide +kernel
theorem dX11_leastWorth_0 : decode cX11_leastWorth 0 = .ok (.bipush 99, 2) := by decide +kernel
theorem dX11_leastWorth_2 : decode cX11_leastWorth 2 = .ok (.istore_n 2, 1) := by decide +kernel
theorem dX11_leastWorth_3 : decode cX11_leastWorth 3 = .ok (.iconst 0, 1) := by decide +kernel
theorem dX11_leastWorth_4 : decode cX11_leastWorth 4 = .ok (.istore_n 3, 1) := by decide +kernel
theorem dX11_leastWorth_5 : decode cX11_leastWorth 5 = .ok (.iload_n 3, 1) := by decide +kernel
theorem dX11_leastWorth_6 : decode cX11_leastWorth 6 = .ok (.aload_n 0, 1) := by decide +kernel
theorem dX11_leastWorth_7 : decode cX11_leastWorth 7 = .ok (.getfield 395, 3) := by decide +kernel
theorem dX11_leastWorth_10 : decode cX11_leastWorth 10 = .ok (.if_icmp .ge 30, 3) := by decide +kernel
theorem dX11_leastWorth_13 : decode cX11_leastWorth 13 = .ok (.aload_n 0, 1) := by decide +kernel
theorem dX11_leastWorth_14 : decode cX11_leastWorth 14 = .ok (.iload_n 3, 1) := by decide +kernel
theorem dX11_leastWorth_15 : decode cX11_leastWorth 15 = .ok (.iload_n 1, 1) := by decide +kernel
theorem dX11_leastWorth_16 : decode cX11_leastWorth 16 = .ok (.invokevirtual 446, 3) := by decide +kernel
theorem dX11_leastWorth_19 : decode cX11_leastWorth 19 = .ok (.iload_n 2, 1) := by decide +kernel
theorem dX11_leastWorth_20 : decode cX11_leastWorth 20 = .ok (.if_icmp .ge 12, 3) := by decide +kernel
theorem dX11_leastWorth_23 : decode cX11_leastWorth 23 = .ok (.aload_n 0, 1) := by decide +kernel
theorem dX11_leastWorth_24 : decode cX11_leastWorth 24 = .ok (.iload_n 3, 1) := by decide +kernel
theorem dX11_leastWorth_25 : decode cX11_leastWorth 25 = .ok (.iload_n 1, 1) := by decide +kernel
theorem dX11_leastWorth_26 : decode cX11_leastWorth 26 = .ok (.invokevirtual 446, 3) := by decide +kernel
theorem dX11_leastWorth_29 : decode cX11_leastWorth 29 = .ok (.goto 4, 3) := by decide +kernel
theorem dX11_leastWorth_32 : decode cX11_leastWorth 32 = .ok (.iload_n 2, 1) := by decide +kernel
theorem dX11_leastWorth_33 : decode cX11_leastWorth 33 = .ok (.istore_n 2, 1) := by decide +kernel
theorem dX11_leastWorth_34 : decode cX11_leastWorth 34 = .ok (.iinc 3 1, 3) := by decide +kernel
theorem dX11_leastWorth_37 : decode cX11_leastWorth 37 = .ok (.goto (-32), 3) := by decide +kernel
theorem dX11_leastWorth_40 : decode cX11_leastWorth 40 = .ok (.iload_n 2, 1) := by decide +kernel
theorem dX11_leastWorth_41 : decode cX11_leastWorth 41 = .ok (.ireturn, 1) := by decide +kernel
theorem dX11_allWorth_0 : decode cX11_allWorth 0 = .ok (.iconst 0, 1) := by decide +kernel
theorem dX11_allWorth_1 : decode cX11_allWorth 1 = .ok (.istore_n 2, 1) := by decide +kernel
theorem dX11_allWorth_2 : decode cX11_allWorth 2 = .ok (.iconst 0, 1) := by decide +kernel
theorem dX11_allWorth_3 : decode cX11_allWorth 3 = .ok (.istore_n 3, 1) := by decide +kernel
theorem dX11_allWorth_4 : decode cX11_allWorth 4 = .ok (.iload_n 3, 1) := by decide +kernel
theorem dX11_allWorth_5 : decode cX11_allWorth 5 = .ok (.aload_n 0, 1) := by decide +kernel
theorem dX11_allWorth_6 : decode cX11_allWorth 6 = .ok (.getfield 395, 3) := by decide +kernel
theorem dX11_allWorth_9 : decode cX11_allWorth 9 = .ok (.if_icmp .ge 18, 3) := by decide +kernel
theorem dX11_allWorth_12 : decode cX11_allWorth 12 = .ok (.iload_n 2, 1) := by decide +kernel
theorem dX11_allWorth_13 : decode cX11_allWorth 13 = .ok (.aload_n 0, 1) := by decide +kernel
theorem dX11_allWorth_14 : decode cX11_allWorth 14 = .ok (.iload_n 3, 1) := by decide +kernel
theorem dX11_allWorth_15 : decode cX11_allWorth 15 = .ok (.iload_n 1, 1) := by decide +kernel
theorem dX11_allWorth_16 : decode cX11_allWorth 16 = .ok (.invokevirtual 446, 3) := by decide +kernel
theorem dX11_allWorth_19 : decode cX11_allWorth 19 = .ok (.iadd, 1) := by decide +kernel
theorem dX11_allWorth_20 : decode cX11_allWorth 20 = .ok (.istore_n 2, 1) := by decide +kernel
theorem dX11_allWorth_21 : decode cX11_allWorth 21 = .ok (.iinc 3 1, 3) := by decide +kernel
theorem dX11_allWorth_24 : decode cX11_allWorth 24 = .ok (.goto (-20), 3) := by decide +kernel
theorem dX11_allWorth_27 : decode cX11_allWorth 27 = .ok (.iload_n 2, 1) := by decide +kernel
theorem dX11_allWorth_28 : decode cX11_allWorth 28 = .ok (.ireturn, 1) := by decide +kernel
theorem dX11_fair_0 : decode cX11_fair 0 = .ok (.iconst (-1), 1) := by decide +kernel
theorem dX11_fair_1 : decode cX11_fair 1 = .ok (.istore_n 1, 1) := by decide +kernel
theorem dX11_fair_2 : decode cX11_fair 2 = .ok (.iconst 0, 1) := by decide +kernel
theorem dX11_fair_3 : decode cX11_fair 3 = .ok (.istore_n 2, 1) := by decide +kernel
theorem dX11_fair_4 : decode cX11_fair 4 = .ok (.iload_n 2, 1) := by decide +kernel
theorem dX11_fair_5 : decode cX11_fair 5 = .ok (.aload_n 0, 1) := by decide +kernel
theorem dX11_fair_6 : decode cX11_fair 6 = .ok (.getfield 392, 3) := by decide +kernel
theorem dX11_fair_9 : decode cX11_fair 9 = .ok (.if_icmp .ge 57, 3) := by decide +kernel
theorem dX11_fair_12 : decode cX11_fair 12 = .ok (.iload_n 1, 1) := by decide +kernel
theorem dX11_fair_13 : decode cX11_fair 13 = .ok (.ifCond .lt 45, 3) := by decide +kernel
theorem dX11_fair_16 : decode cX11_fair 16 = .ok (.aload_n 0, 1) := by decide +kernel
theorem dX11_fair_17 : decode cX11_fair 17 = .ok (.iload_n 2, 1) := by decide +kernel
theorem dX11_fair_18 : decode cX11_fair 18 = .ok (.invokevirtual 499, 3) := by decide +kernel
theorem dX11_fair_21 : decode cX11_fair 21 = .ok (.aload_n 0, 1) := by decide +kernel
theorem dX11_fair_22 : decode cX11_fair 22 = .ok (.iload_n 1, 1) := by decide +kernel
theorem dX11_fair_23 : decode cX11_fair 23 = .ok (.invokevirtual 499, 3) := by decide +kernel
theorem dX11_fair_26 : decode cX11_fair 26 = .ok (.if_icmp .lt 34, 3) := by decide +kernel
theorem dX11_fair_29 : decode cX11_fair 29 = .ok (.aload_n 0, 1) := by decide +kernel
theorem dX11_fair_30 : decode cX11_fair 30 = .ok (.iload_n 2, 1) := by decide +kernel
theorem dX11_fair_31 : decode cX11_fair 31 = .ok (.invokevirtual 499, 3) := by decide +kernel
theorem dX11_fair_34 : decode cX11_fair 34 = .ok (.aload_n 0, 1) := by decide +kernel
theorem dX11_fair_35 : decode cX11_fair 35 = .ok (.iload_n 1, 1) := by decide +kernel
theorem dX11_fair_36 : decode cX11_fair 36 = .ok (.invokevirtual 499, 3) := by decide +kernel
theorem dX11_fair_39 : decode cX11_fair 39 = .ok (.if_icmp .ne 19, 3) := by decide +kernel
theorem dX11_fair_42 : decode cX11_fair 42 = .ok (.aload_n 0, 1) := by decide +kernel
theorem dX11_fair_43 : decode cX11_fair 43 = .ok (.iload_n 2, 1) := by decide +kernel
theorem dX11_fair_44 : decode cX11_fair 44 = .ok (.invokevirtual 502, 3) := by decide +kernel
theorem dX11_fair_47 : decode cX11_fair 47 = .ok (.aload_n 0, 1) := by decide +kernel
theorem dX11_fair_48 : decode cX11_fair 48 = .ok (.iload_n 1, 1) := by decide +kernel
theorem dX11_fair_49 : decode cX11_fair 49 = .ok (.invokevirtual 502, 3) := by decide +kernel
theorem dX11_fair_52 : decode cX11_fair 52 = .ok (.if_icmp .gt 6, 3) := by decide +kernel
theorem dX11_fair_55 : decode cX11_fair 55 = .ok (.goto 5, 3) := by decide +kernel
theorem dX11_fair_58 : decode cX11_fair 58 = .ok (.iload_n 2, 1) := by decide +kernel
theorem dX11_fair_59 : decode cX11_fair 59 = .ok (.istore_n 1, 1) := by decide +kernel
theorem dX11_fair_60 : decode cX11_fair 60 = .ok (.iinc 2 1, 3) := by decide +kernel
theorem dX11_fair_63 : decode cX11_fair 63 = .ok (.goto (-59), 3) := by decide +kernel
theorem dX11_fair_66 : decode cX11_fair 66 = .ok (.iload_n 1, 1) := by decide +kernel
theorem dX11_fair_67 : decode cX11_fair 67 = .ok (.ireturn, 1) := by decide +kernel
theorem dX11_isBetter_0 : decode cX11_isBetter 0 = .ok (.aload_n 0, 1) := by decide +kernel
theorem dX11_isBetter_1 : decode cX11_isBetter 1 = .ok (.iload_n 1, 1) := by decide +kernel
theorem dX11_isBetter_2 : decode cX11_isBetter 2 = .ok (.invokevirtual 502, 3) := by decide +kernel
theorem dX11_isBetter_5 : decode cX11_isBetter 5 = .ok (.aload_n 0, 1) := by decide +kernel
theorem dX11_isBetter_6 : decode cX11_isBetter 6 = .ok (.iload_n 2, 1) := by decide +kernel
theorem dX11_isBetter_7 : decode cX11_isBetter 7 = .ok (.invokevirtual 502, 3) := by decide +kernel
theorem dX11_isBetter_10 : decode cX11_isBetter 10 = .ok (.if_icmp .le 7, 3) := by decide +kernel
theorem dX11_isBetter_13 : decode cX11_isBetter 13 = .ok (.iconst 1, 1) := by decide +kernel
theorem dX11_isBetter_14 : decode cX11_isBetter 14 = .ok (.goto 4, 3) := by decide +kernel
theorem dX11_isBetter_17 : decode cX11_isBetter 17 = .ok (.iconst 0, 1) := by decide +kernel
theorem dX11_isBetter_18 : decode cX11_isBetter 18 = .ok (.istore_n 3, 1) := by decide +kernel
theorem dX11_isBetter_19 : decode cX11_isBetter 19 = .ok (.iconst 0, 1) := by decide +kernel
theorem dX11_isBetter_20 : decode cX11_isBetter 20 = .ok (.istore 4, 2) := by decide +kernel
theorem dX11_isBetter_22 : decode cX11_isBetter 22 = .ok (.iload 4, 2) := by decide +kernel
theorem dX11_isBetter_24 : decode cX11_isBetter 24 = .ok (.aload_n 0, 1) := by decide +kernel
theorem dX11_isBetter_25 : decode cX11_isBetter 25 = .ok (.getfield 395, 3) := by decide +kernel
theorem dX11_isBetter_28 : decode cX11_isBetter 28 = .ok (.if_icmp .ge 36, 3) := by decide +kernel
theorem dX11_isBetter_31 : decode cX11_isBetter 31 = .ok (.iload_n 3, 1) := by decide +kernel
theorem dX11_isBetter_32 : decode cX11_isBetter 32 = .ok (.ifCond .eq 24, 3) := by decide +kernel
theorem dX11_isBetter_35 : decode cX11_isBetter 35 = .ok (.aload_n 0, 1) := by decide +kernel
theorem dX11_isBetter_36 : decode cX11_isBetter 36 = .ok (.iload 4, 2) := by decide +kernel
theorem dX11_isBetter_38 : decode cX11_isBetter 38 = .ok (.iload_n 1, 1) := by decide +kernel
theorem dX11_isBetter_39 : decode cX11_isBetter 39 = .ok (.invokevirtual 446, 3) := by decide +kernel
theorem dX11_isBetter_42 : decode cX11_isBetter 42 = .ok (.aload_n 0, 1) := by decide +kernel
theorem dX11_isBetter_43 : decode cX11_isBetter 43 = .ok (.iload 4, 2) := by decide +kernel
theorem dX11_isBetter_45 : decode cX11_isBetter 45 = .ok (.iload_n 2, 1) := by decide +kernel
theorem dX11_isBetter_46 : decode cX11_isBetter 46 = .ok (.invokevirtual 446, 3) := by decide +kernel
theorem dX11_isBetter_49 : decode cX11_isBetter 49 = .ok (.if_icmp .lt 7, 3) := by decide +kernel
theorem dX11_isBetter_52 : decode cX11_isBetter 52 = .ok (.iconst 1, 1) := by decide +kernel
theorem dX11_isBetter_53 : decode cX11_isBetter 53 = .ok (.goto 4, 3) := by decide +kernel
theorem dX11_isBetter_56 : decode cX11_isBetter 56 = .ok (.iconst 0, 1) := by decide +kernel
theorem dX11_isBetter_57 : decode cX11_isBetter 57 = .ok (.istore_n 3, 1) := by decide +kernel
theorem dX11_isBetter_58 : decode cX11_isBetter 58 = .ok (.iinc 4 1, 3) := by decide +kernel
theorem dX11_isBetter_61 : decode cX11_isBetter 61 = .ok (.goto (-39), 3) := by decide +kernel
theorem dX11_isBetter_64 : decode cX11_isBetter 64 = .ok (.iload_n 3, 1) := by decide +kernel
theorem dX11_isBetter_65 : decode cX11_isBetter 65 = .ok (.ireturn, 1) := by decide +kernel
theorem dX11_good_0 : decode cX11_good 0 = .ok (.iconst 0, 1) := by decide +kernel
theorem dX11_good_1 : decode cX11_good 1 = .ok (.istore_n 1, 1) := by decide +kernel
theorem dX11_good_2 : decode cX11_good 2 = .ok (.iconst 0, 1) := by decide +kernel
theorem dX11_good_3 : decode cX11_good 3 = .ok (.istore_n 2, 1) := by decide +kernel
theorem dX11_good_4 : decode cX11_good 4 = .ok (.iload_n 2, 1) := by decide +kernel
theorem dX11_good_5 : decode cX11_good 5 = .ok (.aload_n 0, 1) := by decide +kernel
theorem dX11_good_6 : decode cX11_good 6 = .ok (.getfield 392, 3) := by decide +kernel
theorem dX11_good_9 : decode cX11_good 9 = .ok (.if_icmp .ge 58, 3) := by decide +kernel
theorem dX11_good_12 : decode cX11_good 12 = .ok (.iconst 1, 1) := by decide +kernel
theorem dX11_good_13 : decode cX11_good 13 = .ok (.istore_n 3, 1) := by decide +kernel
theorem dX11_good_14 : decode cX11_good 14 = .ok (.iconst 0, 1) := by decide +kernel
theorem dX11_good_15 : decode cX11_good 15 = .ok (.istore 4, 2) := by decide +kernel
theorem dX11_good_17 : decode cX11_good 17 = .ok (.iload 4, 2) := by decide +kernel
theorem dX11_good_19 : decode cX11_good 19 = .ok (.aload_n 0, 1) := by decide +kernel
theorem dX11_good_20 : decode cX11_good 20 = .ok (.getfield 392, 3) := by decide +kernel
theorem dX11_good_23 : decode cX11_good 23 = .ok (.if_icmp .ge 29, 3) := by decide +kernel
theorem dX11_good_26 : decode cX11_good 26 = .ok (.iload_n 3, 1) := by decide +kernel
theorem dX11_good_27 : decode cX11_good 27 = .ok (.ifCond .eq 17, 3) := by decide +kernel
theorem dX11_good_30 : decode cX11_good 30 = .ok (.aload_n 0, 1) := by decide +kernel
theorem dX11_good_31 : decode cX11_good 31 = .ok (.iload 4, 2) := by decide +kernel
theorem dX11_good_33 : decode cX11_good 33 = .ok (.iload_n 2, 1) := by decide +kernel
theorem dX11_good_34 : decode cX11_good 34 = .ok (.invokevirtual 505, 3) := by decide +kernel
theorem dX11_good_37 : decode cX11_good 37 = .ok (.ifCond .ne 7, 3) := by decide +kernel
theorem dX11_good_40 : decode cX11_good 40 = .ok (.iconst 1, 1) := by decide +kernel
theorem dX11_good_41 : decode cX11_good 41 = .ok (.goto 4, 3) := by decide +kernel
theorem dX11_good_44 : decode cX11_good 44 = .ok (.iconst 0, 1) := by decide +kernel
theorem dX11_good_45 : decode cX11_good 45 = .ok (.istore_n 3, 1) := by decide +kernel
theorem dX11_good_46 : decode cX11_good 46 = .ok (.iinc 4 1, 3) := by decide +kernel
theorem dX11_good_49 : decode cX11_good 49 = .ok (.goto (-32), 3) := by decide +kernel
theorem dX11_good_52 : decode cX11_good 52 = .ok (.iload_n 1, 1) := by decide +kernel
theorem dX11_good_53 : decode cX11_good 53 = .ok (.iload_n 3, 1) := by decide +kernel
theorem dX11_good_54 : decode cX11_good 54 = .ok (.invokestatic 325, 3) := by decide +kernel
theorem dX11_good_57 : decode cX11_good 57 = .ok (.iload_n 2, 1) := by decide +kernel
theorem dX11_good_58 : decode cX11_good 58 = .ok (.ishl, 1) := by decide +kernel
theorem dX11_good_59 : decode cX11_good 59 = .ok (.ior, 1) := by decide +kernel
theorem dX11_good_60 : decode cX11_good 60 = .ok (.istore_n 1, 1) := by decide +kernel
theorem dX11_good_61 : decode cX11_good 61 = .ok (.iinc 2 1, 3) := by decide +kernel
theorem dX11_good_64 : decode cX11_good 64 = .ok (.goto (-60), 3) := by decide +kernel
theorem dX11_good_67 : decode cX11_good 67 = .ok (.iload_n 1, 1) := by decide +kernel
theorem dX11_good_68 : decode cX11_good 68 = .ok (.ireturn, 1) := by decide +kernel
theorem dX11_onFrom_0 : decode cX11_onFrom 0 = .ok (.iconst 0, 1) := by decide +kernel
theorem dX11_onFrom_1 : decode cX11_onFrom 1 = .ok (.istore_n 2, 1) := by decide +kernel
theorem dX11_onFrom_2 : decode cX11_onFrom 2 = .ok (.iconst 0, 1) := by decide +kernel
theorem dX11_onFrom_3 : decode cX11_onFrom 3 = .ok (.istore_n 3, 1) := by decide +kernel
theorem dX11_onFrom_4 : decode cX11_onFrom 4 = .ok (.iload_n 3, 1) := by decide +kernel
theorem dX11_onFrom_5 : decode cX11_onFrom 5 = .ok (.aload_n 0, 1) := by decide +kernel
theorem dX11_onFrom_6 : decode cX11_onFrom 6 = .ok (.getfield 398, 3) := by decide +kernel
theorem dX11_onFrom_9 : decode cX11_onFrom 9 = .ok (.if_icmp .ge 42, 3) := by decide +kernel
theorem dX11_onFrom_12 : decode cX11_onFrom 12 = .ok (.iload_n 1, 1) := by decide +kernel
theorem dX11_onFrom_13 : decode cX11_onFrom 13 = .ok (.aload_n 0, 1) := by decide +kernel
theorem dX11_onFrom_14 : decode cX11_onFrom 14 = .ok (.getfield 75, 3) := by decide +kernel
theorem dX11_onFrom_17 : decode cX11_onFrom 17 = .ok (.iload_n 3, 1) := by decide +kernel
theorem dX11_onFrom_18 : decode cX11_onFrom 18 = .ok (.iaload, 1) := by decide +kernel
theorem dX11_onFrom_19 : decode cX11_onFrom 19 = .ok (.ishr, 1) := by decide +kernel
theorem dX11_onFrom_20 : decode cX11_onFrom 20 = .ok (.iconst 1, 1) := by decide +kernel
theorem dX11_onFrom_21 : decode cX11_onFrom 21 = .ok (.iand, 1) := by decide +kernel
theorem dX11_onFrom_22 : decode cX11_onFrom 22 = .ok (.iconst 1, 1) := by decide +kernel
theorem dX11_onFrom_23 : decode cX11_onFrom 23 = .ok (.if_icmp .ne 22, 3) := by decide +kernel
theorem dX11_onFrom_26 : decode cX11_onFrom 26 = .ok (.aload_n 0, 1) := by decide +kernel
theorem dX11_onFrom_27 : decode cX11_onFrom 27 = .ok (.iload_n 3, 1) := by decide +kernel
theorem dX11_onFrom_28 : decode cX11_onFrom 28 = .ok (.invokevirtual 440, 3) := by decide +kernel
theorem dX11_onFrom_31 : decode cX11_onFrom 31 = .ok (.ifCond .eq 14, 3) := by decide +kernel
theorem dX11_onFrom_34 : decode cX11_onFrom 34 = .ok (.iload_n 2, 1) := by decide +kernel
theorem dX11_onFrom_35 : decode cX11_onFrom 35 = .ok (.iconst 1, 1) := by decide +kernel
theorem dX11_onFrom_36 : decode cX11_onFrom 36 = .ok (.aload_n 0, 1) := by decide +kernel
theorem dX11_onFrom_37 : decode cX11_onFrom 37 = .ok (.getfield 78, 3) := by decide +kernel
theorem dX11_onFrom_40 : decode cX11_onFrom 40 = .ok (.iload_n 3, 1) := by decide +kernel
theorem dX11_onFrom_41 : decode cX11_onFrom 41 = .ok (.iaload, 1) := by decide +kernel
theorem dX11_onFrom_42 : decode cX11_onFrom 42 = .ok (.ishl, 1) := by decide +kernel
theorem dX11_onFrom_43 : decode cX11_onFrom 43 = .ok (.ior, 1) := by decide +kernel
theorem dX11_onFrom_44 : decode cX11_onFrom 44 = .ok (.istore_n 2, 1) := by decide +kernel
theorem dX11_onFrom_45 : decode cX11_onFrom 45 = .ok (.iinc 3 1, 3) := by decide +kernel
theorem dX11_onFrom_48 : decode cX11_onFrom 48 = .ok (.goto (-44), 3) := by decide +kernel
theorem dX11_onFrom_51 : decode cX11_onFrom 51 = .ok (.iload_n 2, 1) := by decide +kernel
theorem dX11_onFrom_52 : decode cX11_onFrom 52 = .ok (.ireturn, 1) := by decide +kernel
theorem dX11_round_0 : decode cX11_round 0 = .ok (.aload_n 0, 1) := by decide +kernel
theorem dX11_round_1 : decode cX11_round 1 = .ok (.iload_n 1, 1) := by decide +kernel
theorem dX11_round_2 : decode cX11_round 2 = .ok (.invokevirtual 443, 3) := by decide +kernel
theorem dX11_round_5 : decode cX11_round 5 = .ok (.ifCond .ne 5, 3) := by decide +kernel
theorem dX11_round_8 : decode cX11_round 8 = .ok (.iconst (-1), 1) := by decide +kernel
theorem dX11_round_9 : decode cX11_round 9 = .ok (.ireturn, 1) := by decide +kernel
theorem dX11_round_10 : decode cX11_round 10 = .ok (.iconst 1, 1) := by decide +kernel
theorem dX11_round_11 : decode cX11_round 11 = .ok (.iload_n 1, 1) := by decide +kernel
theorem dX11_round_12 : decode cX11_round 12 = .ok (.ishl, 1) := by decide +kernel
theorem dX11_round_13 : decode cX11_round 13 = .ok (.istore_n 2, 1) := by decide +kernel
theorem dX11_round_14 : decode cX11_round 14 = .ok (.iconst 1, 1) := by decide +kernel
theorem dX11_round_15 : decode cX11_round 15 = .ok (.istore_n 3, 1) := by decide +kernel
theorem dX11_round_16 : decode cX11_round 16 = .ok (.iload_n 3, 1) := by decide +kernel
theorem dX11_round_17 : decode cX11_round 17 = .ok (.bipush 8, 2) := by decide +kernel
theorem dX11_round_19 : decode cX11_round 19 = .ok (.if_icmp .gt 26, 3) := by decide +kernel
theorem dX11_round_22 : decode cX11_round 22 = .ok (.aload_n 0, 1) := by decide +kernel
theorem dX11_round_23 : decode cX11_round 23 = .ok (.iload_n 2, 1) := by decide +kernel
theorem dX11_round_24 : decode cX11_round 24 = .ok (.invokevirtual 508, 3) := by decide +kernel
theorem dX11_round_27 : decode cX11_round 27 = .ok (.istore_n 2, 1) := by decide +kernel
theorem dX11_round_28 : decode cX11_round 28 = .ok (.iload_n 2, 1) := by decide +kernel
theorem dX11_round_29 : decode cX11_round 29 = .ok (.iload_n 1, 1) := by decide +kernel
theorem dX11_round_30 : decode cX11_round 30 = .ok (.ishr, 1) := by decide +kernel
theorem dX11_round_31 : decode cX11_round 31 = .ok (.iconst 1, 1) := by decide +kernel
theorem dX11_round_32 : decode cX11_round 32 = .ok (.iand, 1) := by decide +kernel
theorem dX11_round_33 : decode cX11_round 33 = .ok (.iconst 1, 1) := by decide +kernel
theorem dX11_round_34 : decode cX11_round 34 = .ok (.if_icmp .ne 5, 3) := by decide +kernel
theorem dX11_round_37 : decode cX11_round 37 = .ok (.iload_n 3, 1) := by decide +kernel
theorem dX11_round_38 : decode cX11_round 38 = .ok (.ireturn, 1) := by decide +kernel
theorem dX11_round_39 : decode cX11_round 39 = .ok (.iinc 3 1, 3) := by decide +kernel
theorem dX11_round_42 : decode cX11_round 42 = .ok (.goto (-26), 3) := by decide +kernel
theorem dX11_round_45 : decode cX11_round 45 = .ok (.iconst (-1), 1) := by decide +kernel
theorem dX11_round_46 : decode cX11_round 46 = .ok (.ireturn, 1) := by decide +kernel
theorem dX11_near_0 : decode cX11_near 0 = .ok (.iload_n 1, 1) := by decide +kernel
theorem dX11_near_1 : decode cX11_near 1 = .ok (.iconst 0, 1) := by decide +kernel
theorem dX11_near_2 : decode cX11_near 2 = .ok (.bipush 8, 2) := by decide +kernel
theorem dX11_near_4 : decode cX11_near 4 = .ok (.invokestatic 416, 3) := by decide +kernel
theorem dX11_near_7 : decode cX11_near 7 = .ok (.ifCond .ne 5, 3) := by decide +kernel
theorem dX11_near_10 : decode cX11_near 10 = .ok (.iconst (-1), 1) := by decide +kernel
theorem dX11_near_11 : decode cX11_near 11 = .ok (.ireturn, 1) := by decide +kernel
theorem dX11_near_12 : decode cX11_near 12 = .ok (.aload_n 0, 1) := by decide +kernel
theorem dX11_near_13 : decode cX11_near 13 = .ok (.getfield 392, 3) := by decide +kernel
theorem dX11_near_16 : decode cX11_near 16 = .ok (.ifCond .ne 7, 3) := by decide +kernel
theorem dX11_near_19 : decode cX11_near 19 = .ok (.iconst 0, 1) := by decide +kernel
theorem dX11_near_20 : decode cX11_near 20 = .ok (.goto 11, 3) := by decide +kernel
theorem dX11_near_23 : decode cX11_near 23 = .ok (.iconst 1, 1) := by decide +kernel
theorem dX11_near_24 : decode cX11_near 24 = .ok (.aload_n 0, 1) := by decide +kernel
theorem dX11_near_25 : decode cX11_near 25 = .ok (.getfield 100, 3) := by decide +kernel
theorem dX11_near_28 : decode cX11_near 28 = .ok (.iconst 0, 1) := by decide +kernel
theorem dX11_near_29 : decode cX11_near 29 = .ok (.iaload, 1) := by decide +kernel
theorem dX11_near_30 : decode cX11_near 30 = .ok (.ishl, 1) := by decide +kernel
theorem dX11_near_31 : decode cX11_near 31 = .ok (.istore_n 2, 1) := by decide +kernel
theorem dX11_near_32 : decode cX11_near 32 = .ok (.iconst 0, 1) := by decide +kernel
theorem dX11_near_33 : decode cX11_near 33 = .ok (.istore_n 3, 1) := by decide +kernel
theorem dX11_near_34 : decode cX11_near 34 = .ok (.iload_n 3, 1) := by decide +kernel
theorem dX11_near_35 : decode cX11_near 35 = .ok (.iload_n 1, 1) := by decide +kernel
theorem dX11_near_36 : decode cX11_near 36 = .ok (.if_icmp .ge 15, 3) := by decide +kernel
theorem dX11_near_39 : decode cX11_near 39 = .ok (.aload_n 0, 1) := by decide +kernel
theorem dX11_near_40 : decode cX11_near 40 = .ok (.iload_n 2, 1) := by decide +kernel
theorem dX11_near_41 : decode cX11_near 41 = .ok (.invokevirtual 508, 3) := by decide +kernel
theorem dX11_near_44 : decode cX11_near 44 = .ok (.istore_n 2, 1) := by decide +kernel
theorem dX11_near_45 : decode cX11_near 45 = .ok (.iinc 3 1, 3) := by decide +kernel
theorem dX11_near_48 : decode cX11_near 48 = .ok (.goto (-14), 3) := by decide +kernel
theorem dX11_near_51 : decode cX11_near 51 = .ok (.iload_n 2, 1) := by decide +kernel
theorem dX11_near_52 : decode cX11_near 52 = .ok (.ireturn, 1) := by decide +kernel
theorem dX11_both_0 : decode cX11_both 0 = .ok (.aload_n 0, 1) := by decide +kernel
theorem dX11_both_1 : decode cX11_both 1 = .ok (.iload_n 1, 1) := by decide +kernel
theorem dX11_both_2 : decode cX11_both 2 = .ok (.invokevirtual 431, 3) := by decide +kernel
theorem dX11_both_5 : decode cX11_both 5 = .ok (.ifCond .eq 29, 3) := by decide +kernel
theorem dX11_both_8 : decode cX11_both 8 = .ok (.aload_n 0, 1) := by decide +kernel
theorem dX11_both_9 : decode cX11_both 9 = .ok (.iload_n 2, 1) := by decide +kernel
theorem dX11_both_10 : decode cX11_both 10 = .ok (.invokevirtual 431, 3) := by decide +kernel
theorem dX11_both_13 : decode cX11_both 13 = .ok (.ifCond .eq 21, 3) := by decide +kernel
theorem dX11_both_16 : decode cX11_both 16 = .ok (.aload_n 0, 1) := by decide +kernel
theorem dX11_both_17 : decode cX11_both 17 = .ok (.iload_n 1, 1) := by decide +kernel
theorem dX11_both_18 : decode cX11_both 18 = .ok (.bipush (-2), 2) := by decide +kernel
theorem dX11_both_20 : decode cX11_both 20 = .ok (.invokevirtual 434, 3) := by decide +kernel
theorem dX11_both_23 : decode cX11_both 23 = .ok (.aload_n 0, 1) := by decide +kernel
theorem dX11_both_24 : decode cX11_both 24 = .ok (.iload_n 2, 1) := by decide +kernel
theorem dX11_both_25 : decode cX11_both 25 = .ok (.bipush (-2), 2) := by decide +kernel
theorem dX11_both_27 : decode cX11_both 27 = .ok (.invokevirtual 434, 3) := by decide +kernel
theorem dX11_both_30 : decode cX11_both 30 = .ok (.iand, 1) := by decide +kernel
theorem dX11_both_31 : decode cX11_both 31 = .ok (.goto 4, 3) := by decide +kernel
theorem dX11_both_34 : decode cX11_both 34 = .ok (.iconst (-1), 1) := by decide +kernel
theorem dX11_both_35 : decode cX11_both 35 = .ok (.ireturn, 1) := by decide +kernel
theorem dX11_clumsy_0 : decode cX11_clumsy 0 = .ok (.aload_n 0, 1) := by decide +kernel
theorem dX11_clumsy_1 : decode cX11_clumsy 1 = .ok (.iload_n 1, 1) := by decide +kernel
theorem dX11_clumsy_2 : decode cX11_clumsy 2 = .ok (.invokevirtual 437, 3) := by decide +kernel
theorem dX11_clumsy_5 : decode cX11_clumsy 5 = .ok (.ifCond .ne 5, 3) := by decide +kernel
theorem dX11_clumsy_8 : decode cX11_clumsy 8 = .ok (.iconst (-1), 1) := by decide +kernel
theorem dX11_clumsy_9 : decode cX11_clumsy 9 = .ok (.ireturn, 1) := by decide +kernel
theorem dX11_clumsy_10 : decode cX11_clumsy 10 = .ok (.iconst (-1), 1) := by decide +kernel
theorem dX11_clumsy_11 : decode cX11_clumsy 11 = .ok (.istore_n 2, 1) := by decide +kernel
theorem dX11_clumsy_12 : decode cX11_clumsy 12 = .ok (.iconst 0, 1) := by decide +kernel
theorem dX11_clumsy_13 : decode cX11_clumsy 13 = .ok (.istore_n 3, 1) := by decide +kernel
theorem dX11_clumsy_14 : decode cX11_clumsy 14 = .ok (.iload_n 3, 1) := by decide +kernel
theorem dX11_clumsy_15 : decode cX11_clumsy 15 = .ok (.aload_n 0, 1) := by decide +kernel
theorem dX11_clumsy_16 : decode cX11_clumsy 16 = .ok (.getfield 395, 3) := by decide +kernel
theorem dX11_clumsy_19 : decode cX11_clumsy 19 = .ok (.if_icmp .ge 42, 3) := by decide +kernel
theorem dX11_clumsy_22 : decode cX11_clumsy 22 = .ok (.aload_n 0, 1) := by decide +kernel
theorem dX11_clumsy_23 : decode cX11_clumsy 23 = .ok (.iload_n 3, 1) := by decide +kernel
theorem dX11_clumsy_24 : decode cX11_clumsy 24 = .ok (.iload_n 1, 1) := by decide +kernel
theorem dX11_clumsy_25 : decode cX11_clumsy 25 = .ok (.invokevirtual 427, 3) := by decide +kernel
theorem dX11_clumsy_28 : decode cX11_clumsy 28 = .ok (.ifCond .eq 27, 3) := by decide +kernel
theorem dX11_clumsy_31 : decode cX11_clumsy 31 = .ok (.iload_n 2, 1) := by decide +kernel
theorem dX11_clumsy_32 : decode cX11_clumsy 32 = .ok (.ifCond .lt 21, 3) := by decide +kernel
theorem dX11_clumsy_35 : decode cX11_clumsy 35 = .ok (.aload_n 0, 1) := by decide +kernel
theorem dX11_clumsy_36 : decode cX11_clumsy 36 = .ok (.iload_n 3, 1) := by decide +kernel
theorem dX11_clumsy_37 : decode cX11_clumsy 37 = .ok (.iload_n 1, 1) := by decide +kernel
theorem dX11_clumsy_38 : decode cX11_clumsy 38 = .ok (.invokevirtual 449, 3) := by decide +kernel
theorem dX11_clumsy_41 : decode cX11_clumsy 41 = .ok (.aload_n 0, 1) := by decide +kernel
theorem dX11_clumsy_42 : decode cX11_clumsy 42 = .ok (.iload_n 2, 1) := by decide +kernel
theorem dX11_clumsy_43 : decode cX11_clumsy 43 = .ok (.iload_n 1, 1) := by decide +kernel
theorem dX11_clumsy_44 : decode cX11_clumsy 44 = .ok (.invokevirtual 449, 3) := by decide +kernel
theorem dX11_clumsy_47 : decode cX11_clumsy 47 = .ok (.if_icmp .gt 6, 3) := by decide +kernel
theorem dX11_clumsy_50 : decode cX11_clumsy 50 = .ok (.goto 5, 3) := by decide +kernel
theorem dX11_clumsy_53 : decode cX11_clumsy 53 = .ok (.iload_n 3, 1) := by decide +kernel
theorem dX11_clumsy_54 : decode cX11_clumsy 54 = .ok (.istore_n 2, 1) := by decide +kernel
theorem dX11_clumsy_55 : decode cX11_clumsy 55 = .ok (.iinc 3 1, 3) := by decide +kernel
theorem dX11_clumsy_58 : decode cX11_clumsy 58 = .ok (.goto (-44), 3) := by decide +kernel
theorem dX11_clumsy_61 : decode cX11_clumsy 61 = .ok (.iload_n 2, 1) := by decide +kernel
theorem dX11_clumsy_62 : decode cX11_clumsy 62 = .ok (.ireturn, 1) := by decide +kernel
theorem dX11_idle_0 : decode cX11_idle 0 = .ok (.iconst 0, 1) := by decide +kernel
theorem dX11_idle_1 : decode cX11_idle 1 = .ok (.istore_n 1, 1) := by decide +kernel
theorem dX11_idle_2 : decode cX11_idle 2 = .ok (.iconst 0, 1) := by decide +kernel
theorem dX11_idle_3 : decode cX11_idle 3 = .ok (.istore_n 2, 1) := by decide +kernel
theorem dX11_idle_4 : decode cX11_idle 4 = .ok (.iload_n 2, 1) := by decide +kernel
theorem dX11_idle_5 : decode cX11_idle 5 = .ok (.aload_n 0, 1) := by decide +kernel
theorem dX11_idle_6 : decode cX11_idle 6 = .ok (.getfield 395, 3) := by decide +kernel
theorem dX11_idle_9 : decode cX11_idle 9 = .ok (.if_icmp .ge 46, 3) := by decide +kernel
theorem dX11_idle_12 : decode cX11_idle 12 = .ok (.iload_n 1, 1) := by decide +kernel
theorem dX11_idle_13 : decode cX11_idle 13 = .ok (.iload_n 2, 1) := by decide +kernel
theorem dX11_idle_14 : decode cX11_idle 14 = .ok (.aload_n 0, 1) := by decide +kernel
theorem dX11_idle_15 : decode cX11_idle 15 = .ok (.getfield 100, 3) := by decide +kernel
theorem dX11_idle_18 : decode cX11_idle 18 = .ok (.iconst 1, 1) := by decide +kernel
theorem dX11_idle_19 : decode cX11_idle 19 = .ok (.iaload, 1) := by decide +kernel
theorem dX11_idle_20 : decode cX11_idle 20 = .ok (.if_icmp .eq 21, 3) := by decide +kernel
theorem dX11_idle_23 : decode cX11_idle 23 = .ok (.aload_n 0, 1) := by decide +kernel
theorem dX11_idle_24 : decode cX11_idle 24 = .ok (.iload_n 2, 1) := by decide +kernel
theorem dX11_idle_25 : decode cX11_idle 25 = .ok (.aload_n 0, 1) := by decide +kernel
theorem dX11_idle_26 : decode cX11_idle 26 = .ok (.getfield 100, 3) := by decide +kernel
theorem dX11_idle_29 : decode cX11_idle 29 = .ok (.iconst 0, 1) := by decide +kernel
theorem dX11_idle_30 : decode cX11_idle 30 = .ok (.iaload, 1) := by decide +kernel
theorem dX11_idle_31 : decode cX11_idle 31 = .ok (.invokevirtual 434, 3) := by decide +kernel
theorem dX11_idle_34 : decode cX11_idle 34 = .ok (.ifCond .ne 7, 3) := by decide +kernel
theorem dX11_idle_37 : decode cX11_idle 37 = .ok (.iconst 1, 1) := by decide +kernel
theorem dX11_idle_38 : decode cX11_idle 38 = .ok (.goto 4, 3) := by decide +kernel
theorem dX11_idle_41 : decode cX11_idle 41 = .ok (.iconst 0, 1) := by decide +kernel
theorem dX11_idle_42 : decode cX11_idle 42 = .ok (.invokestatic 325, 3) := by decide +kernel
theorem dX11_idle_45 : decode cX11_idle 45 = .ok (.iload_n 2, 1) := by decide +kernel
theorem dX11_idle_46 : decode cX11_idle 46 = .ok (.ishl, 1) := by decide +kernel
theorem dX11_idle_47 : decode cX11_idle 47 = .ok (.ior, 1) := by decide +kernel
theorem dX11_idle_48 : decode cX11_idle 48 = .ok (.istore_n 1, 1) := by decide +kernel
theorem dX11_idle_49 : decode cX11_idle 49 = .ok (.iinc 2 1, 3) := by decide +kernel
theorem dX11_idle_52 : decode cX11_idle 52 = .ok (.goto (-48), 3) := by decide +kernel
theorem dX11_idle_55 : decode cX11_idle 55 = .ok (.iload_n 1, 1) := by decide +kernel
theorem dX11_idle_56 : decode cX11_idle 56 = .ok (.ireturn, 1) := by decide +kernel
theorem dX11_ends_0 : decode cX11_ends 0 = .ok (.iconst 0, 1) := by decide +kernel
theorem dX11_ends_1 : decode cX11_ends 1 = .ok (.istore_n 1, 1) := by decide +kernel
theorem dX11_ends_2 : decode cX11_ends 2 = .ok (.iconst 0, 1) := by decide +kernel
theorem dX11_ends_3 : decode cX11_ends 3 = .ok (.istore_n 2, 1) := by decide +kernel
theorem dX11_ends_4 : decode cX11_ends 4 = .ok (.iload_n 2, 1) := by decide +kernel
theorem dX11_ends_5 : decode cX11_ends 5 = .ok (.aload_n 0, 1) := by decide +kernel
theorem dX11_ends_6 : decode cX11_ends 6 = .ok (.getfield 392, 3) := by decide +kernel
theorem dX11_ends_9 : decode cX11_ends 9 = .ok (.if_icmp .ge 32, 3) := by decide +kernel
theorem dX11_ends_12 : decode cX11_ends 12 = .ok (.iload_n 1, 1) := by decide +kernel
theorem dX11_ends_13 : decode cX11_ends 13 = .ok (.aload_n 0, 1) := by decide +kernel
theorem dX11_ends_14 : decode cX11_ends 14 = .ok (.iconst 1, 1) := by decide +kernel
theorem dX11_ends_15 : decode cX11_ends 15 = .ok (.iload_n 2, 1) := by decide +kernel
theorem dX11_ends_16 : decode cX11_ends 16 = .ok (.ishl, 1) := by decide +kernel
theorem dX11_ends_17 : decode cX11_ends 17 = .ok (.invokevirtual 508, 3) := by decide +kernel
theorem dX11_ends_20 : decode cX11_ends 20 = .ok (.ifCond .ne 7, 3) := by decide +kernel
theorem dX11_ends_23 : decode cX11_ends 23 = .ok (.iconst 1, 1) := by decide +kernel
theorem dX11_ends_24 : decode cX11_ends 24 = .ok (.goto 4, 3) := by decide +kernel
theorem dX11_ends_27 : decode cX11_ends 27 = .ok (.iconst 0, 1) := by decide +kernel
theorem dX11_ends_28 : decode cX11_ends 28 = .ok (.invokestatic 325, 3) := by decide +kernel
theorem dX11_ends_31 : decode cX11_ends 31 = .ok (.iload_n 2, 1) := by decide +kernel
theorem dX11_ends_32 : decode cX11_ends 32 = .ok (.ishl, 1) := by decide +kernel
theorem dX11_ends_33 : decode cX11_ends 33 = .ok (.ior, 1) := by decide +kernel
theorem dX11_ends_34 : decode cX11_ends 34 = .ok (.istore_n 1, 1) := by decide +kernel
theorem dX11_ends_35 : decode cX11_ends 35 = .ok (.iinc 2 1, 3) := by decide +kernel
theorem dX11_ends_38 : decode cX11_ends 38 = .ok (.goto (-34), 3) := by decide +kernel
theorem dX11_ends_41 : decode cX11_ends 41 = .ok (.iload_n 1, 1) := by decide +kernel
theorem dX11_ends_42 : decode cX11_ends 42 = .ok (.ireturn, 1) := by decide +kernel
theorem dX11_sources_0 : decode cX11_sources 0 = .ok (.iconst 1, 1) := by decide +kernel
theorem dX11_sources_1 : decode cX11_sources 1 = .ok (.aload_n 0, 1) := by decide +kernel
theorem dX11_sources_2 : decode cX11_sources 2 = .ok (.getfield 392, 3) := by decide +kernel
theorem dX11_sources_5 : decode cX11_sources 5 = .ok (.ishl, 1) := by decide +kernel
theorem dX11_sources_6 : decode cX11_sources 6 = .ok (.iconst 1, 1) := by decide +kernel
theorem dX11_sources_7 : decode cX11_sources 7 = .ok (.isub, 1) := by decide +kernel
theorem dX11_sources_8 : decode cX11_sources 8 = .ok (.istore_n 1, 1) := by decide +kernel
theorem dX11_sources_9 : decode cX11_sources 9 = .ok (.iconst 0, 1) := by decide +kernel
theorem dX11_sources_10 : decode cX11_sources 10 = .ok (.istore_n 2, 1) := by decide +kernel
theorem dX11_sources_11 : decode cX11_sources 11 = .ok (.iload_n 2, 1) := by decide +kernel
theorem dX11_sources_12 : decode cX11_sources 12 = .ok (.aload_n 0, 1) := by decide +kernel
theorem dX11_sources_13 : decode cX11_sources 13 = .ok (.getfield 398, 3) := by decide +kernel
theorem dX11_sources_16 : decode cX11_sources 16 = .ok (.if_icmp .ge 74, 3) := by decide +kernel
theorem dX11_sources_19 : decode cX11_sources 19 = .ok (.aload_n 0, 1) := by decide +kernel
theorem dX11_sources_20 : decode cX11_sources 20 = .ok (.getfield 78, 3) := by decide +kernel
theorem dX11_sources_23 : decode cX11_sources 23 = .ok (.iload_n 2, 1) := by decide +kernel
theorem dX11_sources_24 : decode cX11_sources 24 = .ok (.iaload, 1) := by decide +kernel
theorem dX11_sources_25 : decode cX11_sources 25 = .ok (.aload_n 0, 1) := by decide +kernel
theorem dX11_sources_26 : decode cX11_sources 26 = .ok (.getfield 75, 3) := by decide +kernel
theorem dX11_sources_29 : decode cX11_sources 29 = .ok (.iload_n 2, 1) := by decide +kernel
theorem dX11_sources_30 : decode cX11_sources 30 = .ok (.iaload, 1) := by decide +kernel
theorem dX11_sources_31 : decode cX11_sources 31 = .ok (.if_icmp .eq 16, 3) := by decide +kernel
theorem dX11_sources_34 : decode cX11_sources 34 = .ok (.iload_n 1, 1) := by decide +kernel
theorem dX11_sources_35 : decode cX11_sources 35 = .ok (.iconst 1, 1) := by decide +kernel
theorem dX11_sources_36 : decode cX11_sources 36 = .ok (.aload_n 0, 1) := by decide +kernel
theorem dX11_sources_37 : decode cX11_sources 37 = .ok (.getfield 78, 3) := by decide +kernel
theorem dX11_sources_40 : decode cX11_sources 40 = .ok (.iload_n 2, 1) := by decide +kernel
theorem dX11_sources_41 : decode cX11_sources 41 = .ok (.iaload, 1) := by decide +kernel
theorem dX11_sources_42 : decode cX11_sources 42 = .ok (.ishl, 1) := by decide +kernel
theorem dX11_sources_43 : decode cX11_sources 43 = .ok (.iconst (-1), 1) := by decide +kernel
theorem dX11_sources_44 : decode cX11_sources 44 = .ok (.ixor, 1) := by decide +kernel
theorem dX11_sources_45 : decode cX11_sources 45 = .ok (.iand, 1) := by decide +kernel
theorem dX11_sources_46 : decode cX11_sources 46 = .ok (.istore_n 1, 1) := by decide +kernel
theorem dX11_sources_47 : decode cX11_sources 47 = .ok (.aload_n 0, 1) := by decide +kernel
theorem dX11_sources_48 : decode cX11_sources 48 = .ok (.getfield 87, 3) := by decide +kernel
theorem dX11_sources_51 : decode cX11_sources 51 = .ok (.iload_n 2, 1) := by decide +kernel
theorem dX11_sources_52 : decode cX11_sources 52 = .ok (.iaload, 1) := by decide +kernel
theorem dX11_sources_53 : decode cX11_sources 53 = .ok (.ifCond .lt 31, 3) := by decide +kernel
theorem dX11_sources_56 : decode cX11_sources 56 = .ok (.aload_n 0, 1) := by decide +kernel
theorem dX11_sources_57 : decode cX11_sources 57 = .ok (.getfield 87, 3) := by decide +kernel
theorem dX11_sources_60 : decode cX11_sources 60 = .ok (.iload_n 2, 1) := by decide +kernel
theorem dX11_sources_61 : decode cX11_sources 61 = .ok (.iaload, 1) := by decide +kernel
theorem dX11_sources_62 : decode cX11_sources 62 = .ok (.aload_n 0, 1) := by decide +kernel
theorem dX11_sources_63 : decode cX11_sources 63 = .ok (.getfield 75, 3) := by decide +kernel
theorem dX11_sources_66 : decode cX11_sources 66 = .ok (.iload_n 2, 1) := by decide +kernel
theorem dX11_sources_67 : decode cX11_sources 67 = .ok (.iaload, 1) := by decide +kernel
theorem dX11_sources_68 : decode cX11_sources 68 = .ok (.if_icmp .eq 16, 3) := by decide +kernel
theorem dX11_sources_71 : decode cX11_sources 71 = .ok (.iload_n 1, 1) := by decide +kernel
theorem dX11_sources_72 : decode cX11_sources 72 = .ok (.iconst 1, 1) := by decide +kernel
theorem dX11_sources_73 : decode cX11_sources 73 = .ok (.aload_n 0, 1) := by decide +kernel
theorem dX11_sources_74 : decode cX11_sources 74 = .ok (.getfield 87, 3) := by decide +kernel
theorem dX11_sources_77 : decode cX11_sources 77 = .ok (.iload_n 2, 1) := by decide +kernel
theorem dX11_sources_78 : decode cX11_sources 78 = .ok (.iaload, 1) := by decide +kernel
theorem dX11_sources_79 : decode cX11_sources 79 = .ok (.ishl, 1) := by decide +kernel
theorem dX11_sources_80 : decode cX11_sources 80 = .ok (.iconst (-1), 1) := by decide +kernel
theorem dX11_sources_81 : decode cX11_sources 81 = .ok (.ixor, 1) := by decide +kernel
theorem dX11_sources_82 : decode cX11_sources 82 = .ok (.iand, 1) := by decide +kernel
theorem dX11_sources_83 : decode cX11_sources 83 = .ok (.istore_n 1, 1) := by decide +kernel
theorem dX11_sources_84 : decode cX11_sources 84 = .ok (.iinc 2 1, 3) := by decide +kernel
theorem dX11_sources_87 : decode cX11_sources 87 = .ok (.goto (-76), 3) := by decide +kernel
theorem dX11_sources_90 : decode cX11_sources 90 = .ok (.iload_n 1, 1) := by decide +kernel
theorem dX11_sources_91 : decode cX11_sources 91 = .ok (.ireturn, 1) := by decide +kernel
theorem dX11_will_0 : decode cX11_will 0 = .ok (.aload_n 0, 1) := by decide +kernel
theorem dX11_will_1 : decode cX11_will 1 = .ok (.iload_n 1, 1) := by decide +kernel
theorem dX11_will_2 : decode cX11_will 2 = .ok (.invokevirtual 431, 3) := by decide +kernel
theorem dX11_will_5 : decode cX11_will 5 = .ok (.ifCond .eq 13, 3) := by decide +kernel
theorem dX11_will_8 : decode cX11_will 8 = .ok (.iload_n 2, 1) := by decide +kernel
theorem dX11_will_9 : decode cX11_will 9 = .ok (.iconst 0, 1) := by decide +kernel
theorem dX11_will_10 : decode cX11_will 10 = .ok (.bipush 60, 2) := by decide +kernel
theorem dX11_will_12 : decode cX11_will 12 = .ok (.invokestatic 416, 3) := by decide +kernel
theorem dX11_will_15 : decode cX11_will 15 = .ok (.ifCond .ne 5, 3) := by decide +kernel
theorem dX11_will_18 : decode cX11_will 18 = .ok (.iconst (-1), 1) := by decide +kernel
theorem dX11_will_19 : decode cX11_will 19 = .ok (.ireturn, 1) := by decide +kernel
theorem dX11_will_20 : decode cX11_will 20 = .ok (.aload_n 0, 1) := by decide +kernel
theorem dX11_will_21 : decode cX11_will 21 = .ok (.invokevirtual 455, 3) := by decide +kernel
theorem dX11_will_24 : decode cX11_will 24 = .ok (.iconst 0, 1) := by decide +kernel
theorem dX11_will_25 : decode cX11_will 25 = .ok (.istore_n 3, 1) := by decide +kernel
theorem dX11_will_26 : decode cX11_will 26 = .ok (.iload_n 3, 1) := by decide +kernel
theorem dX11_will_27 : decode cX11_will 27 = .ok (.iload_n 2, 1) := by decide +kernel
theorem dX11_will_28 : decode cX11_will 28 = .ok (.if_icmp .ge 14, 3) := by decide +kernel
theorem dX11_will_31 : decode cX11_will 31 = .ok (.aload_n 0, 1) := by decide +kernel
theorem dX11_will_32 : decode cX11_will 32 = .ok (.invokevirtual 458, 3) := by decide +kernel
