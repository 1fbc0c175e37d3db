theorem dX0_init_0 : decode cX0_init 0 = .ok (.aload_n 0, 1) := by decide +kernel
theorem dX0_init_1 : decode cX0_init 1 = .ok (.invokespecial 3, 3) := by decide +kernel
theorem dX0_init_4 : decode cX0_init 4 = .ok (.aload_n 0, 1) := by decide +kernel
theorem dX0_init_5 : decode cX0_init 5 = .ok (.bipush 60, 2) := by decide +kernel
theorem dX0_init_7 : decode cX0_init 7 = .ok (.putfield 9, 3) := by decide +kernel
theorem dX0_init_10 : decode cX0_init 10 = .ok (.aload_n 0, 1) := by decide +kernel
theorem dX0_init_11 : decode cX0_init 11 = .ok (.bipush 12, 2) := by decide +kernel
theorem dX0_init_13 : decode cX0_init 13 = .ok (.newarray .int, 2) := by decide +kernel
theorem dX0_init_15 : decode cX0_init 15 = .ok (.putfield 15, 3) := by decide +kernel
theorem dX0_init_18 : decode cX0_init 18 = .ok (.aload_n 0, 1) := by decide +kernel
theorem dX0_init_19 : decode cX0_init 19 = .ok (.bipush 12, 2) := by decide +kernel
theorem dX0_init_21 : decode cX0_init 21 = .ok (.newarray .int, 2) := by decide +kernel
theorem dX0_init_23 : decode cX0_init 23 = .ok (.putfield 19, 3) := by decide +kernel
theorem dX0_init_26 : decode cX0_init 26 = .ok (.aload_n 0, 1) := by decide +kernel
theorem dX0_init_27 : decode cX0_init 27 = .ok (.iconst 0, 1) := by decide +kernel
theorem dX0_init_28 : decode cX0_init 28 = .ok (.putfield 22, 3) := by decide +kernel
theorem dX0_init_31 : decode cX0_init 31 = .ok (.aload_n 0, 1) := by decide +kernel
theorem dX0_init_32 : decode cX0_init 32 = .ok (.sipush 144, 3) := by decide +kernel
theorem dX0_init_35 : decode cX0_init 35 = .ok (.newarray .int, 2) := by decide +kernel
theorem dX0_init_37 : decode cX0_init 37 = .ok (.putfield 25, 3) := by decide +kernel
theorem dX0_init_40 : decode cX0_init 40 = .ok (.aload_n 0, 1) := by decide +kernel
theorem dX0_init_41 : decode cX0_init 41 = .ok (.iconst 0, 1) := by decide +kernel
theorem dX0_init_42 : decode cX0_init 42 = .ok (.putfield 28, 3) := by decide +kernel
theorem dX0_init_45 : decode cX0_init 45 = .ok (.aload_n 0, 1) := by decide +kernel
theorem dX0_init_46 : decode cX0_init 46 = .ok (.iconst 0, 1) := by decide +kernel
theorem dX0_init_47 : decode cX0_init 47 = .ok (.putfield 31, 3) := by decide +kernel
theorem dX0_init_50 : decode cX0_init 50 = .ok (.aload_n 0, 1) := by decide +kernel
theorem dX0_init_51 : decode cX0_init 51 = .ok (.iconst 0, 1) := by decide +kernel
theorem dX0_init_52 : decode cX0_init 52 = .ok (.putfield 34, 3) := by decide +kernel
theorem dX0_init_55 : decode cX0_init 55 = .ok (.aload_n 0, 1) := by decide +kernel
theorem dX0_init_56 : decode cX0_init 56 = .ok (.sipush 144, 3) := by decide +kernel
theorem dX0_init_59 : decode cX0_init 59 = .ok (.newarray .boolean, 2) := by decide +kernel
theorem dX0_init_61 : decode cX0_init 61 = .ok (.putfield 37, 3) := by decide +kernel
theorem dX0_init_64 : decode cX0_init 64 = .ok (.aload_n 0, 1) := by decide +kernel
theorem dX0_init_65 : decode cX0_init 65 = .ok (.sipush 144, 3) := by decide +kernel
theorem dX0_init_68 : decode cX0_init 68 = .ok (.newarray .int, 2) := by decide +kernel
theorem dX0_init_70 : decode cX0_init 70 = .ok (.putfield 41, 3) := by decide +kernel
theorem dX0_init_73 : decode cX0_init 73 = .ok (.return_, 1) := by decide +kernel
theorem dX0_settle_0 : decode cX0_settle 0 = .ok (.aload_n 1, 1) := by decide +kernel
theorem dX0_settle_1 : decode cX0_settle 1 = .ok (.getfield 44, 3) := by decide +kernel
theorem dX0_settle_4 : decode cX0_settle 4 = .ok (.invokevirtual 50, 3) := by decide +kernel
theorem dX0_settle_7 : decode cX0_settle 7 = .ok (.istore_n 2, 1) := by decide +kernel
theorem dX0_settle_8 : decode cX0_settle 8 = .ok (.iconst 0, 1) := by decide +kernel
theorem dX0_settle_9 : decode cX0_settle 9 = .ok (.istore_n 3, 1) := by decide +kernel
theorem dX0_settle_10 : decode cX0_settle 10 = .ok (.iload_n 3, 1) := by decide +kernel
theorem dX0_settle_11 : decode cX0_settle 11 = .ok (.iload_n 2, 1) := by decide +kernel
theorem dX0_settle_12 : decode cX0_settle 12 = .ok (.if_icmp .ge 51, 3) := by decide +kernel
theorem dX0_settle_15 : decode cX0_settle 15 = .ok (.aload_n 1, 1) := by decide +kernel
theorem dX0_settle_16 : decode cX0_settle 16 = .ok (.getfield 56, 3) := by decide +kernel
theorem dX0_settle_19 : decode cX0_settle 19 = .ok (.iload_n 3, 1) := by decide +kernel
theorem dX0_settle_20 : decode cX0_settle 20 = .ok (.iaload, 1) := by decide +kernel
theorem dX0_settle_21 : decode cX0_settle 21 = .ok (.istore 4, 2) := by decide +kernel
theorem dX0_settle_23 : decode cX0_settle 23 = .ok (.aload_n 0, 1) := by decide +kernel
theorem dX0_settle_24 : decode cX0_settle 24 = .ok (.getfield 15, 3) := by decide +kernel
theorem dX0_settle_27 : decode cX0_settle 27 = .ok (.iload_n 3, 1) := by decide +kernel
theorem dX0_settle_28 : decode cX0_settle 28 = .ok (.iload 4, 2) := by decide +kernel
theorem dX0_settle_30 : decode cX0_settle 30 = .ok (.bipush (-9), 2) := by decide +kernel
theorem dX0_settle_32 : decode cX0_settle 32 = .ok (.if_icmp .ne 8, 3) := by decide +kernel
theorem dX0_settle_35 : decode cX0_settle 35 = .ok (.bipush (-9), 2) := by decide +kernel
theorem dX0_settle_37 : decode cX0_settle 37 = .ok (.goto 19, 3) := by decide +kernel
theorem dX0_settle_40 : decode cX0_settle 40 = .ok (.aload_n 1, 1) := by decide +kernel
theorem dX0_settle_41 : decode cX0_settle 41 = .ok (.aload_n 1, 1) := by decide +kernel
theorem dX0_settle_42 : decode cX0_settle 42 = .ok (.getfield 59, 3) := by decide +kernel
theorem dX0_settle_45 : decode cX0_settle 45 = .ok (.iload 4, 2) := by decide +kernel
theorem dX0_settle_47 : decode cX0_settle 47 = .ok (.invokevirtual 62, 3) := by decide +kernel
theorem dX0_settle_50 : decode cX0_settle 50 = .ok (.checkcast 66, 3) := by decide +kernel
theorem dX0_settle_53 : decode cX0_settle 53 = .ok (.invokevirtual 68, 3) := by decide +kernel
theorem dX0_settle_56 : decode cX0_settle 56 = .ok (.iastore, 1) := by decide +kernel
theorem dX0_settle_57 : decode cX0_settle 57 = .ok (.iinc 3 1, 3) := by decide +kernel
theorem dX0_settle_60 : decode cX0_settle 60 = .ok (.goto (-50), 3) := by decide +kernel
theorem dX0_settle_63 : decode cX0_settle 63 = .ok (.iconst 0, 1) := by decide +kernel
theorem dX0_settle_64 : decode cX0_settle 64 = .ok (.istore_n 3, 1) := by decide +kernel
theorem dX0_settle_65 : decode cX0_settle 65 = .ok (.iload_n 3, 1) := by decide +kernel
theorem dX0_settle_66 : decode cX0_settle 66 = .ok (.iload_n 2, 1) := by decide +kernel
theorem dX0_settle_67 : decode cX0_settle 67 = .ok (.if_icmp .ge 21, 3) := by decide +kernel
theorem dX0_settle_70 : decode cX0_settle 70 = .ok (.aload_n 0, 1) := by decide +kernel
theorem dX0_settle_71 : decode cX0_settle 71 = .ok (.getfield 19, 3) := by decide +kernel
theorem dX0_settle_74 : decode cX0_settle 74 = .ok (.iload_n 3, 1) := by decide +kernel
theorem dX0_settle_75 : decode cX0_settle 75 = .ok (.aload_n 0, 1) := by decide +kernel
theorem dX0_settle_76 : decode cX0_settle 76 = .ok (.aload_n 1, 1) := by decide +kernel
theorem dX0_settle_77 : decode cX0_settle 77 = .ok (.iload_n 3, 1) := by decide +kernel
theorem dX0_settle_78 : decode cX0_settle 78 = .ok (.invokevirtual 72, 3) := by decide +kernel
theorem dX0_settle_81 : decode cX0_settle 81 = .ok (.iastore, 1) := by decide +kernel
theorem dX0_settle_82 : decode cX0_settle 82 = .ok (.iinc 3 1, 3) := by decide +kernel
theorem dX0_settle_85 : decode cX0_settle 85 = .ok (.goto (-20), 3) := by decide +kernel
theorem dX0_settle_88 : decode cX0_settle 88 = .ok (.aload_n 0, 1) := by decide +kernel
theorem dX0_settle_89 : decode cX0_settle 89 = .ok (.aload_n 0, 1) := by decide +kernel
theorem dX0_settle_90 : decode cX0_settle 90 = .ok (.iload_n 2, 1) := by decide +kernel
theorem dX0_settle_91 : decode cX0_settle 91 = .ok (.invokevirtual 76, 3) := by decide +kernel
theorem dX0_settle_94 : decode cX0_settle 94 = .ok (.putfield 22, 3) := by decide +kernel
theorem dX0_settle_97 : decode cX0_settle 97 = .ok (.aload_n 1, 1) := by decide +kernel
theorem dX0_settle_98 : decode cX0_settle 98 = .ok (.getfield 80, 3) := by decide +kernel
theorem dX0_settle_101 : decode cX0_settle 101 = .ok (.aload_n 0, 1) := by decide +kernel
theorem dX0_settle_102 : decode cX0_settle 102 = .ok (.getfield 22, 3) := by decide +kernel
theorem dX0_settle_105 : decode cX0_settle 105 = .ok (.iconst (-1), 1) := by decide +kernel
theorem dX0_settle_106 : decode cX0_settle 106 = .ok (.ixor, 1) := by decide +kernel
theorem dX0_settle_107 : decode cX0_settle 107 = .ok (.iand, 1) := by decide +kernel
theorem dX0_settle_108 : decode cX0_settle 108 = .ok (.istore_n 3, 1) := by decide +kernel
theorem dX0_settle_109 : decode cX0_settle 109 = .ok (.iconst 0, 1) := by decide +kernel
theorem dX0_settle_110 : decode cX0_settle 110 = .ok (.istore 4, 2) := by decide +kernel
theorem dX0_settle_112 : decode cX0_settle 112 = .ok (.iload 4, 2) := by decide +kernel
theorem dX0_settle_114 : decode cX0_settle 114 = .ok (.sipush 144, 3) := by decide +kernel
theorem dX0_settle_117 : decode cX0_settle 117 = .ok (.if_icmp .ge 44, 3) := by decide +kernel
theorem dX0_settle_120 : decode cX0_settle 120 = .ok (.aload_n 1, 1) := by decide +kernel
theorem dX0_settle_121 : decode cX0_settle 121 = .ok (.iload_n 3, 1) := by decide +kernel
theorem dX0_settle_122 : decode cX0_settle 122 = .ok (.iload 4, 2) := by decide +kernel
theorem dX0_settle_124 : decode cX0_settle 124 = .ok (.invokevirtual 83, 3) := by decide +kernel
theorem dX0_settle_127 : decode cX0_settle 127 = .ok (.istore 5, 2) := by decide +kernel
theorem dX0_settle_129 : decode cX0_settle 129 = .ok (.aload_n 0, 1) := by decide +kernel
theorem dX0_settle_130 : decode cX0_settle 130 = .ok (.getfield 25, 3) := by decide +kernel
theorem dX0_settle_133 : decode cX0_settle 133 = .ok (.iload 4, 2) := by decide +kernel
theorem dX0_settle_135 : decode cX0_settle 135 = .ok (.iload 5, 2) := by decide +kernel
theorem dX0_settle_137 : decode cX0_settle 137 = .ok (.bipush (-9), 2) := by decide +kernel
theorem dX0_settle_139 : decode cX0_settle 139 = .ok (.if_icmp .ne 8, 3) := by decide +kernel
theorem dX0_settle_142 : decode cX0_settle 142 = .ok (.bipush (-9), 2) := by decide +kernel
theorem dX0_settle_144 : decode cX0_settle 144 = .ok (.goto 10, 3) := by decide +kernel
theorem dX0_settle_147 : decode cX0_settle 147 = .ok (.aload_n 0, 1) := by decide +kernel
theorem dX0_settle_148 : decode cX0_settle 148 = .ok (.getfield 15, 3) := by decide +kernel
theorem dX0_settle_151 : decode cX0_settle 151 = .ok (.iload 5, 2) := by decide +kernel
theorem dX0_settle_153 : decode cX0_settle 153 = .ok (.iaload, 1) := by decide +kernel
theorem dX0_settle_154 : decode cX0_settle 154 = .ok (.iastore, 1) := by decide +kernel
theorem dX0_settle_155 : decode cX0_settle 155 = .ok (.iinc 4 1, 3) := by decide +kernel
theorem dX0_settle_158 : decode cX0_settle 158 = .ok (.goto (-46), 3) := by decide +kernel
theorem dX0_settle_161 : decode cX0_settle 161 = .ok (.return_, 1) := by decide +kernel
theorem dX0_rivalsOf_0 : decode cX0_rivalsOf 0 = .ok (.iconst 0, 1) := by decide +kernel
theorem dX0_rivalsOf_1 : decode cX0_rivalsOf 1 = .ok (.istore_n 3, 1) := by decide +kernel
theorem dX0_rivalsOf_2 : decode cX0_rivalsOf 2 = .ok (.aload_n 1, 1) := by decide +kernel
theorem dX0_rivalsOf_3 : decode cX0_rivalsOf 3 = .ok (.getfield 80, 3) := by decide +kernel
theorem dX0_rivalsOf_6 : decode cX0_rivalsOf 6 = .ok (.iload_n 2, 1) := by decide +kernel
theorem dX0_rivalsOf_7 : decode cX0_rivalsOf 7 = .ok (.invokestatic 87, 3) := by decide +kernel
theorem dX0_rivalsOf_10 : decode cX0_rivalsOf 10 = .ok (.ifCond .ne 5, 3) := by decide +kernel
theorem dX0_rivalsOf_13 : decode cX0_rivalsOf 13 = .ok (.iload_n 3, 1) := by decide +kernel
theorem dX0_rivalsOf_14 : decode cX0_rivalsOf 14 = .ok (.ireturn, 1) := by decide +kernel
theorem dX0_rivalsOf_15 : decode cX0_rivalsOf 15 = .ok (.iconst 0, 1) := by decide +kernel
theorem dX0_rivalsOf_16 : decode cX0_rivalsOf 16 = .ok (.istore 4, 2) := by decide +kernel
theorem dX0_rivalsOf_18 : decode cX0_rivalsOf 18 = .ok (.iload 4, 2) := by decide +kernel
theorem dX0_rivalsOf_20 : decode cX0_rivalsOf 20 = .ok (.aload_n 1, 1) := by decide +kernel
theorem dX0_rivalsOf_21 : decode cX0_rivalsOf 21 = .ok (.getfield 44, 3) := by decide +kernel
theorem dX0_rivalsOf_24 : decode cX0_rivalsOf 24 = .ok (.invokevirtual 50, 3) := by decide +kernel
theorem dX0_rivalsOf_27 : decode cX0_rivalsOf 27 = .ok (.if_icmp .ge 79, 3) := by decide +kernel
theorem dX0_rivalsOf_30 : decode cX0_rivalsOf 30 = .ok (.iload 4, 2) := by decide +kernel
theorem dX0_rivalsOf_32 : decode cX0_rivalsOf 32 = .ok (.iload_n 2, 1) := by decide +kernel
theorem dX0_rivalsOf_33 : decode cX0_rivalsOf 33 = .ok (.if_icmp .eq 67, 3) := by decide +kernel
theorem dX0_rivalsOf_36 : decode cX0_rivalsOf 36 = .ok (.aload_n 1, 1) := by decide +kernel
theorem dX0_rivalsOf_37 : decode cX0_rivalsOf 37 = .ok (.getfield 80, 3) := by decide +kernel
theorem dX0_rivalsOf_40 : decode cX0_rivalsOf 40 = .ok (.iload 4, 2) := by decide +kernel
theorem dX0_rivalsOf_42 : decode cX0_rivalsOf 42 = .ok (.invokestatic 87, 3) := by decide +kernel
theorem dX0_rivalsOf_45 : decode cX0_rivalsOf 45 = .ok (.ifCond .eq 55, 3) := by decide +kernel
theorem dX0_rivalsOf_48 : decode cX0_rivalsOf 48 = .ok (.aload_n 1, 1) := by decide +kernel
theorem dX0_rivalsOf_49 : decode cX0_rivalsOf 49 = .ok (.getfield 91, 3) := by decide +kernel
theorem dX0_rivalsOf_52 : decode cX0_rivalsOf 52 = .ok (.iload_n 2, 1) := by decide +kernel
theorem dX0_rivalsOf_53 : decode cX0_rivalsOf 53 = .ok (.iaload, 1) := by decide +kernel
theorem dX0_rivalsOf_54 : decode cX0_rivalsOf 54 = .ok (.aload_n 1, 1) := by decide +kernel
theorem dX0_rivalsOf_55 : decode cX0_rivalsOf 55 = .ok (.getfield 91, 3) := by decide +kernel
theorem dX0_rivalsOf_58 : decode cX0_rivalsOf 58 = .ok (.iload 4, 2) := by decide +kernel
theorem dX0_rivalsOf_60 : decode cX0_rivalsOf 60 = .ok (.iaload, 1) := by decide +kernel
theorem dX0_rivalsOf_61 : decode cX0_rivalsOf 61 = .ok (.invokestatic 94, 3) := by decide +kernel
theorem dX0_rivalsOf_64 : decode cX0_rivalsOf 64 = .ok (.istore 5, 2) := by decide +kernel
theorem dX0_rivalsOf_66 : decode cX0_rivalsOf 66 = .ok (.aload_n 0, 1) := by decide +kernel
theorem dX0_rivalsOf_67 : decode cX0_rivalsOf 67 = .ok (.getfield 15, 3) := by decide +kernel
theorem dX0_rivalsOf_70 : decode cX0_rivalsOf 70 = .ok (.iload_n 2, 1) := by decide +kernel
theorem dX0_rivalsOf_71 : decode cX0_rivalsOf 71 = .ok (.iaload, 1) := by decide +kernel
theorem dX0_rivalsOf_72 : decode cX0_rivalsOf 72 = .ok (.aload_n 0, 1) := by decide +kernel
theorem dX0_rivalsOf_73 : decode cX0_rivalsOf 73 = .ok (.getfield 15, 3) := by decide +kernel
theorem dX0_rivalsOf_76 : decode cX0_rivalsOf 76 = .ok (.iload 4, 2) := by decide +kernel
theorem dX0_rivalsOf_78 : decode cX0_rivalsOf 78 = .ok (.iaload, 1) := by decide +kernel
theorem dX0_rivalsOf_79 : decode cX0_rivalsOf 79 = .ok (.isub, 1) := by decide +kernel
theorem dX0_rivalsOf_80 : decode cX0_rivalsOf 80 = .ok (.invokestatic 97, 3) := by decide +kernel
theorem dX0_rivalsOf_83 : decode cX0_rivalsOf 83 = .ok (.aload_n 0, 1) := by decide +kernel
theorem dX0_rivalsOf_84 : decode cX0_rivalsOf 84 = .ok (.getfield 9, 3) := by decide +kernel
theorem dX0_rivalsOf_87 : decode cX0_rivalsOf 87 = .ok (.iload 5, 2) := by decide +kernel
theorem dX0_rivalsOf_89 : decode cX0_rivalsOf 89 = .ok (.imul, 1) := by decide +kernel
theorem dX0_rivalsOf_90 : decode cX0_rivalsOf 90 = .ok (.if_icmp .le 10, 3) := by decide +kernel
theorem dX0_rivalsOf_93 : decode cX0_rivalsOf 93 = .ok (.iload_n 3, 1) := by decide +kernel
theorem dX0_rivalsOf_94 : decode cX0_rivalsOf 94 = .ok (.iconst 1, 1) := by decide +kernel
theorem dX0_rivalsOf_95 : decode cX0_rivalsOf 95 = .ok (.iload 4, 2) := by decide +kernel
theorem dX0_rivalsOf_97 : decode cX0_rivalsOf 97 = .ok (.ishl, 1) := by decide +kernel
theorem dX0_rivalsOf_98 : decode cX0_rivalsOf 98 = .ok (.ior, 1) := by decide +kernel
theorem dX0_rivalsOf_99 : decode cX0_rivalsOf 99 = .ok (.istore_n 3, 1) := by decide +kernel
theorem dX0_rivalsOf_100 : decode cX0_rivalsOf 100 = .ok (.iinc 4 1, 3) := by decide +kernel
theorem dX0_rivalsOf_103 : decode cX0_rivalsOf 103 = .ok (.goto (-85), 3) := by decide +kernel
theorem dX0_rivalsOf_106 : decode cX0_rivalsOf 106 = .ok (.iload_n 3, 1) := by decide +kernel
theorem dX0_rivalsOf_107 : decode cX0_rivalsOf 107 = .ok (.ireturn, 1) := by decide +kernel
theorem dX0_fewestDoubts_0 : decode cX0_fewestDoubts 0 = .ok (.iconst 0, 1) := by decide +kernel
theorem dX0_fewestDoubts_1 : decode cX0_fewestDoubts 1 = .ok (.istore_n 2, 1) := by decide +kernel
theorem dX0_fewestDoubts_2 : decode cX0_fewestDoubts 2 = .ok (.iload_n 1, 1) := by decide +kernel
theorem dX0_fewestDoubts_3 : decode cX0_fewestDoubts 3 = .ok (.iconst 1, 1) := by decide +kernel
theorem dX0_fewestDoubts_4 : decode cX0_fewestDoubts 4 = .ok (.iadd, 1) := by decide +kernel
theorem dX0_fewestDoubts_5 : decode cX0_fewestDoubts 5 = .ok (.istore_n 3, 1) := by decide +kernel
theorem dX0_fewestDoubts_6 : decode cX0_fewestDoubts 6 = .ok (.iconst 0, 1) := by decide +kernel
theorem dX0_fewestDoubts_7 : decode cX0_fewestDoubts 7 = .ok (.istore 4, 2) := by decide +kernel
theorem dX0_fewestDoubts_9 : decode cX0_fewestDoubts 9 = .ok (.iload 4, 2) := by decide +kernel
theorem dX0_fewestDoubts_11 : decode cX0_fewestDoubts 11 = .ok (.iconst 1, 1) := by decide +kernel
theorem dX0_fewestDoubts_12 : decode cX0_fewestDoubts 12 = .ok (.iload_n 1, 1) := by decide +kernel
theorem dX0_fewestDoubts_13 : decode cX0_fewestDoubts 13 = .ok (.ishl, 1) := by decide +kernel
theorem dX0_fewestDoubts_14 : decode cX0_fewestDoubts 14 = .ok (.if_icmp .ge 42, 3) := by decide +kernel
theorem dX0_fewestDoubts_17 : decode cX0_fewestDoubts 17 = .ok (.iload_n 3, 1) := by decide +kernel
theorem dX0_fewestDoubts_18 : decode cX0_fewestDoubts 18 = .ok (.ifCond .le 38, 3) := by decide +kernel
theorem dX0_fewestDoubts_21 : decode cX0_fewestDoubts 21 = .ok (.iload 4, 2) := by decide +kernel
theorem dX0_fewestDoubts_23 : decode cX0_fewestDoubts 23 = .ok (.invokestatic 102, 3) := by decide +kernel
theorem dX0_fewestDoubts_26 : decode cX0_fewestDoubts 26 = .ok (.istore 5, 2) := by decide +kernel
theorem dX0_fewestDoubts_28 : decode cX0_fewestDoubts 28 = .ok (.iload 5, 2) := by decide +kernel
theorem dX0_fewestDoubts_30 : decode cX0_fewestDoubts 30 = .ok (.iload_n 3, 1) := by decide +kernel
theorem dX0_fewestDoubts_31 : decode cX0_fewestDoubts 31 = .ok (.if_icmp .ge 19, 3) := by decide +kernel
theorem dX0_fewestDoubts_34 : decode cX0_fewestDoubts 34 = .ok (.aload_n 0, 1) := by decide +kernel
theorem dX0_fewestDoubts_35 : decode cX0_fewestDoubts 35 = .ok (.iload 4, 2) := by decide +kernel
theorem dX0_fewestDoubts_37 : decode cX0_fewestDoubts 37 = .ok (.iload_n 1, 1) := by decide +kernel
theorem dX0_fewestDoubts_38 : decode cX0_fewestDoubts 38 = .ok (.invokevirtual 107, 3) := by decide +kernel
theorem dX0_fewestDoubts_41 : decode cX0_fewestDoubts 41 = .ok (.ifCond .eq 9, 3) := by decide +kernel
theorem dX0_fewestDoubts_44 : decode cX0_fewestDoubts 44 = .ok (.iload 4, 2) := by decide +kernel
theorem dX0_fewestDoubts_46 : decode cX0_fewestDoubts 46 = .ok (.istore_n 2, 1) := by decide +kernel
theorem dX0_fewestDoubts_47 : decode cX0_fewestDoubts 47 = .ok (.iload 5, 2) := by decide +kernel
theorem dX0_fewestDoubts_49 : decode cX0_fewestDoubts 49 = .ok (.istore_n 3, 1) := by decide +kernel
theorem dX0_fewestDoubts_50 : decode cX0_fewestDoubts 50 = .ok (.iinc 4 1, 3) := by decide +kernel
theorem dX0_fewestDoubts_53 : decode cX0_fewestDoubts 53 = .ok (.goto (-44), 3) := by decide +kernel
theorem dX0_fewestDoubts_56 : decode cX0_fewestDoubts 56 = .ok (.iload_n 2, 1) := by decide +kernel
theorem dX0_fewestDoubts_57 : decode cX0_fewestDoubts 57 = .ok (.ireturn, 1) := by decide +kernel
theorem dX0_leavesPeace_0 : decode cX0_leavesPeace 0 = .ok (.iconst 0, 1) := by decide +kernel
theorem dX0_leavesPeace_1 : decode cX0_leavesPeace 1 = .ok (.istore_n 3, 1) := by decide +kernel
theorem dX0_leavesPeace_2 : decode cX0_leavesPeace 2 = .ok (.iload_n 3, 1) := by decide +kernel
theorem dX0_leavesPeace_3 : decode cX0_leavesPeace 3 = .ok (.iload_n 2, 1) := by decide +kernel
theorem dX0_leavesPeace_4 : decode cX0_leavesPeace 4 = .ok (.if_icmp .ge 32, 3) := by decide +kernel
theorem dX0_leavesPeace_7 : decode cX0_leavesPeace 7 = .ok (.iload_n 1, 1) := by decide +kernel
theorem dX0_leavesPeace_8 : decode cX0_leavesPeace 8 = .ok (.iload_n 3, 1) := by decide +kernel
theorem dX0_leavesPeace_9 : decode cX0_leavesPeace 9 = .ok (.invokestatic 87, 3) := by decide +kernel
theorem dX0_leavesPeace_12 : decode cX0_leavesPeace 12 = .ok (.ifCond .ne 18, 3) := by decide +kernel
theorem dX0_leavesPeace_15 : decode cX0_leavesPeace 15 = .ok (.aload_n 0, 1) := by decide +kernel
theorem dX0_leavesPeace_16 : decode cX0_leavesPeace 16 = .ok (.getfield 19, 3) := by decide +kernel
theorem dX0_leavesPeace_19 : decode cX0_leavesPeace 19 = .ok (.iload_n 3, 1) := by decide +kernel
theorem dX0_leavesPeace_20 : decode cX0_leavesPeace 20 = .ok (.iaload, 1) := by decide +kernel
theorem dX0_leavesPeace_21 : decode cX0_leavesPeace 21 = .ok (.iload_n 1, 1) := by decide +kernel
theorem dX0_leavesPeace_22 : decode cX0_leavesPeace 22 = .ok (.iconst (-1), 1) := by decide +kernel
theorem dX0_leavesPeace_23 : decode cX0_leavesPeace 23 = .ok (.ixor, 1) := by decide +kernel
theorem dX0_leavesPeace_24 : decode cX0_leavesPeace 24 = .ok (.iand, 1) := by decide +kernel
theorem dX0_leavesPeace_25 : decode cX0_leavesPeace 25 = .ok (.ifCond .eq 5, 3) := by decide +kernel
theorem dX0_leavesPeace_28 : decode cX0_leavesPeace 28 = .ok (.iconst 0, 1) := by decide +kernel
theorem dX0_leavesPeace_29 : decode cX0_leavesPeace 29 = .ok (.ireturn, 1) := by decide +kernel
theorem dX0_leavesPeace_30 : decode cX0_leavesPeace 30 = .ok (.iinc 3 1, 3) := by decide +kernel
theorem dX0_leavesPeace_33 : decode cX0_leavesPeace 33 = .ok (.goto (-31), 3) := by decide +kernel
theorem dX0_leavesPeace_36 : decode cX0_leavesPeace 36 = .ok (.iconst 1, 1) := by decide +kernel
theorem dX0_leavesPeace_37 : decode cX0_leavesPeace 37 = .ok (.ireturn, 1) := by decide +kernel
theorem dX0_countValues_0 : decode cX0_countValues 0 = .ok (.iconst 0, 1) := by decide +kernel
theorem dX0_countValues_1 : decode cX0_countValues 1 = .ok (.istore_n 1, 1) := by decide +kernel
theorem dX0_countValues_2 : decode cX0_countValues 2 = .ok (.iconst 0, 1) := by decide +kernel
theorem dX0_countValues_3 : decode cX0_countValues 3 = .ok (.istore_n 2, 1) := by decide +kernel
theorem dX0_countValues_4 : decode cX0_countValues 4 = .ok (.iload_n 2, 1) := by decide +kernel
theorem dX0_countValues_5 : decode cX0_countValues 5 = .ok (.sipush 144, 3) := by decide +kernel
theorem dX0_countValues_8 : decode cX0_countValues 8 = .ok (.if_icmp .ge 23, 3) := by decide +kernel
theorem dX0_countValues_11 : decode cX0_countValues 11 = .ok (.aload_n 0, 1) := by decide +kernel
theorem dX0_countValues_12 : decode cX0_countValues 12 = .ok (.getfield 25, 3) := by decide +kernel
theorem dX0_countValues_15 : decode cX0_countValues 15 = .ok (.iload_n 2, 1) := by decide +kernel
theorem dX0_countValues_16 : decode cX0_countValues 16 = .ok (.iaload, 1) := by decide +kernel
theorem dX0_countValues_17 : decode cX0_countValues 17 = .ok (.bipush (-9), 2) := by decide +kernel
theorem dX0_countValues_19 : decode cX0_countValues 19 = .ok (.if_icmp .eq 6, 3) := by decide +kernel
theorem dX0_countValues_22 : decode cX0_countValues 22 = .ok (.iinc 1 1, 3) := by decide +kernel
theorem dX0_countValues_25 : decode cX0_countValues 25 = .ok (.iinc 2 1, 3) := by decide +kernel
theorem dX0_countValues_28 : decode cX0_countValues 28 = .ok (.goto (-24), 3) := by decide +kernel
theorem dX0_countValues_31 : decode cX0_countValues 31 = .ok (.iload_n 1, 1) := by decide +kernel
theorem dX0_countValues_32 : decode cX0_countValues 32 = .ok (.ireturn, 1) := by decide +kernel
theorem dX0_countBelow_0 : decode cX0_countBelow 0 = .ok (.iconst 0, 1) := by decide +kernel
theorem dX0_countBelow_1 : decode cX0_countBelow 1 = .ok (.istore_n 2, 1) := by decide +kernel
theorem dX0_countBelow_2 : decode cX0_countBelow 2 = .ok (.iconst 0, 1) := by decide +kernel
theorem dX0_countBelow_3 : decode cX0_countBelow 3 = .ok (.istore_n 3, 1) := by decide +kernel
theorem dX0_countBelow_4 : decode cX0_countBelow 4 = .ok (.iload_n 3, 1) := by decide +kernel
theorem dX0_countBelow_5 : decode cX0_countBelow 5 = .ok (.sipush 144, 3) := by decide +kernel
theorem dX0_countBelow_8 : decode cX0_countBelow 8 = .ok (.if_icmp .ge 22, 3) := by decide +kernel
theorem dX0_countBelow_11 : decode cX0_countBelow 11 = .ok (.aload_n 0, 1) := by decide +kernel
theorem dX0_countBelow_12 : decode cX0_countBelow 12 = .ok (.getfield 25, 3) := by decide +kernel
theorem dX0_countBelow_15 : decode cX0_countBelow 15 = .ok (.iload_n 3, 1) := by decide +kernel
theorem dX0_countBelow_16 : decode cX0_countBelow 16 = .ok (.iaload, 1) := by decide +kernel
theorem dX0_countBelow_17 : decode cX0_countBelow 17 = .ok (.iload_n 1, 1) := by decide +kernel
theorem dX0_countBelow_18 : decode cX0_countBelow 18 = .ok (.if_icmp .ge 6, 3) := by decide +kernel
theorem dX0_countBelow_21 : decode cX0_countBelow 21 = .ok (.iinc 2 1, 3) := by decide +kernel
theorem dX0_countBelow_24 : decode cX0_countBelow 24 = .ok (.iinc 3 1, 3) := by decide +kernel
theorem dX0_countBelow_27 : decode cX0_countBelow 27 = .ok (.goto (-23), 3) := by decide +kernel
theorem dX0_countBelow_30 : decode cX0_countBelow 30 = .ok (.iload_n 2, 1) := by decide +kernel
theorem dX0_countBelow_31 : decode cX0_countBelow 31 = .ok (.ireturn, 1) := by decide +kernel
theorem dX0_lengthOfLine_0 : decode cX0_lengthOfLine 0 = .ok (.iconst 0, 1) := by decide +kernel
theorem dX0_lengthOfLine_1 : decode cX0_lengthOfLine 1 = .ok (.istore_n 2, 1) := by decide +kernel
theorem dX0_lengthOfLine_2 : decode cX0_lengthOfLine 2 = .ok (.iconst 0, 1) := by decide +kernel
theorem dX0_lengthOfLine_3 : decode cX0_lengthOfLine 3 = .ok (.istore_n 3, 1) := by decide +kernel
theorem dX0_lengthOfLine_4 : decode cX0_lengthOfLine 4 = .ok (.iload_n 3, 1) := by decide +kernel
theorem dX0_lengthOfLine_5 : decode cX0_lengthOfLine 5 = .ok (.sipush 144, 3) := by decide +kernel
theorem dX0_lengthOfLine_8 : decode cX0_lengthOfLine 8 = .ok (.if_icmp .ge 95, 3) := by decide +kernel
theorem dX0_lengthOfLine_11 : decode cX0_lengthOfLine 11 = .ok (.aload_n 0, 1) := by decide +kernel
theorem dX0_lengthOfLine_12 : decode cX0_lengthOfLine 12 = .ok (.getfield 25, 3) := by decide +kernel
theorem dX0_lengthOfLine_15 : decode cX0_lengthOfLine 15 = .ok (.iload_n 3, 1) := by decide +kernel
theorem dX0_lengthOfLine_16 : decode cX0_lengthOfLine 16 = .ok (.iaload, 1) := by decide +kernel
theorem dX0_lengthOfLine_17 : decode cX0_lengthOfLine 17 = .ok (.iload_n 1, 1) := by decide +kernel
theorem dX0_lengthOfLine_18 : decode cX0_lengthOfLine 18 = .ok (.if_icmp .ge 7, 3) := by decide +kernel
theorem dX0_lengthOfLine_21 : decode cX0_lengthOfLine 21 = .ok (.iconst 1, 1) := by decide +kernel
theorem dX0_lengthOfLine_22 : decode cX0_lengthOfLine 22 = .ok (.goto 4, 3) := by decide +kernel
theorem dX0_lengthOfLine_25 : decode cX0_lengthOfLine 25 = .ok (.iconst 0, 1) := by decide +kernel
theorem dX0_lengthOfLine_26 : decode cX0_lengthOfLine 26 = .ok (.istore 4, 2) := by decide +kernel
theorem dX0_lengthOfLine_28 : decode cX0_lengthOfLine 28 = .ok (.iload_n 3, 1) := by decide +kernel
theorem dX0_lengthOfLine_29 : decode cX0_lengthOfLine 29 = .ok (.bipush 12, 2) := by decide +kernel
theorem dX0_lengthOfLine_31 : decode cX0_lengthOfLine 31 = .ok (.irem, 1) := by decide +kernel
theorem dX0_lengthOfLine_32 : decode cX0_lengthOfLine 32 = .ok (.bipush 11, 2) := by decide +kernel
theorem dX0_lengthOfLine_34 : decode cX0_lengthOfLine 34 = .ok (.if_icmp .ge 28, 3) := by decide +kernel
theorem dX0_lengthOfLine_37 : decode cX0_lengthOfLine 37 = .ok (.aload_n 0, 1) := by decide +kernel
theorem dX0_lengthOfLine_38 : decode cX0_lengthOfLine 38 = .ok (.getfield 25, 3) := by decide +kernel
theorem dX0_lengthOfLine_41 : decode cX0_lengthOfLine 41 = .ok (.iload_n 3, 1) := by decide +kernel
theorem dX0_lengthOfLine_42 : decode cX0_lengthOfLine 42 = .ok (.iconst 1, 1) := by decide +kernel
theorem dX0_lengthOfLine_43 : decode cX0_lengthOfLine 43 = .ok (.iadd, 1) := by decide +kernel
theorem dX0_lengthOfLine_44 : decode cX0_lengthOfLine 44 = .ok (.iaload, 1) := by decide +kernel
theorem dX0_lengthOfLine_45 : decode cX0_lengthOfLine 45 = .ok (.iload_n 1, 1) := by decide +kernel
theorem dX0_lengthOfLine_46 : decode cX0_lengthOfLine 46 = .ok (.if_icmp .ge 7, 3) := by decide +kernel
theorem dX0_lengthOfLine_49 : decode cX0_lengthOfLine 49 = .ok (.iconst 1, 1) := by decide +kernel
theorem dX0_lengthOfLine_50 : decode cX0_lengthOfLine 50 = .ok (.goto 4, 3) := by decide +kernel
theorem dX0_lengthOfLine_53 : decode cX0_lengthOfLine 53 = .ok (.iconst 0, 1) := by decide +kernel
theorem dX0_lengthOfLine_54 : decode cX0_lengthOfLine 54 = .ok (.iload 4, 2) := by decide +kernel
theorem dX0_lengthOfLine_56 : decode cX0_lengthOfLine 56 = .ok (.if_icmp .eq 6, 3) := by decide +kernel
theorem dX0_lengthOfLine_59 : decode cX0_lengthOfLine 59 = .ok (.iinc 2 1, 3) := by decide +kernel
theorem dX0_lengthOfLine_62 : decode cX0_lengthOfLine 62 = .ok (.iload_n 3, 1) := by decide +kernel
theorem dX0_lengthOfLine_63 : decode cX0_lengthOfLine 63 = .ok (.bipush 12, 2) := by decide +kernel
theorem dX0_lengthOfLine_65 : decode cX0_lengthOfLine 65 = .ok (.idiv, 1) := by decide +kernel
theorem dX0_lengthOfLine_66 : decode cX0_lengthOfLine 66 = .ok (.bipush 11, 2) := by decide +kernel
theorem dX0_lengthOfLine_68 : decode cX0_lengthOfLine 68 = .ok (.if_icmp .ge 29, 3) := by decide +kernel
theorem dX0_lengthOfLine_71 : decode cX0_lengthOfLine 71 = .ok (.aload_n 0, 1) := by decide +kernel
theorem dX0_lengthOfLine_72 : decode cX0_lengthOfLine 72 = .ok (.getfield 25, 3) := by decide +kernel
theorem dX0_lengthOfLine_75 : decode cX0_lengthOfLine 75 = .ok (.iload_n 3, 1) := by decide +kernel
theorem dX0_lengthOfLine_76 : decode cX0_lengthOfLine 76 = .ok (.bipush 12, 2) := by decide +kernel
theorem dX0_lengthOfLine_78 : decode cX0_lengthOfLine 78 = .ok (.iadd, 1) := by decide +kernel
theorem dX0_lengthOfLine_79 : decode cX0_lengthOfLine 79 = .ok (.iaload, 1) := by decide +kernel
theorem dX0_lengthOfLine_80 : decode cX0_lengthOfLine 80 = .ok (.iload_n 1, 1) := by decide +kernel
theorem dX0_lengthOfLine_81 : decode cX0_lengthOfLine 81 = .ok (.if_icmp .ge 7, 3) := by decide +kernel
theorem dX0_lengthOfLine_84 : decode cX0_lengthOfLine 84 = .ok (.iconst 1, 1) := by decide +kernel
theorem dX0_lengthOfLine_85 : decode cX0_lengthOfLine 85 = .ok (.goto 4, 3) := by decide +kernel
theorem dX0_lengthOfLine_88 : decode cX0_lengthOfLine 88 = .ok (.iconst 0, 1) := by decide +kernel
theorem dX0_lengthOfLine_89 : decode cX0_lengthOfLine 89 = .ok (.iload 4, 2) := by decide +kernel
theorem dX0_lengthOfLine_91 : decode cX0_lengthOfLine 91 = .ok (.if_icmp .eq 6, 3) := by decide +kernel
theorem dX0_lengthOfLine_94 : decode cX0_lengthOfLine 94 = .ok (.iinc 2 1, 3) := by decide +kernel
theorem dX0_lengthOfLine_97 : decode cX0_lengthOfLine 97 = .ok (.iinc 3 1, 3) := by decide +kernel
theorem dX0_lengthOfLine_100 : decode cX0_lengthOfLine 100 = .ok (.goto (-96), 3) := by decide +kernel
theorem dX0_lengthOfLine_103 : decode cX0_lengthOfLine 103 = .ok (.iload_n 2, 1) := by decide +kernel
theorem dX0_lengthOfLine_104 : decode cX0_lengthOfLine 104 = .ok (.ireturn, 1) := by decide +kernel
theorem dX0_countPieces_0 : decode cX0_countPieces 0 = .ok (.iconst 0, 1) := by decide +kernel
theorem dX0_countPieces_1 : decode cX0_countPieces 1 = .ok (.istore_n 3, 1) := by decide +kernel
theorem dX0_countPieces_2 : decode cX0_countPieces 2 = .ok (.iload_n 3, 1) := by decide +kernel
theorem dX0_countPieces_3 : decode cX0_countPieces 3 = .ok (.sipush 144, 3) := by decide +kernel
theorem dX0_countPieces_6 : decode cX0_countPieces 6 = .ok (.if_icmp .ge 39, 3) := by decide +kernel
theorem dX0_countPieces_9 : decode cX0_countPieces 9 = .ok (.aload_n 0, 1) := by decide +kernel
theorem dX0_countPieces_10 : decode cX0_countPieces 10 = .ok (.getfield 37, 3) := by decide +kernel
theorem dX0_countPieces_13 : decode cX0_countPieces 13 = .ok (.iload_n 3, 1) := by decide +kernel
theorem dX0_countPieces_14 : decode cX0_countPieces 14 = .ok (.aload_n 0, 1) := by decide +kernel
theorem dX0_countPieces_15 : decode cX0_countPieces 15 = .ok (.getfield 25, 3) := by decide +kernel
theorem dX0_countPieces_18 : decode cX0_countPieces 18 = .ok (.iload_n 3, 1) := by decide +kernel
theorem dX0_countPieces_19 : decode cX0_countPieces 19 = .ok (.iaload, 1) := by decide +kernel
theorem dX0_countPieces_20 : decode cX0_countPieces 20 = .ok (.iload_n 1, 1) := by decide +kernel
theorem dX0_countPieces_21 : decode cX0_countPieces 21 = .ok (.if_icmp .ge 7, 3) := by decide +kernel
theorem dX0_countPieces_24 : decode cX0_countPieces 24 = .ok (.iconst 1, 1) := by decide +kernel
theorem dX0_countPieces_25 : decode cX0_countPieces 25 = .ok (.goto 4, 3) := by decide +kernel
theorem dX0_countPieces_28 : decode cX0_countPieces 28 = .ok (.iconst 0, 1) := by decide +kernel
theorem dX0_countPieces_29 : decode cX0_countPieces 29 = .ok (.iload_n 2, 1) := by decide +kernel
theorem dX0_countPieces_30 : decode cX0_countPieces 30 = .ok (.if_icmp .eq 7, 3) := by decide +kernel
theorem dX0_countPieces_33 : decode cX0_countPieces 33 = .ok (.iconst 1, 1) := by decide +kernel
theorem dX0_countPieces_34 : decode cX0_countPieces 34 = .ok (.goto 4, 3) := by decide +kernel
theorem dX0_countPieces_37 : decode cX0_countPieces 37 = .ok (.iconst 0, 1) := by decide +kernel
theorem dX0_countPieces_38 : decode cX0_countPieces 38 = .ok (.bastore, 1) := by decide +kernel
theorem dX0_countPieces_39 : decode cX0_countPieces 39 = .ok (.iinc 3 1, 3) := by decide +kernel
theorem dX0_countPieces_42 : decode cX0_countPieces 42 = .ok (.goto (-40), 3) := by decide +kernel
theorem dX0_countPieces_45 : decode cX0_countPieces 45 = .ok (.iconst 0, 1) := by decide +kernel
theorem dX0_countPieces_46 : decode cX0_countPieces 46 = .ok (.istore_n 3, 1) := by decide +kernel
theorem dX0_countPieces_47 : decode cX0_countPieces 47 = .ok (.iconst 0, 1) := by decide +kernel
theorem dX0_countPieces_48 : decode cX0_countPieces 48 = .ok (.istore 4, 2) := by decide +kernel
theorem dX0_countPieces_50 : decode cX0_countPieces 50 = .ok (.iload 4, 2) := by decide +kernel
theorem dX0_countPieces_52 : decode cX0_countPieces 52 = .ok (.sipush 144, 3) := by decide +kernel
theorem dX0_countPieces_55 : decode cX0_countPieces 55 = .ok (.if_icmp .ge 28, 3) := by decide +kernel
theorem dX0_countPieces_58 : decode cX0_countPieces 58 = .ok (.aload_n 0, 1) := by decide +kernel
theorem dX0_countPieces_59 : decode cX0_countPieces 59 = .ok (.getfield 37, 3) := by decide +kernel
theorem dX0_countPieces_62 : decode cX0_countPieces 62 = .ok (.iload 4, 2) := by decide +kernel
theorem dX0_countPieces_64 : decode cX0_countPieces 64 = .ok (.baload, 1) := by decide +kernel
theorem dX0_countPieces_65 : decode cX0_countPieces 65 = .ok (.ifCond .ne 12, 3) := by decide +kernel
theorem dX0_countPieces_68 : decode cX0_countPieces 68 = .ok (.iinc 3 1, 3) := by decide +kernel
theorem dX0_countPieces_71 : decode cX0_countPieces 71 = .ok (.aload_n 0, 1) := by decide +kernel
theorem dX0_countPieces_72 : decode cX0_countPieces 72 = .ok (.iload 4, 2) := by decide +kernel
theorem dX0_countPieces_74 : decode cX0_countPieces 74 = .ok (.invokevirtual 110, 3) := by decide +kernel
theorem dX0_countPieces_77 : decode cX0_countPieces 77 = .ok (.iinc 4 1, 3) := by decide +kernel
theorem dX0_countPieces_80 : decode cX0_countPieces 80 = .ok (.goto (-30), 3) := by decide +kernel
theorem dX0_countPieces_83 : decode cX0_countPieces 83 = .ok (.iload_n 3, 1) := by decide +kernel
theorem dX0_countPieces_84 : decode cX0_countPieces 84 = .ok (.ireturn, 1) := by decide +kernel
theorem dX0_reachPiece_0 : decode cX0_reachPiece 0 = .ok (.aload_n 0, 1) := by decide +kernel
theorem dX0_reachPiece_1 : decode cX0_reachPiece 1 = .ok (.iload_n 1, 1) := by decide +kernel
theorem dX0_reachPiece_2 : decode cX0_reachPiece 2 = .ok (.iconst 0, 1) := by decide +kernel
theorem dX0_reachPiece_3 : decode cX0_reachPiece 3 = .ok (.invokevirtual 114, 3) := by decide +kernel
theorem dX0_reachPiece_6 : decode cX0_reachPiece 6 = .ok (.istore_n 2, 1) := by decide +kernel
theorem dX0_reachPiece_7 : decode cX0_reachPiece 7 = .ok (.iconst 0, 1) := by decide +kernel
theorem dX0_reachPiece_8 : decode cX0_reachPiece 8 = .ok (.istore_n 3, 1) := by decide +kernel
theorem dX0_reachPiece_9 : decode cX0_reachPiece 9 = .ok (.iload_n 3, 1) := by decide +kernel
theorem dX0_reachPiece_10 : decode cX0_reachPiece 10 = .ok (.iload_n 2, 1) := by decide +kernel
theorem dX0_reachPiece_11 : decode cX0_reachPiece 11 = .ok (.if_icmp .ge 104, 3) := by decide +kernel
theorem dX0_reachPiece_14 : decode cX0_reachPiece 14 = .ok (.iload_n 3, 1) := by decide +kernel
theorem dX0_reachPiece_15 : decode cX0_reachPiece 15 = .ok (.sipush 144, 3) := by decide +kernel
theorem dX0_reachPiece_18 : decode cX0_reachPiece 18 = .ok (.if_icmp .ge 97, 3) := by decide +kernel
theorem dX0_reachPiece_21 : decode cX0_reachPiece 21 = .ok (.aload_n 0, 1) := by decide +kernel
theorem dX0_reachPiece_22 : decode cX0_reachPiece 22 = .ok (.getfield 41, 3) := by decide +kernel
theorem dX0_reachPiece_25 : decode cX0_reachPiece 25 = .ok (.iload_n 3, 1) := by decide +kernel
theorem dX0_reachPiece_26 : decode cX0_reachPiece 26 = .ok (.iaload, 1) := by decide +kernel
theorem dX0_reachPiece_27 : decode cX0_reachPiece 27 = .ok (.istore 4, 2) := by decide +kernel
theorem dX0_reachPiece_29 : decode cX0_reachPiece 29 = .ok (.iload 4, 2) := by decide +kernel
theorem dX0_reachPiece_31 : decode cX0_reachPiece 31 = .ok (.bipush 12, 2) := by decide +kernel
theorem dX0_reachPiece_33 : decode cX0_reachPiece 33 = .ok (.irem, 1) := by decide +kernel
theorem dX0_reachPiece_34 : decode cX0_reachPiece 34 = .ok (.istore 5, 2) := by decide +kernel
theorem dX0_reachPiece_36 : decode cX0_reachPiece 36 = .ok (.iload 4, 2) := by decide +kernel
theorem dX0_reachPiece_38 : decode cX0_reachPiece 38 = .ok (.bipush 12, 2) := by decide +kernel
theorem dX0_reachPiece_40 : decode cX0_reachPiece 40 = .ok (.idiv, 1) := by decide +kernel
theorem dX0_reachPiece_41 : decode cX0_reachPiece 41 = .ok (.istore 6, 2) := by decide +kernel
theorem dX0_reachPiece_43 : decode cX0_reachPiece 43 = .ok (.iload 5, 2) := by decide +kernel
theorem dX0_reachPiece_45 : decode cX0_reachPiece 45 = .ok (.ifCond .le 13, 3) := by decide +kernel
theorem dX0_reachPiece_48 : decode cX0_reachPiece 48 = .ok (.aload_n 0, 1) := by decide +kernel
theorem dX0_reachPiece_49 : decode cX0_reachPiece 49 = .ok (.iload 4, 2) := by decide +kernel
theorem dX0_reachPiece_51 : decode cX0_reachPiece 51 = .ok (.iconst 1, 1) := by decide +kernel
theorem dX0_reachPiece_52 : decode cX0_reachPiece 52 = .ok (.isub, 1) := by decide +kernel
theorem dX0_reachPiece_53 : decode cX0_reachPiece 53 = .ok (.iload_n 2, 1) := by decide +kernel
theorem dX0_reachPiece_54 : decode cX0_reachPiece 54 = .ok (.invokevirtual 114, 3) := by decide +kernel
theorem dX0_reachPiece_57 : decode cX0_reachPiece 57 = .ok (.istore_n 2, 1) := by decide +kernel
theorem dX0_reachPiece_58 : decode cX0_reachPiece 58 = .ok (.iload 5, 2) := by decide +kernel
theorem dX0_reachPiece_60 : decode cX0_reachPiece 60 = .ok (.bipush 11, 2) := by decide +kernel
theorem dX0_reachPiece_62 : decode cX0_reachPiece 62 = .ok (.if_icmp .ge 13, 3) := by decide +kernel
theorem dX0_reachPiece_65 : decode cX0_reachPiece 65 = .ok (.aload_n 0, 1) := by decide +kernel
theorem dX0_reachPiece_66 : decode cX0_reachPiece 66 = .ok (.iload 4, 2) := by decide +kernel
theorem dX0_reachPiece_68 : decode cX0_reachPiece 68 = .ok (.iconst 1, 1) := by decide +kernel
theorem dX0_reachPiece_69 : decode cX0_reachPiece 69 = .ok (.iadd, 1) := by decide +kernel
theorem dX0_reachPiece_70 : decode cX0_reachPiece 70 = .ok (.iload_n 2, 1) := by decide +kernel
theorem dX0_reachPiece_71 : decode cX0_reachPiece 71 = .ok (.invokevirtual 114, 3) := by decide +kernel
theorem dX0_reachPiece_74 : decode cX0_reachPiece 74 = .ok (.istore_n 2, 1) := by decide +kernel
theorem dX0_reachPiece_75 : decode cX0_reachPiece 75 = .ok (.iload 6, 2) := by decide +kernel
theorem dX0_reachPiece_77 : decode cX0_reachPiece 77 = .ok (.ifCond .le 14, 3) := by decide +kernel
theorem dX0_reachPiece_80 : decode cX0_reachPiece 80 = .ok (.aload_n 0, 1) := by decide +kernel
theorem dX0_reachPiece_81 : decode cX0_reachPiece 81 = .ok (.iload 4, 2) := by decide +kernel
theorem dX0_reachPiece_83 : decode cX0_reachPiece 83 = .ok (.bipush 12, 2) := by decide +kernel
theorem dX0_reachPiece_85 : decode cX0_reachPiece 85 = .ok (.isub, 1) := by decide +kernel
theorem dX0_reachPiece_86 : decode cX0_reachPiece 86 = .ok (.iload_n 2, 1) := by decide +kernel
theorem dX0_reachPiece_87 : decode cX0_reachPiece 87 = .ok (.invokevirtual 114, 3) := by decide +kernel
theorem dX0_reachPiece_90 : decode cX0_reachPiece 90 = .ok (.istore_n 2, 1) := by decide +kernel
theorem dX0_reachPiece_91 : decode cX0_reachPiece 91 = .ok (.iload 6, 2) := by decide +kernel
theorem dX0_reachPiece_93 : decode cX0_reachPiece 93 = .ok (.bipush 11, 2) := by decide +kernel
theorem dX0_reachPiece_95 : decode cX0_reachPiece 95 = .ok (.if_icmp .ge 14, 3) := by decide +kernel
theorem dX0_reachPiece_98 : decode cX0_reachPiece 98 = .ok (.aload_n 0, 1) := by decide +kernel
theorem dX0_reachPiece_99 : decode cX0_reachPiece 99 = .ok (.iload 4, 2) := by decide +kernel
theorem dX0_reachPiece_101 : decode cX0_reachPiece 101 = .ok (.bipush 12, 2) := by decide +kernel
theorem dX0_reachPiece_103 : decode cX0_reachPiece 103 = .ok (.iadd, 1) := by decide +kernel
theorem dX0_reachPiece_104 : decode cX0_reachPiece 104 = .ok (.iload_n 2, 1) := by decide +kernel
theorem dX0_reachPiece_105 : decode cX0_reachPiece 105 = .ok (.invokevirtual 114, 3) := by decide +kernel
theorem dX0_reachPiece_108 : decode cX0_reachPiece 108 = .ok (.istore_n 2, 1) := by decide +kernel
theorem dX0_reachPiece_109 : decode cX0_reachPiece 109 = .ok (.iinc 3 1, 3) := by decide +kernel
theorem dX0_reachPiece_112 : decode cX0_reachPiece 112 = .ok (.goto (-103), 3) := by decide +kernel
theorem dX0_reachPiece_115 : decode cX0_reachPiece 115 = .ok (.return_, 1) := by decide +kernel
theorem dX0_reach_0 : decode cX0_reach 0 = .ok (.aload_n 0, 1) := by decide +kernel
theorem dX0_reach_1 : decode cX0_reach 1 = .ok (.getfield 37, 3) := by decide +kernel
theorem dX0_reach_4 : decode cX0_reach 4 = .ok (.iload_n 1, 1) := by decide +kernel
theorem dX0_reach_5 : decode cX0_reach 5 = .ok (.baload, 1) := by decide +kernel
theorem dX0_reach_6 : decode cX0_reach 6 = .ok (.ifCond .ne 10, 3) := by decide +kernel
theorem dX0_reach_9 : decode cX0_reach 9 = .ok (.iload_n 2, 1) := by decide +kernel
theorem dX0_reach_10 : decode cX0_reach 10 = .ok (.sipush 144, 3) := by decide +kernel
theorem dX0_reach_13 : decode cX0_reach 13 = .ok (.if_icmp .lt 5, 3) := by decide +kernel
theorem dX0_reach_16 : decode cX0_reach 16 = .ok (.iload_n 2, 1) := by decide +kernel
theorem dX0_reach_17 : decode cX0_reach 17 = .ok (.ireturn, 1) := by decide +kernel
theorem dX0_reach_18 : decode cX0_reach 18 = .ok (.aload_n 0, 1) := by decide +kernel
theorem dX0_reach_19 : decode cX0_reach 19 = .ok (.getfield 37, 3) := by decide +kernel
theorem dX0_reach_22 : decode cX0_reach 22 = .ok (.iload_n 1, 1) := by decide +kernel
theorem dX0_reach_23 : decode cX0_reach 23 = .ok (.iconst 1, 1) := by decide +kernel
theorem dX0_reach_24 : decode cX0_reach 24 = .ok (.bastore, 1) := by decide +kernel
theorem dX0_reach_25 : decode cX0_reach 25 = .ok (.aload_n 0, 1) := by decide +kernel
theorem dX0_reach_26 : decode cX0_reach 26 = .ok (.getfield 41, 3) := by decide +kernel
theorem dX0_reach_29 : decode cX0_reach 29 = .ok (.iload_n 2, 1) := by decide +kernel
theorem dX0_reach_30 : decode cX0_reach 30 = .ok (.iload_n 1, 1) := by decide +kernel
theorem dX0_reach_31 : decode cX0_reach 31 = .ok (.iastore, 1) := by decide +kernel
theorem dX0_reach_32 : decode cX0_reach 32 = .ok (.iload_n 2, 1) := by decide +kernel
theorem dX0_reach_33 : decode cX0_reach 33 = .ok (.iconst 1, 1) := by decide +kernel
theorem dX0_reach_34 : decode cX0_reach 34 = .ok (.iadd, 1) := by decide +kernel
theorem dX0_reach_35 : decode cX0_reach 35 = .ok (.ireturn, 1) := by decide +kernel
theorem dX0_countWrong_0 : decode cX0_countWrong 0 = .ok (.iconst 0, 1) := by decide +kernel
theorem dX0_countWrong_1 : decode cX0_countWrong 1 = .ok (.istore_n 3, 1) := by decide +kernel
theorem dX0_countWrong_2 : decode cX0_countWrong 2 = .ok (.iconst 0, 1) := by decide +kernel
theorem dX0_countWrong_3 : decode cX0_countWrong 3 = .ok (.istore 4, 2) := by decide +kernel
theorem dX0_countWrong_5 : decode cX0_countWrong 5 = .ok (.iload 4, 2) := by decide +kernel
theorem dX0_countWrong_7 : decode cX0_countWrong 7 = .ok (.aload_n 1, 1) := by decide +kernel
theorem dX0_countWrong_8 : decode cX0_countWrong 8 = .ok (.getfield 44, 3) := by decide +kernel
theorem dX0_countWrong_11 : decode cX0_countWrong 11 = .ok (.invokevirtual 50, 3) := by decide +kernel
theorem dX0_countWrong_14 : decode cX0_countWrong 14 = .ok (.if_icmp .ge 64, 3) := by decide +kernel
theorem dX0_countWrong_17 : decode cX0_countWrong 17 = .ok (.aload_n 1, 1) := by decide +kernel
theorem dX0_countWrong_18 : decode cX0_countWrong 18 = .ok (.getfield 80, 3) := by decide +kernel
theorem dX0_countWrong_21 : decode cX0_countWrong 21 = .ok (.iload 4, 2) := by decide +kernel
theorem dX0_countWrong_23 : decode cX0_countWrong 23 = .ok (.invokestatic 87, 3) := by decide +kernel
theorem dX0_countWrong_26 : decode cX0_countWrong 26 = .ok (.ifCond .eq 46, 3) := by decide +kernel
theorem dX0_countWrong_29 : decode cX0_countWrong 29 = .ok (.aload_n 0, 1) := by decide +kernel
theorem dX0_countWrong_30 : decode cX0_countWrong 30 = .ok (.getfield 15, 3) := by decide +kernel
theorem dX0_countWrong_33 : decode cX0_countWrong 33 = .ok (.iload 4, 2) := by decide +kernel
theorem dX0_countWrong_35 : decode cX0_countWrong 35 = .ok (.iaload, 1) := by decide +kernel
theorem dX0_countWrong_36 : decode cX0_countWrong 36 = .ok (.iload_n 2, 1) := by decide +kernel
theorem dX0_countWrong_37 : decode cX0_countWrong 37 = .ok (.if_icmp .ge 7, 3) := by decide +kernel
theorem dX0_countWrong_40 : decode cX0_countWrong 40 = .ok (.iconst 1, 1) := by decide +kernel
theorem dX0_countWrong_41 : decode cX0_countWrong 41 = .ok (.goto 4, 3) := by decide +kernel
theorem dX0_countWrong_44 : decode cX0_countWrong 44 = .ok (.iconst 0, 1) := by decide +kernel
theorem dX0_countWrong_45 : decode cX0_countWrong 45 = .ok (.aload_n 0, 1) := by decide +kernel
theorem dX0_countWrong_46 : decode cX0_countWrong 46 = .ok (.getfield 25, 3) := by decide +kernel
theorem dX0_countWrong_49 : decode cX0_countWrong 49 = .ok (.aload_n 1, 1) := by decide +kernel
theorem dX0_countWrong_50 : decode cX0_countWrong 50 = .ok (.getfield 91, 3) := by decide +kernel
theorem dX0_countWrong_53 : decode cX0_countWrong 53 = .ok (.iload 4, 2) := by decide +kernel
theorem dX0_countWrong_55 : decode cX0_countWrong 55 = .ok (.iaload, 1) := by decide +kernel
theorem dX0_countWrong_56 : decode cX0_countWrong 56 = .ok (.iaload, 1) := by decide +kernel
theorem dX0_countWrong_57 : decode cX0_countWrong 57 = .ok (.iload_n 2, 1) := by decide +kernel
theorem dX0_countWrong_58 : decode cX0_countWrong 58 = .ok (.if_icmp .ge 7, 3) := by decide +kernel
theorem dX0_countWrong_61 : decode cX0_countWrong 61 = .ok (.iconst 1, 1) := by decide +kernel
theorem dX0_countWrong_62 : decode cX0_countWrong 62 = .ok (.goto 4, 3) := by decide +kernel
theorem dX0_countWrong_65 : decode cX0_countWrong 65 = .ok (.iconst 0, 1) := by decide +kernel
theorem dX0_countWrong_66 : decode cX0_countWrong 66 = .ok (.if_icmp .eq 6, 3) := by decide +kernel
theorem dX0_countWrong_69 : decode cX0_countWrong 69 = .ok (.iinc 3 1, 3) := by decide +kernel
theorem dX0_countWrong_72 : decode cX0_countWrong 72 = .ok (.iinc 4 1, 3) := by decide +kernel
theorem dX0_countWrong_75 : decode cX0_countWrong 75 = .ok (.goto (-70), 3) := by decide +kernel
theorem dX0_countWrong_78 : decode cX0_countWrong 78 = .ok (.iload_n 3, 1) := by decide +kernel
theorem dX0_countWrong_79 : decode cX0_countWrong 79 = .ok (.ireturn, 1) := by decide +kernel
theorem dX0_carriedValue_0 : decode cX0_carriedValue 0 = .ok (.iload_n 3, 1) := by decide +kernel
theorem dX0_carriedValue_1 : decode cX0_carriedValue 1 = .ok (.iload_n 1, 1) := by decide +kernel
theorem dX0_carriedValue_2 : decode cX0_carriedValue 2 = .ok (.isub, 1) := by decide +kernel
theorem dX0_carriedValue_3 : decode cX0_carriedValue 3 = .ok (.iload 4, 2) := by decide +kernel
theorem dX0_carriedValue_5 : decode cX0_carriedValue 5 = .ok (.iload_n 2, 1) := by decide +kernel
theorem dX0_carriedValue_6 : decode cX0_carriedValue 6 = .ok (.isub, 1) := by decide +kernel
theorem dX0_carriedValue_7 : decode cX0_carriedValue 7 = .ok (.invokestatic 117, 3) := by decide +kernel
theorem dX0_carriedValue_10 : decode cX0_carriedValue 10 = .ok (.ifCond .ne 6, 3) := by decide +kernel
theorem dX0_carriedValue_13 : decode cX0_carriedValue 13 = .ok (.bipush (-9), 2) := by decide +kernel
theorem dX0_carriedValue_15 : decode cX0_carriedValue 15 = .ok (.ireturn, 1) := by decide +kernel
theorem dX0_carriedValue_16 : decode cX0_carriedValue 16 = .ok (.aload_n 0, 1) := by decide +kernel
theorem dX0_carriedValue_17 : decode cX0_carriedValue 17 = .ok (.getfield 25, 3) := by decide +kernel
theorem dX0_carriedValue_20 : decode cX0_carriedValue 20 = .ok (.bipush 12, 2) := by decide +kernel
theorem dX0_carriedValue_22 : decode cX0_carriedValue 22 = .ok (.iload 4, 2) := by decide +kernel
theorem dX0_carriedValue_24 : decode cX0_carriedValue 24 = .ok (.iload_n 2, 1) := by decide +kernel
theorem dX0_carriedValue_25 : decode cX0_carriedValue 25 = .ok (.isub, 1) := by decide +kernel
theorem dX0_carriedValue_26 : decode cX0_carriedValue 26 = .ok (.imul, 1) := by decide +kernel
theorem dX0_carriedValue_27 : decode cX0_carriedValue 27 = .ok (.iload_n 3, 1) := by decide +kernel
theorem dX0_carriedValue_28 : decode cX0_carriedValue 28 = .ok (.iadd, 1) := by decide +kernel
theorem dX0_carriedValue_29 : decode cX0_carriedValue 29 = .ok (.iload_n 1, 1) := by decide +kernel
theorem dX0_carriedValue_30 : decode cX0_carriedValue 30 = .ok (.isub, 1) := by decide +kernel
theorem dX0_carriedValue_31 : decode cX0_carriedValue 31 = .ok (.iaload, 1) := by decide +kernel
theorem dX0_carriedValue_32 : decode cX0_carriedValue 32 = .ok (.ireturn, 1) := by decide +kernel
theorem dX0_compare_0 : decode cX0_compare 0 = .ok (.aload_n 0, 1) := by decide +kernel
theorem dX0_compare_1 : decode cX0_compare 1 = .ok (.iconst 0, 1) := by decide +kernel
theorem dX0_compare_2 : decode cX0_compare 2 = .ok (.putfield 28, 3) := by decide +kernel
theorem dX0_compare_5 : decode cX0_compare 5 = .ok (.aload_n 0, 1) := by decide +kernel
theorem dX0_compare_6 : decode cX0_compare 6 = .ok (.iconst 0, 1) := by decide +kernel
theorem dX0_compare_7 : decode cX0_compare 7 = .ok (.putfield 31, 3) := by decide +kernel
theorem dX0_compare_10 : decode cX0_compare 10 = .ok (.aload_n 0, 1) := by decide +kernel
theorem dX0_compare_11 : decode cX0_compare 11 = .ok (.iconst 0, 1) := by decide +kernel
theorem dX0_compare_12 : decode cX0_compare 12 = .ok (.putfield 34, 3) := by decide +kernel
theorem dX0_compare_15 : decode cX0_compare 15 = .ok (.iconst 0, 1) := by decide +kernel
theorem dX0_compare_16 : decode cX0_compare 16 = .ok (.istore 4, 2) := by decide +kernel
theorem dX0_compare_18 : decode cX0_compare 18 = .ok (.iload 4, 2) := by decide +kernel
theorem dX0_compare_20 : decode cX0_compare 20 = .ok (.sipush 144, 3) := by decide +kernel
theorem dX0_compare_23 : decode cX0_compare 23 = .ok (.if_icmp .ge 88, 3) := by decide +kernel
theorem dX0_compare_26 : decode cX0_compare 26 = .ok (.aload_n 0, 1) := by decide +kernel
theorem dX0_compare_27 : decode cX0_compare 27 = .ok (.iload_n 1, 1) := by decide +kernel
theorem dX0_compare_28 : decode cX0_compare 28 = .ok (.iload_n 2, 1) := by decide +kernel
theorem dX0_compare_29 : decode cX0_compare 29 = .ok (.iload 4, 2) := by decide +kernel
theorem dX0_compare_31 : decode cX0_compare 31 = .ok (.bipush 12, 2) := by decide +kernel
theorem dX0_compare_33 : decode cX0_compare 33 = .ok (.irem, 1) := by decide +kernel
theorem dX0_compare_34 : decode cX0_compare 34 = .ok (.iload 4, 2) := by decide +kernel
theorem dX0_compare_36 : decode cX0_compare 36 = .ok (.bipush 12, 2) := by decide +kernel
theorem dX0_compare_38 : decode cX0_compare 38 = .ok (.idiv, 1) := by decide +kernel
theorem dX0_compare_39 : decode cX0_compare 39 = .ok (.invokevirtual 120, 3) := by decide +kernel
theorem dX0_compare_42 : decode cX0_compare 42 = .ok (.istore 5, 2) := by decide +kernel
theorem dX0_compare_44 : decode cX0_compare 44 = .ok (.iload 5, 2) := by decide +kernel
theorem dX0_compare_46 : decode cX0_compare 46 = .ok (.bipush (-9), 2) := by decide +kernel
theorem dX0_compare_48 : decode cX0_compare 48 = .ok (.if_icmp .eq 57, 3) := by decide +kernel
theorem dX0_compare_51 : decode cX0_compare 51 = .ok (.aload_n 3, 1) := by decide +kernel
theorem dX0_compare_52 : decode cX0_compare 52 = .ok (.iload 4, 2) := by decide +kernel
theorem dX0_compare_54 : decode cX0_compare 54 = .ok (.iaload, 1) := by decide +kernel
theorem dX0_compare_55 : decode cX0_compare 55 = .ok (.bipush (-9), 2) := by decide +kernel
theorem dX0_compare_57 : decode cX0_compare 57 = .ok (.if_icmp .eq 48, 3) := by decide +kernel
theorem dX0_compare_60 : decode cX0_compare 60 = .ok (.aload_n 0, 1) := by decide +kernel
theorem dX0_compare_61 : decode cX0_compare 61 = .ok (.dup, 1) := by decide +kernel
theorem dX0_compare_62 : decode cX0_compare 62 = .ok (.getfield 28, 3) := by decide +kernel
theorem dX0_compare_65 : decode cX0_compare 65 = .ok (.iconst 1, 1) := by decide +kernel
theorem dX0_compare_66 : decode cX0_compare 66 = .ok (.iadd, 1) := by decide +kernel
theorem dX0_compare_67 : decode cX0_compare 67 = .ok (.putfield 28, 3) := by decide +kernel
theorem dX0_compare_70 : decode cX0_compare 70 = .ok (.aload_n 0, 1) := by decide +kernel
theorem dX0_compare_71 : decode cX0_compare 71 = .ok (.dup, 1) := by decide +kernel
theorem dX0_compare_72 : decode cX0_compare 72 = .ok (.getfield 31, 3) := by decide +kernel
theorem dX0_compare_75 : decode cX0_compare 75 = .ok (.iload 5, 2) := by decide +kernel
theorem dX0_compare_77 : decode cX0_compare 77 = .ok (.aload_n 3, 1) := by decide +kernel
theorem dX0_compare_78 : decode cX0_compare 78 = .ok (.iload 4, 2) := by decide +kernel
theorem dX0_compare_80 : decode cX0_compare 80 = .ok (.iaload, 1) := by decide +kernel
theorem dX0_compare_81 : decode cX0_compare 81 = .ok (.isub, 1) := by decide +kernel
theorem dX0_compare_82 : decode cX0_compare 82 = .ok (.invokestatic 97, 3) := by decide +kernel
theorem dX0_compare_85 : decode cX0_compare 85 = .ok (.iadd, 1) := by decide +kernel
theorem dX0_compare_86 : decode cX0_compare 86 = .ok (.putfield 31, 3) := by decide +kernel
theorem dX0_compare_89 : decode cX0_compare 89 = .ok (.aload_n 0, 1) := by decide +kernel
theorem dX0_compare_90 : decode cX0_compare 90 = .ok (.dup, 1) := by decide +kernel
theorem dX0_compare_91 : decode cX0_compare 91 = .ok (.getfield 34, 3) := by decide +kernel
theorem dX0_compare_94 : decode cX0_compare 94 = .ok (.iload 5, 2) := by decide +kernel
theorem dX0_compare_96 : decode cX0_compare 96 = .ok (.aload_n 3, 1) := by decide +kernel
theorem dX0_compare_97 : decode cX0_compare 97 = .ok (.iload 4, 2) := by decide +kernel
theorem dX0_compare_99 : decode cX0_compare 99 = .ok (.iaload, 1) := by decide +kernel
theorem dX0_compare_100 : decode cX0_compare 100 = .ok (.isub, 1) := by decide +kernel
theorem dX0_compare_101 : decode cX0_compare 101 = .ok (.iadd, 1) := by decide +kernel
theorem dX0_compare_102 : decode cX0_compare 102 = .ok (.putfield 34, 3) := by decide +kernel
theorem dX0_compare_105 : decode cX0_compare 105 = .ok (.iinc 4 1, 3) := by decide +kernel
theorem dX0_compare_108 : decode cX0_compare 108 = .ok (.goto (-90), 3) := by decide +kernel
theorem dX0_compare_111 : decode cX0_compare 111 = .ok (.return_, 1) := by decide +kernel
theorem dX0_bestDrift_0 : decode cX0_bestDrift 0 = .ok (.bipush (-9), 2) := by decide +kernel
theorem dX0_bestDrift_2 : decode cX0_bestDrift 2 = .ok (.istore_n 3, 1) := by decide +kernel
theorem dX0_bestDrift_3 : decode cX0_bestDrift 3 = .ok (.lconst 0, 1) := by decide +kernel
theorem dX0_bestDrift_4 : decode cX0_bestDrift 4 = .ok (.lstore 4, 2) := by decide +kernel
theorem dX0_bestDrift_6 : decode cX0_bestDrift 6 = .ok (.lconst 0, 1) := by decide +kernel
theorem dX0_bestDrift_7 : decode cX0_bestDrift 7 = .ok (.lstore 6, 2) := by decide +kernel
theorem dX0_bestDrift_9 : decode cX0_bestDrift 9 = .ok (.iload_n 2, 1) := by decide +kernel
theorem dX0_bestDrift_10 : decode cX0_bestDrift 10 = .ok (.ineg, 1) := by decide +kernel
theorem dX0_bestDrift_11 : decode cX0_bestDrift 11 = .ok (.istore 8, 2) := by decide +kernel
theorem dX0_bestDrift_13 : decode cX0_bestDrift 13 = .ok (.iload 8, 2) := by decide +kernel
theorem dX0_bestDrift_15 : decode cX0_bestDrift 15 = .ok (.iload_n 2, 1) := by decide +kernel
theorem dX0_bestDrift_16 : decode cX0_bestDrift 16 = .ok (.if_icmp .gt 108, 3) := by decide +kernel
theorem dX0_bestDrift_19 : decode cX0_bestDrift 19 = .ok (.iload_n 2, 1) := by decide +kernel
theorem dX0_bestDrift_20 : decode cX0_bestDrift 20 = .ok (.ineg, 1) := by decide +kernel
theorem dX0_bestDrift_21 : decode cX0_bestDrift 21 = .ok (.istore 9, 2) := by decide +kernel
theorem dX0_bestDrift_23 : decode cX0_bestDrift 23 = .ok (.iload 9, 2) := by decide +kernel
theorem dX0_bestDrift_25 : decode cX0_bestDrift 25 = .ok (.iload_n 2, 1) := by decide +kernel
theorem dX0_bestDrift_26 : decode cX0_bestDrift 26 = .ok (.if_icmp .gt 92, 3) := by decide +kernel
theorem dX0_bestDrift_29 : decode cX0_bestDrift 29 = .ok (.aload_n 0, 1) := by decide +kernel
theorem dX0_bestDrift_30 : decode cX0_bestDrift 30 = .ok (.iload 8, 2) := by decide +kernel
theorem dX0_bestDrift_32 : decode cX0_bestDrift 32 = .ok (.iload 9, 2) := by decide +kernel
theorem dX0_bestDrift_34 : decode cX0_bestDrift 34 = .ok (.aload_n 1, 1) := by decide +kernel
theorem dX0_bestDrift_35 : decode cX0_bestDrift 35 = .ok (.invokevirtual 124, 3) := by decide +kernel
theorem dX0_bestDrift_38 : decode cX0_bestDrift 38 = .ok (.iload_n 3, 1) := by decide +kernel
theorem dX0_bestDrift_39 : decode cX0_bestDrift 39 = .ok (.bipush (-9), 2) := by decide +kernel
theorem dX0_bestDrift_41 : decode cX0_bestDrift 41 = .ok (.if_icmp .eq 23, 3) := by decide +kernel
theorem dX0_bestDrift_44 : decode cX0_bestDrift 44 = .ok (.aload_n 0, 1) := by decide +kernel
theorem dX0_bestDrift_45 : decode cX0_bestDrift 45 = .ok (.getfield 31, 3) := by decide +kernel
theorem dX0_bestDrift_48 : decode cX0_bestDrift 48 = .ok (.i2l, 1) := by decide +kernel
theorem dX0_bestDrift_49 : decode cX0_bestDrift 49 = .ok (.lload 6, 2) := by decide +kernel
theorem dX0_bestDrift_51 : decode cX0_bestDrift 51 = .ok (.lmul, 1) := by decide +kernel
theorem dX0_bestDrift_52 : decode cX0_bestDrift 52 = .ok (.lload 4, 2) := by decide +kernel
theorem dX0_bestDrift_54 : decode cX0_bestDrift 54 = .ok (.aload_n 0, 1) := by decide +kernel
theorem dX0_bestDrift_55 : decode cX0_bestDrift 55 = .ok (.getfield 28, 3) := by decide +kernel
theorem dX0_bestDrift_58 : decode cX0_bestDrift 58 = .ok (.i2l, 1) := by decide +kernel
theorem dX0_bestDrift_59 : decode cX0_bestDrift 59 = .ok (.lmul, 1) := by decide +kernel
theorem dX0_bestDrift_60 : decode cX0_bestDrift 60 = .ok (.lcmp, 1) := by decide +kernel
theorem dX0_bestDrift_61 : decode cX0_bestDrift 61 = .ok (.ifCond .ge 7, 3) := by decide +kernel
theorem dX0_bestDrift_64 : decode cX0_bestDrift 64 = .ok (.iconst 1, 1) := by decide +kernel
theorem dX0_bestDrift_65 : decode cX0_bestDrift 65 = .ok (.goto 4, 3) := by decide +kernel
theorem dX0_bestDrift_68 : decode cX0_bestDrift 68 = .ok (.iconst 0, 1) := by decide +kernel
theorem dX0_bestDrift_69 : decode cX0_bestDrift 69 = .ok (.istore 10, 2) := by decide +kernel
theorem dX0_bestDrift_71 : decode cX0_bestDrift 71 = .ok (.aload_n 0, 1) := by decide +kernel
theorem dX0_bestDrift_72 : decode cX0_bestDrift 72 = .ok (.getfield 28, 3) := by decide +kernel
theorem dX0_bestDrift_75 : decode cX0_bestDrift 75 = .ok (.ifCond .le 37, 3) := by decide +kernel
theorem dX0_bestDrift_78 : decode cX0_bestDrift 78 = .ok (.iload 10, 2) := by decide +kernel
theorem dX0_bestDrift_80 : decode cX0_bestDrift 80 = .ok (.ifCond .eq 32, 3) := by decide +kernel
theorem dX0_bestDrift_83 : decode cX0_bestDrift 83 = .ok (.bipush 100, 2) := by decide +kernel
theorem dX0_bestDrift_85 : decode cX0_bestDrift 85 = .ok (.iload 8, 2) := by decide +kernel
theorem dX0_bestDrift_87 : decode cX0_bestDrift 87 = .ok (.bipush 11, 2) := by decide +kernel
theorem dX0_bestDrift_89 : decode cX0_bestDrift 89 = .ok (.iadd, 1) := by decide +kernel
theorem dX0_bestDrift_90 : decode cX0_bestDrift 90 = .ok (.imul, 1) := by decide +kernel
theorem dX0_bestDrift_91 : decode cX0_bestDrift 91 = .ok (.iload 9, 2) := by decide +kernel
theorem dX0_bestDrift_93 : decode cX0_bestDrift 93 = .ok (.iadd, 1) := by decide +kernel
theorem dX0_bestDrift_94 : decode cX0_bestDrift 94 = .ok (.bipush 11, 2) := by decide +kernel
theorem dX0_bestDrift_96 : decode cX0_bestDrift 96 = .ok (.iadd, 1) := by decide +kernel
theorem dX0_bestDrift_97 : decode cX0_bestDrift 97 = .ok (.istore_n 3, 1) := by decide +kernel
theorem dX0_bestDrift_98 : decode cX0_bestDrift 98 = .ok (.aload_n 0, 1) := by decide +kernel
theorem dX0_bestDrift_99 : decode cX0_bestDrift 99 = .ok (.getfield 31, 3) := by decide +kernel
theorem dX0_bestDrift_102 : decode cX0_bestDrift 102 = .ok (.i2l, 1) := by decide +kernel
theorem dX0_bestDrift_103 : decode cX0_bestDrift 103 = .ok (.lstore 4, 2) := by decide +kernel
theorem dX0_bestDrift_105 : decode cX0_bestDrift 105 = .ok (.aload_n 0, 1) := by decide +kernel
theorem dX0_bestDrift_106 : decode cX0_bestDrift 106 = .ok (.getfield 28, 3) := by decide +kernel
theorem dX0_bestDrift_109 : decode cX0_bestDrift 109 = .ok (.i2l, 1) := by decide +kernel
theorem dX0_bestDrift_110 : decode cX0_bestDrift 110 = .ok (.lstore 6, 2) := by decide +kernel
theorem dX0_bestDrift_112 : decode cX0_bestDrift 112 = .ok (.iinc 9 1, 3) := by decide +kernel
theorem dX0_bestDrift_115 : decode cX0_bestDrift 115 = .ok (.goto (-92), 3) := by decide +kernel
theorem dX0_bestDrift_118 : decode cX0_bestDrift 118 = .ok (.iinc 8 1, 3) := by decide +kernel
theorem dX0_bestDrift_121 : decode cX0_bestDrift 121 = .ok (.goto (-108), 3) := by decide +kernel
theorem dX0_bestDrift_124 : decode cX0_bestDrift 124 = .ok (.iload_n 3, 1) := by decide +kernel
theorem dX0_bestDrift_125 : decode cX0_bestDrift 125 = .ok (.ireturn, 1) := by decide +kernel
theorem dX1_init_0 : decode cX1_init 0 = .ok (.aload_n 0, 1) := by decide +kernel
theorem dX1_init_1 : decode cX1_init 1 = .ok (.invokespecial 3, 3) := by decide +kernel
theorem dX1_init_4 : decode cX1_init 4 = .ok (.aload_n 0, 1) := by decide +kernel
theorem dX1_init_5 : decode cX1_init 5 = .ok (.new 9, 3) := by decide +kernel
theorem dX1_init_8 : decode cX1_init 8 = .ok (.dup, 1) := by decide +kernel
theorem dX1_init_9 : decode cX1_init 9 = .ok (.invokespecial 11, 3) := by decide +kernel
theorem dX1_init_12 : decode cX1_init 12 = .ok (.putfield 12, 3) := by decide +kernel
theorem dX1_init_15 : decode cX1_init 15 = .ok (.aload_n 0, 1) := by decide +kernel
theorem dX1_init_16 : decode cX1_init 16 = .ok (.new 9, 3) := by decide +kernel
theorem dX1_init_19 : decode cX1_init 19 = .ok (.dup, 1) := by decide +kernel
theorem dX1_init_20 : decode cX1_init 20 = .ok (.invokespecial 11, 3) := by decide +kernel
theorem dX1_init_23 : decode cX1_init 23 = .ok (.putfield 18, 3) := by decide +kernel
theorem dX1_init_26 : decode cX1_init 26 = .ok (.aload_n 0, 1) := by decide +kernel
theorem dX1_init_27 : decode cX1_init 27 = .ok (.iconst 0, 1) := by decide +kernel
theorem dX1_init_28 : decode cX1_init 28 = .ok (.putfield 21, 3) := by decide +kernel
theorem dX1_init_31 : decode cX1_init 31 = .ok (.aload_n 0, 1) := by decide +kernel
theorem dX1_init_32 : decode cX1_init 32 = .ok (.bipush 99, 2) := by decide +kernel
theorem dX1_init_34 : decode cX1_init 34 = .ok (.putfield 25, 3) := by decide +kernel
theorem dX1_init_37 : decode cX1_init 37 = .ok (.aload_n 0, 1) := by decide +kernel
theorem dX1_init_38 : decode cX1_init 38 = .ok (.bipush 12, 2) := by decide +kernel
theorem dX1_init_40 : decode cX1_init 40 = .ok (.newarray .int, 2) := by decide +kernel
theorem dX1_init_42 : decode cX1_init 42 = .ok (.putfield 28, 3) := by decide +kernel
theorem dX1_init_45 : decode cX1_init 45 = .ok (.aload_n 0, 1) := by decide +kernel
theorem dX1_init_46 : decode cX1_init 46 = .ok (.bipush 12, 2) := by decide +kernel
theorem dX1_init_48 : decode cX1_init 48 = .ok (.newarray .int, 2) := by decide +kernel
theorem dX1_init_50 : decode cX1_init 50 = .ok (.putfield 32, 3) := by decide +kernel
theorem dX1_init_53 : decode cX1_init 53 = .ok (.aload_n 0, 1) := by decide +kernel
theorem dX1_init_54 : decode cX1_init 54 = .ok (.bipush 12, 2) := by decide +kernel
theorem dX1_init_56 : decode cX1_init 56 = .ok (.newarray .int, 2) := by decide +kernel
theorem dX1_init_58 : decode cX1_init 58 = .ok (.putfield 35, 3) := by decide +kernel
theorem dX1_init_61 : decode cX1_init 61 = .ok (.aload_n 0, 1) := by decide +kernel
theorem dX1_init_62 : decode cX1_init 62 = .ok (.iconst 0, 1) := by decide +kernel
theorem dX1_init_63 : decode cX1_init 63 = .ok (.putfield 38, 3) := by decide +kernel
theorem dX1_init_66 : decode cX1_init 66 = .ok (.aload_n 0, 1) := by decide +kernel
theorem dX1_init_67 : decode cX1_init 67 = .ok (.iconst 0, 1) := by decide +kernel
theorem dX1_init_68 : decode cX1_init 68 = .ok (.putfield 41, 3) := by decide +kernel
theorem dX1_init_71 : decode cX1_init 71 = .ok (.return_, 1) := by decide +kernel
theorem dX1_countWiresOf_0 : decode cX1_countWiresOf 0 = .ok (.iconst 0, 1) := by decide +kernel
theorem dX1_countWiresOf_1 : decode cX1_countWiresOf 1 = .ok (.istore_n 2, 1) := by decide +kernel
theorem dX1_countWiresOf_2 : decode cX1_countWiresOf 2 = .ok (.iconst 0, 1) := by decide +kernel
theorem dX1_countWiresOf_3 : decode cX1_countWiresOf 3 = .ok (.istore_n 3, 1) := by decide +kernel
theorem dX1_countWiresOf_4 : decode cX1_countWiresOf 4 = .ok (.iload_n 3, 1) := by decide +kernel
theorem dX1_countWiresOf_5 : decode cX1_countWiresOf 5 = .ok (.aload_n 0, 1) := by decide +kernel
theorem dX1_countWiresOf_6 : decode cX1_countWiresOf 6 = .ok (.getfield 18, 3) := by decide +kernel
theorem dX1_countWiresOf_9 : decode cX1_countWiresOf 9 = .ok (.invokevirtual 44, 3) := by decide +kernel
theorem dX1_countWiresOf_12 : decode cX1_countWiresOf 12 = .ok (.if_icmp .ge 30, 3) := by decide +kernel
theorem dX1_countWiresOf_15 : decode cX1_countWiresOf 15 = .ok (.aload_n 0, 1) := by decide +kernel
theorem dX1_countWiresOf_16 : decode cX1_countWiresOf 16 = .ok (.getfield 18, 3) := by decide +kernel
theorem dX1_countWiresOf_19 : decode cX1_countWiresOf 19 = .ok (.iload_n 3, 1) := by decide +kernel
theorem dX1_countWiresOf_20 : decode cX1_countWiresOf 20 = .ok (.invokevirtual 48, 3) := by decide +kernel
theorem dX1_countWiresOf_23 : decode cX1_countWiresOf 23 = .ok (.checkcast 52, 3) := by decide +kernel
theorem dX1_countWiresOf_26 : decode cX1_countWiresOf 26 = .ok (.getfield 54, 3) := by decide +kernel
theorem dX1_countWiresOf_29 : decode cX1_countWiresOf 29 = .ok (.iload_n 1, 1) := by decide +kernel
theorem dX1_countWiresOf_30 : decode cX1_countWiresOf 30 = .ok (.if_icmp .ne 6, 3) := by decide +kernel
theorem dX1_countWiresOf_33 : decode cX1_countWiresOf 33 = .ok (.iinc 2 1, 3) := by decide +kernel
theorem dX1_countWiresOf_36 : decode cX1_countWiresOf 36 = .ok (.iinc 3 1, 3) := by decide +kernel
theorem dX1_countWiresOf_39 : decode cX1_countWiresOf 39 = .ok (.goto (-35), 3) := by decide +kernel
theorem dX1_countWiresOf_42 : decode cX1_countWiresOf 42 = .ok (.iload_n 2, 1) := by decide +kernel
theorem dX1_countWiresOf_43 : decode cX1_countWiresOf 43 = .ok (.ireturn, 1) := by decide +kernel
theorem dX1_look_0 : decode cX1_look 0 = .ok (.aload_n 0, 1) := by decide +kernel
theorem dX1_look_1 : decode cX1_look 1 = .ok (.iconst 0, 1) := by decide +kernel
theorem dX1_look_2 : decode cX1_look 2 = .ok (.putfield 38, 3) := by decide +kernel
theorem dX1_look_5 : decode cX1_look 5 = .ok (.aload_n 0, 1) := by decide +kernel
theorem dX1_look_6 : decode cX1_look 6 = .ok (.iconst 0, 1) := by decide +kernel
theorem dX1_look_7 : decode cX1_look 7 = .ok (.putfield 41, 3) := by decide +kernel
theorem dX1_look_10 : decode cX1_look 10 = .ok (.iconst 0, 1) := by decide +kernel
theorem dX1_look_11 : decode cX1_look 11 = .ok (.istore_n 1, 1) := by decide +kernel
theorem dX1_look_12 : decode cX1_look 12 = .ok (.iload_n 1, 1) := by decide +kernel
theorem dX1_look_13 : decode cX1_look 13 = .ok (.aload_n 0, 1) := by decide +kernel
theorem dX1_look_14 : decode cX1_look 14 = .ok (.getfield 12, 3) := by decide +kernel
theorem dX1_look_17 : decode cX1_look 17 = .ok (.invokevirtual 44, 3) := by decide +kernel
theorem dX1_look_20 : decode cX1_look 20 = .ok (.if_icmp .ge 138, 3) := by decide +kernel
theorem dX1_look_23 : decode cX1_look 23 = .ok (.aload_n 0, 1) := by decide +kernel
theorem dX1_look_24 : decode cX1_look 24 = .ok (.getfield 28, 3) := by decide +kernel
theorem dX1_look_27 : decode cX1_look 27 = .ok (.iload_n 1, 1) := by decide +kernel
theorem dX1_look_28 : decode cX1_look 28 = .ok (.aload_n 0, 1) := by decide +kernel
theorem dX1_look_29 : decode cX1_look 29 = .ok (.getfield 12, 3) := by decide +kernel
theorem dX1_look_32 : decode cX1_look 32 = .ok (.iload_n 1, 1) := by decide +kernel
theorem dX1_look_33 : decode cX1_look 33 = .ok (.invokevirtual 48, 3) := by decide +kernel
theorem dX1_look_36 : decode cX1_look 36 = .ok (.checkcast 57, 3) := by decide +kernel
theorem dX1_look_39 : decode cX1_look 39 = .ok (.aload_n 0, 1) := by decide +kernel
theorem dX1_look_40 : decode cX1_look 40 = .ok (.getfield 21, 3) := by decide +kernel
theorem dX1_look_43 : decode cX1_look 43 = .ok (.invokevirtual 59, 3) := by decide +kernel
theorem dX1_look_46 : decode cX1_look 46 = .ok (.iastore, 1) := by decide +kernel
theorem dX1_look_47 : decode cX1_look 47 = .ok (.aload_n 0, 1) := by decide +kernel
theorem dX1_look_48 : decode cX1_look 48 = .ok (.getfield 32, 3) := by decide +kernel
theorem dX1_look_51 : decode cX1_look 51 = .ok (.iload_n 1, 1) := by decide +kernel
theorem dX1_look_52 : decode cX1_look 52 = .ok (.aload_n 0, 1) := by decide +kernel
theorem dX1_look_53 : decode cX1_look 53 = .ok (.getfield 28, 3) := by decide +kernel
theorem dX1_look_56 : decode cX1_look 56 = .ok (.iload_n 1, 1) := by decide +kernel
theorem dX1_look_57 : decode cX1_look 57 = .ok (.iaload, 1) := by decide +kernel
theorem dX1_look_58 : decode cX1_look 58 = .ok (.bipush (-9), 2) := by decide +kernel
theorem dX1_look_60 : decode cX1_look 60 = .ok (.if_icmp .ne 8, 3) := by decide +kernel
theorem dX1_look_63 : decode cX1_look 63 = .ok (.bipush (-9), 2) := by decide +kernel
theorem dX1_look_65 : decode cX1_look 65 = .ok (.goto 8, 3) := by decide +kernel
theorem dX1_look_68 : decode cX1_look 68 = .ok (.aload_n 0, 1) := by decide +kernel
theorem dX1_look_69 : decode cX1_look 69 = .ok (.iload_n 1, 1) := by decide +kernel
theorem dX1_look_70 : decode cX1_look 70 = .ok (.invokevirtual 63, 3) := by decide +kernel
theorem dX1_look_73 : decode cX1_look 73 = .ok (.iastore, 1) := by decide +kernel
theorem dX1_look_74 : decode cX1_look 74 = .ok (.aload_n 0, 1) := by decide +kernel
theorem dX1_look_75 : decode cX1_look 75 = .ok (.getfield 32, 3) := by decide +kernel
theorem dX1_look_78 : decode cX1_look 78 = .ok (.iload_n 1, 1) := by decide +kernel
theorem dX1_look_79 : decode cX1_look 79 = .ok (.iaload, 1) := by decide +kernel
theorem dX1_look_80 : decode cX1_look 80 = .ok (.bipush (-9), 2) := by decide +kernel
theorem dX1_look_82 : decode cX1_look 82 = .ok (.if_icmp .eq 70, 3) := by decide +kernel
theorem dX1_look_85 : decode cX1_look 85 = .ok (.aload_n 0, 1) := by decide +kernel
theorem dX1_look_86 : decode cX1_look 86 = .ok (.dup, 1) := by decide +kernel
theorem dX1_look_87 : decode cX1_look 87 = .ok (.getfield 38, 3) := by decide +kernel
theorem dX1_look_90 : decode cX1_look 90 = .ok (.iconst 1, 1) := by decide +kernel
theorem dX1_look_91 : decode cX1_look 91 = .ok (.iload_n 1, 1) := by decide +kernel
theorem dX1_look_92 : decode cX1_look 92 = .ok (.ishl, 1) := by decide +kernel
theorem dX1_look_93 : decode cX1_look 93 = .ok (.ior, 1) := by decide +kernel
theorem dX1_look_94 : decode cX1_look 94 = .ok (.putfield 38, 3) := by decide +kernel
theorem dX1_look_97 : decode cX1_look 97 = .ok (.aload_n 0, 1) := by decide +kernel
theorem dX1_look_98 : decode cX1_look 98 = .ok (.getfield 18, 3) := by decide +kernel
theorem dX1_look_101 : decode cX1_look 101 = .ok (.aload_n 0, 1) := by decide +kernel
theorem dX1_look_102 : decode cX1_look 102 = .ok (.getfield 32, 3) := by decide +kernel
theorem dX1_look_105 : decode cX1_look 105 = .ok (.iload_n 1, 1) := by decide +kernel
theorem dX1_look_106 : decode cX1_look 106 = .ok (.iaload, 1) := by decide +kernel
theorem dX1_look_107 : decode cX1_look 107 = .ok (.invokevirtual 48, 3) := by decide +kernel
theorem dX1_look_110 : decode cX1_look 110 = .ok (.checkcast 52, 3) := by decide +kernel
theorem dX1_look_113 : decode cX1_look 113 = .ok (.astore_n 2, 1) := by decide +kernel
theorem dX1_look_114 : decode cX1_look 114 = .ok (.aload_n 2, 1) := by decide +kernel
theorem dX1_look_115 : decode cX1_look 115 = .ok (.getfield 66, 3) := by decide +kernel
theorem dX1_look_118 : decode cX1_look 118 = .ok (.iconst 1, 1) := by decide +kernel
theorem dX1_look_119 : decode cX1_look 119 = .ok (.iaload, 1) := by decide +kernel
theorem dX1_look_120 : decode cX1_look 120 = .ok (.iconst 1, 1) := by decide +kernel
theorem dX1_look_121 : decode cX1_look 121 = .ok (.if_icmp .ne 31, 3) := by decide +kernel
theorem dX1_look_124 : decode cX1_look 124 = .ok (.aload_n 0, 1) := by decide +kernel
theorem dX1_look_125 : decode cX1_look 125 = .ok (.dup, 1) := by decide +kernel
theorem dX1_look_126 : decode cX1_look 126 = .ok (.getfield 41, 3) := by decide +kernel
theorem dX1_look_129 : decode cX1_look 129 = .ok (.iconst 1, 1) := by decide +kernel
theorem dX1_look_130 : decode cX1_look 130 = .ok (.iload_n 1, 1) := by decide +kernel
theorem dX1_look_131 : decode cX1_look 131 = .ok (.ishl, 1) := by decide +kernel
theorem dX1_look_132 : decode cX1_look 132 = .ok (.ior, 1) := by decide +kernel
theorem dX1_look_133 : decode cX1_look 133 = .ok (.putfield 41, 3) := by decide +kernel
theorem dX1_look_136 : decode cX1_look 136 = .ok (.aload_n 0, 1) := by decide +kernel
theorem dX1_look_137 : decode cX1_look 137 = .ok (.getfield 35, 3) := by decide +kernel
theorem dX1_look_140 : decode cX1_look 140 = .ok (.iload_n 1, 1) := by decide +kernel
theorem dX1_look_141 : decode cX1_look 141 = .ok (.aload_n 2, 1) := by decide +kernel
theorem dX1_look_142 : decode cX1_look 142 = .ok (.aload_n 2, 1) := by decide +kernel
theorem dX1_look_143 : decode cX1_look 143 = .ok (.iconst 1, 1) := by decide +kernel
theorem dX1_look_144 : decode cX1_look 144 = .ok (.iconst 0, 1) := by decide +kernel
theorem dX1_look_145 : decode cX1_look 145 = .ok (.invokevirtual 69, 3) := by decide +kernel
theorem dX1_look_148 : decode cX1_look 148 = .ok (.invokevirtual 73, 3) := by decide +kernel
theorem dX1_look_151 : decode cX1_look 151 = .ok (.iastore, 1) := by decide +kernel
theorem dX1_look_152 : decode cX1_look 152 = .ok (.iinc 1 1, 3) := by decide +kernel
theorem dX1_look_155 : decode cX1_look 155 = .ok (.goto (-143), 3) := by decide +kernel
theorem dX1_look_158 : decode cX1_look 158 = .ok (.return_, 1) := by decide +kernel
theorem dX1_latestReadable_0 : decode cX1_latestReadable 0 = .ok (.bipush (-9), 2) := by decide +kernel
theorem dX1_latestReadable_2 : decode cX1_latestReadable 2 = .ok (.istore_n 2, 1) := by decide +kernel
theorem dX1_latestReadable_3 : decode cX1_latestReadable 3 = .ok (.iconst 0, 1) := by decide +kernel
theorem dX1_latestReadable_4 : decode cX1_latestReadable 4 = .ok (.istore_n 3, 1) := by decide +kernel
theorem dX1_latestReadable_5 : decode cX1_latestReadable 5 = .ok (.iconst 0, 1) := by decide +kernel
theorem dX1_latestReadable_6 : decode cX1_latestReadable 6 = .ok (.istore 4, 2) := by decide +kernel
theorem dX1_latestReadable_8 : decode cX1_latestReadable 8 = .ok (.iconst 0, 1) := by decide +kernel
theorem dX1_latestReadable_9 : decode cX1_latestReadable 9 = .ok (.istore 5, 2) := by decide +kernel
theorem dX1_latestReadable_11 : decode cX1_latestReadable 11 = .ok (.iload 5, 2) := by decide +kernel
theorem dX1_latestReadable_13 : decode cX1_latestReadable 13 = .ok (.aload_n 0, 1) := by decide +kernel
theorem dX1_latestReadable_14 : decode cX1_latestReadable 14 = .ok (.getfield 18, 3) := by decide +kernel
theorem dX1_latestReadable_17 : decode cX1_latestReadable 17 = .ok (.invokevirtual 44, 3) := by decide +kernel
theorem dX1_latestReadable_20 : decode cX1_latestReadable 20 = .ok (.if_icmp .ge 109, 3) := by decide +kernel
theorem dX1_latestReadable_23 : decode cX1_latestReadable 23 = .ok (.aload_n 0, 1) := by decide +kernel
theorem dX1_latestReadable_24 : decode cX1_latestReadable 24 = .ok (.getfield 18, 3) := by decide +kernel
theorem dX1_latestReadable_27 : decode cX1_latestReadable 27 = .ok (.iload 5, 2) := by decide +kernel
theorem dX1_latestReadable_29 : decode cX1_latestReadable 29 = .ok (.invokevirtual 48, 3) := by decide +kernel
theorem dX1_latestReadable_32 : decode cX1_latestReadable 32 = .ok (.checkcast 52, 3) := by decide +kernel
theorem dX1_latestReadable_35 : decode cX1_latestReadable 35 = .ok (.astore 6, 2) := by decide +kernel
theorem dX1_latestReadable_37 : decode cX1_latestReadable 37 = .ok (.aload 6, 2) := by decide +kernel
theorem dX1_latestReadable_39 : decode cX1_latestReadable 39 = .ok (.getfield 54, 3) := by decide +kernel
theorem dX1_latestReadable_42 : decode cX1_latestReadable 42 = .ok (.iload_n 1, 1) := by decide +kernel
theorem dX1_latestReadable_43 : decode cX1_latestReadable 43 = .ok (.if_icmp .ne 31, 3) := by decide +kernel
theorem dX1_latestReadable_46 : decode cX1_latestReadable 46 = .ok (.aload 6, 2) := by decide +kernel
theorem dX1_latestReadable_48 : decode cX1_latestReadable 48 = .ok (.getfield 76, 3) := by decide +kernel
theorem dX1_latestReadable_51 : decode cX1_latestReadable 51 = .ok (.aload_n 0, 1) := by decide +kernel
theorem dX1_latestReadable_52 : decode cX1_latestReadable 52 = .ok (.getfield 21, 3) := by decide +kernel
theorem dX1_latestReadable_55 : decode cX1_latestReadable 55 = .ok (.if_icmp .ne 19, 3) := by decide +kernel
theorem dX1_latestReadable_58 : decode cX1_latestReadable 58 = .ok (.aload 6, 2) := by decide +kernel
theorem dX1_latestReadable_60 : decode cX1_latestReadable 60 = .ok (.getfield 77, 3) := by decide +kernel
theorem dX1_latestReadable_63 : decode cX1_latestReadable 63 = .ok (.aload_n 0, 1) := by decide +kernel
theorem dX1_latestReadable_64 : decode cX1_latestReadable 64 = .ok (.getfield 25, 3) := by decide +kernel
theorem dX1_latestReadable_67 : decode cX1_latestReadable 67 = .ok (.if_icmp .gt 7, 3) := by decide +kernel
theorem dX1_latestReadable_70 : decode cX1_latestReadable 70 = .ok (.iconst 1, 1) := by decide +kernel
theorem dX1_latestReadable_71 : decode cX1_latestReadable 71 = .ok (.goto 4, 3) := by decide +kernel
theorem dX1_latestReadable_74 : decode cX1_latestReadable 74 = .ok (.iconst 0, 1) := by decide +kernel
theorem dX1_latestReadable_75 : decode cX1_latestReadable 75 = .ok (.istore 7, 2) := by decide +kernel
theorem dX1_latestReadable_77 : decode cX1_latestReadable 77 = .ok (.iload 7, 2) := by decide +kernel
theorem dX1_latestReadable_79 : decode cX1_latestReadable 79 = .ok (.ifCond .eq 44, 3) := by decide +kernel
theorem dX1_latestReadable_82 : decode cX1_latestReadable 82 = .ok (.iload_n 2, 1) := by decide +kernel
theorem dX1_latestReadable_83 : decode cX1_latestReadable 83 = .ok (.bipush (-9), 2) := by decide +kernel
theorem dX1_latestReadable_85 : decode cX1_latestReadable 85 = .ok (.if_icmp .eq 12, 3) := by decide +kernel
theorem dX1_latestReadable_88 : decode cX1_latestReadable 88 = .ok (.aload 6, 2) := by decide +kernel
theorem dX1_latestReadable_90 : decode cX1_latestReadable 90 = .ok (.getfield 77, 3) := by decide +kernel
theorem dX1_latestReadable_93 : decode cX1_latestReadable 93 = .ok (.iload_n 3, 1) := by decide +kernel
theorem dX1_latestReadable_94 : decode cX1_latestReadable 94 = .ok (.if_icmp .lt 29, 3) := by decide +kernel
theorem dX1_latestReadable_97 : decode cX1_latestReadable 97 = .ok (.iload 5, 2) := by decide +kernel
theorem dX1_latestReadable_99 : decode cX1_latestReadable 99 = .ok (.istore_n 2, 1) := by decide +kernel
theorem dX1_latestReadable_100 : decode cX1_latestReadable 100 = .ok (.aload 6, 2) := by decide +kernel
theorem dX1_latestReadable_102 : decode cX1_latestReadable 102 = .ok (.getfield 77, 3) := by decide +kernel
theorem dX1_latestReadable_105 : decode cX1_latestReadable 105 = .ok (.istore_n 3, 1) := by decide +kernel
theorem dX1_latestReadable_106 : decode cX1_latestReadable 106 = .ok (.aload 6, 2) := by decide +kernel
theorem dX1_latestReadable_108 : decode cX1_latestReadable 108 = .ok (.getfield 66, 3) := by decide +kernel
theorem dX1_latestReadable_111 : decode cX1_latestReadable 111 = .ok (.iconst 1, 1) := by decide +kernel
theorem dX1_latestReadable_112 : decode cX1_latestReadable 112 = .ok (.iaload, 1) := by decide +kernel
theorem dX1_latestReadable_113 : decode cX1_latestReadable 113 = .ok (.ifCond .le 7, 3) := by decide +kernel
theorem dX1_latestReadable_116 : decode cX1_latestReadable 116 = .ok (.iconst 1, 1) := by decide +kernel
theorem dX1_latestReadable_117 : decode cX1_latestReadable 117 = .ok (.goto 4, 3) := by decide +kernel
theorem dX1_latestReadable_120 : decode cX1_latestReadable 120 = .ok (.iconst 0, 1) := by decide +kernel
theorem dX1_latestReadable_121 : decode cX1_latestReadable 121 = .ok (.istore 4, 2) := by decide +kernel
theorem dX1_latestReadable_123 : decode cX1_latestReadable 123 = .ok (.iinc 5 1, 3) := by decide +kernel
theorem dX1_latestReadable_126 : decode cX1_latestReadable 126 = .ok (.goto (-115), 3) := by decide +kernel
theorem dX1_latestReadable_129 : decode cX1_latestReadable 129 = .ok (.iload 4, 2) := by decide +kernel
theorem dX1_latestReadable_131 : decode cX1_latestReadable 131 = .ok (.ifCond .eq 7, 3) := by decide +kernel
theorem dX1_latestReadable_134 : decode cX1_latestReadable 134 = .ok (.iload_n 2, 1) := by decide +kernel
theorem dX1_latestReadable_135 : decode cX1_latestReadable 135 = .ok (.goto 5, 3) := by decide +kernel
theorem dX1_latestReadable_138 : decode cX1_latestReadable 138 = .ok (.bipush (-9), 2) := by decide +kernel
theorem dX1_latestReadable_140 : decode cX1_latestReadable 140 = .ok (.ireturn, 1) := by decide +kernel
theorem dX1_nearestOf_0 : decode cX1_nearestOf 0 = .ok (.bipush (-9), 2) := by decide +kernel
theorem dX1_nearestOf_2 : decode cX1_nearestOf 2 = .ok (.istore_n 3, 1) := by decide +kernel
theorem dX1_nearestOf_3 : decode cX1_nearestOf 3 = .ok (.iconst 0, 1) := by decide +kernel
theorem dX1_nearestOf_4 : decode cX1_nearestOf 4 = .ok (.istore 4, 2) := by decide +kernel
theorem dX1_nearestOf_6 : decode cX1_nearestOf 6 = .ok (.iconst 0, 1) := by decide +kernel
theorem dX1_nearestOf_7 : decode cX1_nearestOf 7 = .ok (.istore 5, 2) := by decide +kernel
theorem dX1_nearestOf_9 : decode cX1_nearestOf 9 = .ok (.iload 5, 2) := by decide +kernel
theorem dX1_nearestOf_11 : decode cX1_nearestOf 11 = .ok (.aload_n 0, 1) := by decide +kernel
theorem dX1_nearestOf_12 : decode cX1_nearestOf 12 = .ok (.getfield 12, 3) := by decide +kernel
theorem dX1_nearestOf_15 : decode cX1_nearestOf 15 = .ok (.invokevirtual 44, 3) := by decide +kernel
theorem dX1_nearestOf_18 : decode cX1_nearestOf 18 = .ok (.if_icmp .ge 51, 3) := by decide +kernel
theorem dX1_nearestOf_21 : decode cX1_nearestOf 21 = .ok (.iload_n 1, 1) := by decide +kernel
theorem dX1_nearestOf_22 : decode cX1_nearestOf 22 = .ok (.iload 5, 2) := by decide +kernel
theorem dX1_nearestOf_24 : decode cX1_nearestOf 24 = .ok (.invokestatic 80, 3) := by decide +kernel
theorem dX1_nearestOf_27 : decode cX1_nearestOf 27 = .ok (.ifCond .eq 36, 3) := by decide +kernel
theorem dX1_nearestOf_30 : decode cX1_nearestOf 30 = .ok (.aload_n 0, 1) := by decide +kernel
theorem dX1_nearestOf_31 : decode cX1_nearestOf 31 = .ok (.getfield 28, 3) := by decide +kernel
theorem dX1_nearestOf_34 : decode cX1_nearestOf 34 = .ok (.iload 5, 2) := by decide +kernel
theorem dX1_nearestOf_36 : decode cX1_nearestOf 36 = .ok (.iaload, 1) := by decide +kernel
theorem dX1_nearestOf_37 : decode cX1_nearestOf 37 = .ok (.iload_n 2, 1) := by decide +kernel
theorem dX1_nearestOf_38 : decode cX1_nearestOf 38 = .ok (.invokestatic 84, 3) := by decide +kernel
theorem dX1_nearestOf_41 : decode cX1_nearestOf 41 = .ok (.istore 6, 2) := by decide +kernel
theorem dX1_nearestOf_43 : decode cX1_nearestOf 43 = .ok (.iload_n 3, 1) := by decide +kernel
theorem dX1_nearestOf_44 : decode cX1_nearestOf 44 = .ok (.bipush (-9), 2) := by decide +kernel
theorem dX1_nearestOf_46 : decode cX1_nearestOf 46 = .ok (.if_icmp .eq 10, 3) := by decide +kernel
theorem dX1_nearestOf_49 : decode cX1_nearestOf 49 = .ok (.iload 6, 2) := by decide +kernel
theorem dX1_nearestOf_51 : decode cX1_nearestOf 51 = .ok (.iload 4, 2) := by decide +kernel
theorem dX1_nearestOf_53 : decode cX1_nearestOf 53 = .ok (.if_icmp .ge 10, 3) := by decide +kernel
theorem dX1_nearestOf_56 : decode cX1_nearestOf 56 = .ok (.iload 5, 2) := by decide +kernel
theorem dX1_nearestOf_58 : decode cX1_nearestOf 58 = .ok (.istore_n 3, 1) := by decide +kernel
theorem dX1_nearestOf_59 : decode cX1_nearestOf 59 = .ok (.iload 6, 2) := by decide +kernel
theorem dX1_nearestOf_61 : decode cX1_nearestOf 61 = .ok (.istore 4, 2) := by decide +kernel
theorem dX1_nearestOf_63 : decode cX1_nearestOf 63 = .ok (.iinc 5 1, 3) := by decide +kernel
theorem dX1_nearestOf_66 : decode cX1_nearestOf 66 = .ok (.goto (-57), 3) := by decide +kernel
theorem dX1_nearestOf_69 : decode cX1_nearestOf 69 = .ok (.iload_n 3, 1) := by decide +kernel
theorem dX1_nearestOf_70 : decode cX1_nearestOf 70 = .ok (.ireturn, 1) := by decide +kernel
theorem dX1_guessFor_0 : decode cX1_guessFor 0 = .ok (.aload_n 0, 1) := by decide +kernel
theorem dX1_guessFor_1 : decode cX1_guessFor 1 = .ok (.getfield 41, 3) := by decide +kernel
theorem dX1_guessFor_4 : decode cX1_guessFor 4 = .ok (.iconst 1, 1) := by decide +kernel
theorem dX1_guessFor_5 : decode cX1_guessFor 5 = .ok (.aload_n 1, 1) := by decide +kernel
theorem dX1_guessFor_6 : decode cX1_guessFor 6 = .ok (.getfield 54, 3) := by decide +kernel
theorem dX1_guessFor_9 : decode cX1_guessFor 9 = .ok (.ishl, 1) := by decide +kernel
theorem dX1_guessFor_10 : decode cX1_guessFor 10 = .ok (.iconst (-1), 1) := by decide +kernel
theorem dX1_guessFor_11 : decode cX1_guessFor 11 = .ok (.ixor, 1) := by decide +kernel
theorem dX1_guessFor_12 : decode cX1_guessFor 12 = .ok (.iand, 1) := by decide +kernel
theorem dX1_guessFor_13 : decode cX1_guessFor 13 = .ok (.istore_n 2, 1) := by decide +kernel
theorem dX1_guessFor_14 : decode cX1_guessFor 14 = .ok (.iconst 0, 1) := by decide +kernel
theorem dX1_guessFor_15 : decode cX1_guessFor 15 = .ok (.istore_n 3, 1) := by decide +kernel
theorem dX1_guessFor_16 : decode cX1_guessFor 16 = .ok (.iconst 0, 1) := by decide +kernel
theorem dX1_guessFor_17 : decode cX1_guessFor 17 = .ok (.istore 4, 2) := by decide +kernel
theorem dX1_guessFor_19 : decode cX1_guessFor 19 = .ok (.iconst 0, 1) := by decide +kernel
theorem dX1_guessFor_20 : decode cX1_guessFor 20 = .ok (.istore 5, 2) := by decide +kernel
theorem dX1_guessFor_22 : decode cX1_guessFor 22 = .ok (.iload 5, 2) := by decide +kernel
theorem dX1_guessFor_24 : decode cX1_guessFor 24 = .ok (.iconst 3, 1) := by decide +kernel
theorem dX1_guessFor_25 : decode cX1_guessFor 25 = .ok (.if_icmp .ge 57, 3) := by decide +kernel
theorem dX1_guessFor_28 : decode cX1_guessFor 28 = .ok (.aload_n 0, 1) := by decide +kernel
theorem dX1_guessFor_29 : decode cX1_guessFor 29 = .ok (.iload_n 2, 1) := by decide +kernel
theorem dX1_guessFor_30 : decode cX1_guessFor 30 = .ok (.aload_n 0, 1) := by decide +kernel
theorem dX1_guessFor_31 : decode cX1_guessFor 31 = .ok (.getfield 28, 3) := by decide +kernel
theorem dX1_guessFor_34 : decode cX1_guessFor 34 = .ok (.aload_n 1, 1) := by decide +kernel
theorem dX1_guessFor_35 : decode cX1_guessFor 35 = .ok (.getfield 54, 3) := by decide +kernel
theorem dX1_guessFor_38 : decode cX1_guessFor 38 = .ok (.iaload, 1) := by decide +kernel
theorem dX1_guessFor_39 : decode cX1_guessFor 39 = .ok (.invokevirtual 87, 3) := by decide +kernel
theorem dX1_guessFor_42 : decode cX1_guessFor 42 = .ok (.istore 6, 2) := by decide +kernel
theorem dX1_guessFor_44 : decode cX1_guessFor 44 = .ok (.iload 6, 2) := by decide +kernel
theorem dX1_guessFor_46 : decode cX1_guessFor 46 = .ok (.bipush (-9), 2) := by decide +kernel
theorem dX1_guessFor_48 : decode cX1_guessFor 48 = .ok (.if_icmp .ne 6, 3) := by decide +kernel
theorem dX1_guessFor_51 : decode cX1_guessFor 51 = .ok (.goto 31, 3) := by decide +kernel
theorem dX1_guessFor_54 : decode cX1_guessFor 54 = .ok (.iload_n 2, 1) := by decide +kernel
theorem dX1_guessFor_55 : decode cX1_guessFor 55 = .ok (.iconst 1, 1) := by decide +kernel
theorem dX1_guessFor_56 : decode cX1_guessFor 56 = .ok (.iload 6, 2) := by decide +kernel
theorem dX1_guessFor_58 : decode cX1_guessFor 58 = .ok (.ishl, 1) := by decide +kernel
theorem dX1_guessFor_59 : decode cX1_guessFor 59 = .ok (.iconst (-1), 1) := by decide +kernel
theorem dX1_guessFor_60 : decode cX1_guessFor 60 = .ok (.ixor, 1) := by decide +kernel
theorem dX1_guessFor_61 : decode cX1_guessFor 61 = .ok (.iand, 1) := by decide +kernel
theorem dX1_guessFor_62 : decode cX1_guessFor 62 = .ok (.istore_n 2, 1) := by decide +kernel
theorem dX1_guessFor_63 : decode cX1_guessFor 63 = .ok (.iload_n 3, 1) := by decide +kernel
theorem dX1_guessFor_64 : decode cX1_guessFor 64 = .ok (.aload_n 0, 1) := by decide +kernel
theorem dX1_guessFor_65 : decode cX1_guessFor 65 = .ok (.getfield 35, 3) := by decide +kernel
theorem dX1_guessFor_68 : decode cX1_guessFor 68 = .ok (.iload 6, 2) := by decide +kernel
theorem dX1_guessFor_70 : decode cX1_guessFor 70 = .ok (.iaload, 1) := by decide +kernel
theorem dX1_guessFor_71 : decode cX1_guessFor 71 = .ok (.iadd, 1) := by decide +kernel
theorem dX1_guessFor_72 : decode cX1_guessFor 72 = .ok (.istore_n 3, 1) := by decide +kernel
theorem dX1_guessFor_73 : decode cX1_guessFor 73 = .ok (.iinc 4 1, 3) := by decide +kernel
theorem dX1_guessFor_76 : decode cX1_guessFor 76 = .ok (.iinc 5 1, 3) := by decide +kernel
theorem dX1_guessFor_79 : decode cX1_guessFor 79 = .ok (.goto (-57), 3) := by decide +kernel
theorem dX1_guessFor_82 : decode cX1_guessFor 82 = .ok (.iload 4, 2) := by decide +kernel
theorem dX1_guessFor_84 : decode cX1_guessFor 84 = .ok (.ifCond .ne 9, 3) := by decide +kernel
theorem dX1_guessFor_87 : decode cX1_guessFor 87 = .ok (.sipush 10000, 3) := by decide +kernel
theorem dX1_guessFor_90 : decode cX1_guessFor 90 = .ok (.goto 9, 3) := by decide +kernel
theorem dX1_guessFor_93 : decode cX1_guessFor 93 = .ok (.iload_n 3, 1) := by decide +kernel
theorem dX1_guessFor_94 : decode cX1_guessFor 94 = .ok (.iload 4, 2) := by decide +kernel
theorem dX1_guessFor_96 : decode cX1_guessFor 96 = .ok (.invokestatic 90, 3) := by decide +kernel
theorem dX1_guessFor_99 : decode cX1_guessFor 99 = .ok (.ireturn, 1) := by decide +kernel
theorem dX1_mendedPress_0 : decode cX1_mendedPress 0 = .ok (.aload_n 1, 1) := by decide +kernel
theorem dX1_mendedPress_1 : decode cX1_mendedPress 1 = .ok (.aload_n 0, 1) := by decide +kernel
theorem dX1_mendedPress_2 : decode cX1_mendedPress 2 = .ok (.aload_n 1, 1) := by decide +kernel
theorem dX1_mendedPress_3 : decode cX1_mendedPress 3 = .ok (.invokevirtual 95, 3) := by decide +kernel
theorem dX1_mendedPress_6 : decode cX1_mendedPress 6 = .ok (.invokevirtual 99, 3) := by decide +kernel
theorem dX1_mendedPress_9 : decode cX1_mendedPress 9 = .ok (.ireturn, 1) := by decide +kernel
theorem dX1_mendedLevel_0 : decode cX1_mendedLevel 0 = .ok (.aload_n 1, 1) := by decide +kernel
theorem dX1_mendedLevel_1 : decode cX1_mendedLevel 1 = .ok (.aload_n 1, 1) := by decide +kernel
theorem dX1_mendedLevel_2 : decode cX1_mendedLevel 2 = .ok (.aload_n 0, 1) := by decide +kernel
theorem dX1_mendedLevel_3 : decode cX1_mendedLevel 3 = .ok (.aload_n 1, 1) := by decide +kernel
theorem dX1_mendedLevel_4 : decode cX1_mendedLevel 4 = .ok (.invokevirtual 95, 3) := by decide +kernel
theorem dX1_mendedLevel_7 : decode cX1_mendedLevel 7 = .ok (.invokevirtual 99, 3) := by decide +kernel
theorem dX1_mendedLevel_10 : decode cX1_mendedLevel 10 = .ok (.invokevirtual 73, 3) := by decide +kernel
theorem dX1_mendedLevel_13 : decode cX1_mendedLevel 13 = .ok (.ireturn, 1) := by decide +kernel
theorem dX2_init_0 : decode cX2_init 0 = .ok (.aload_n 0, 1) := by decide +kernel
theorem dX2_init_1 : decode cX2_init 1 = .ok (.invokespecial 3, 3) := by decide +kernel
theorem dX2_init_4 : decode cX2_init 4 = .ok (.aload_n 0, 1) := by decide +kernel
theorem dX2_init_5 : decode cX2_init 5 = .ok (.iconst 0, 1) := by decide +kernel
theorem dX2_init_6 : decode cX2_init 6 = .ok (.putfield 9, 3) := by decide +kernel
theorem dX2_init_9 : decode cX2_init 9 = .ok (.aload_n 0, 1) := by decide +kernel
theorem dX2_init_10 : decode cX2_init 10 = .ok (.iconst 5, 1) := by decide +kernel
theorem dX2_init_11 : decode cX2_init 11 = .ok (.newarray .int, 2) := by decide +kernel
theorem dX2_init_13 : decode cX2_init 13 = .ok (.putfield 15, 3) := by decide +kernel
theorem dX2_init_16 : decode cX2_init 16 = .ok (.aload_n 0, 1) := by decide +kernel
theorem dX2_init_17 : decode cX2_init 17 = .ok (.iconst 5, 1) := by decide +kernel
theorem dX2_init_18 : decode cX2_init 18 = .ok (.newarray .int, 2) := by decide +kernel
theorem dX2_init_20 : decode cX2_init 20 = .ok (.putfield 19, 3) := by decide +kernel
theorem dX2_init_23 : decode cX2_init 23 = .ok (.aload_n 0, 1) := by decide +kernel
theorem dX2_init_24 : decode cX2_init 24 = .ok (.iconst 5, 1) := by decide +kernel
theorem dX2_init_25 : decode cX2_init 25 = .ok (.newarray .int, 2) := by decide +kernel
theorem dX2_init_27 : decode cX2_init 27 = .ok (.putfield 22, 3) := by decide +kernel
theorem dX2_init_30 : decode cX2_init 30 = .ok (.aload_n 0, 1) := by decide +kernel
theorem dX2_init_31 : decode cX2_init 31 = .ok (.iconst 0, 1) := by decide +kernel
theorem dX2_init_32 : decode cX2_init 32 = .ok (.putfield 25, 3) := by decide +kernel
theorem dX2_init_35 : decode cX2_init 35 = .ok (.aload_n 0, 1) := by decide +kernel
theorem dX2_init_36 : decode cX2_init 36 = .ok (.iconst 0, 1) := by decide +kernel
theorem dX2_init_37 : decode cX2_init 37 = .ok (.putfield 28, 3) := by decide +kernel
theorem dX2_init_40 : decode cX2_init 40 = .ok (.return_, 1) := by decide +kernel
theorem dX2_firstFaultOf_0 : decode cX2_firstFaultOf 0 = .ok (.iconst 0, 1) := by decide +kernel
theorem dX2_firstFaultOf_1 : decode cX2_firstFaultOf 1 = .ok (.istore 4, 2) := by decide +kernel
theorem dX2_firstFaultOf_3 : decode cX2_firstFaultOf 3 = .ok (.iload 4, 2) := by decide +kernel
theorem dX2_firstFaultOf_5 : decode cX2_firstFaultOf 5 = .ok (.iload_n 3, 1) := by decide +kernel
theorem dX2_firstFaultOf_6 : decode cX2_firstFaultOf 6 = .ok (.if_icmp .ge 25, 3) := by decide +kernel
theorem dX2_firstFaultOf_9 : decode cX2_firstFaultOf 9 = .ok (.aload_n 0, 1) := by decide +kernel
theorem dX2_firstFaultOf_10 : decode cX2_firstFaultOf 10 = .ok (.aload_n 1, 1) := by decide +kernel
theorem dX2_firstFaultOf_11 : decode cX2_firstFaultOf 11 = .ok (.iload_n 2, 1) := by decide +kernel
theorem dX2_firstFaultOf_12 : decode cX2_firstFaultOf 12 = .ok (.iload 4, 2) := by decide +kernel
theorem dX2_firstFaultOf_14 : decode cX2_firstFaultOf 14 = .ok (.iadd, 1) := by decide +kernel
theorem dX2_firstFaultOf_15 : decode cX2_firstFaultOf 15 = .ok (.iaload, 1) := by decide +kernel
theorem dX2_firstFaultOf_16 : decode cX2_firstFaultOf 16 = .ok (.invokevirtual 31, 3) := by decide +kernel
theorem dX2_firstFaultOf_19 : decode cX2_firstFaultOf 19 = .ok (.ifCond .ne 6, 3) := by decide +kernel
theorem dX2_firstFaultOf_22 : decode cX2_firstFaultOf 22 = .ok (.iload 4, 2) := by decide +kernel
theorem dX2_firstFaultOf_24 : decode cX2_firstFaultOf 24 = .ok (.ireturn, 1) := by decide +kernel
theorem dX2_firstFaultOf_25 : decode cX2_firstFaultOf 25 = .ok (.iinc 4 1, 3) := by decide +kernel
theorem dX2_firstFaultOf_28 : decode cX2_firstFaultOf 28 = .ok (.goto (-25), 3) := by decide +kernel
theorem dX2_firstFaultOf_31 : decode cX2_firstFaultOf 31 = .ok (.aload_n 0, 1) := by decide +kernel
theorem dX2_firstFaultOf_32 : decode cX2_firstFaultOf 32 = .ok (.getfield 25, 3) := by decide +kernel
theorem dX2_firstFaultOf_35 : decode cX2_firstFaultOf 35 = .ok (.iconst 3, 1) := by decide +kernel
theorem dX2_firstFaultOf_36 : decode cX2_firstFaultOf 36 = .ok (.if_icmp .ne 8, 3) := by decide +kernel
theorem dX2_firstFaultOf_39 : decode cX2_firstFaultOf 39 = .ok (.bipush (-9), 2) := by decide +kernel
theorem dX2_firstFaultOf_41 : decode cX2_firstFaultOf 41 = .ok (.goto 4, 3) := by decide +kernel
theorem dX2_firstFaultOf_44 : decode cX2_firstFaultOf 44 = .ok (.iload_n 3, 1) := by decide +kernel
theorem dX2_firstFaultOf_45 : decode cX2_firstFaultOf 45 = .ok (.ireturn, 1) := by decide +kernel
theorem dX2_takes_0 : decode cX2_takes 0 = .ok (.aload_n 0, 1) := by decide +kernel
theorem dX2_takes_1 : decode cX2_takes 1 = .ok (.getfield 25, 3) := by decide +kernel
theorem dX2_takes_4 : decode cX2_takes 4 = .ok (.lookupswitch 40 #[(0, 28), (1, 34)], 28) := by decide +kernel
theorem dX2_takes_32 : decode cX2_takes 32 = .ok (.aload_n 0, 1) := by decide +kernel
theorem dX2_takes_33 : decode cX2_takes 33 = .ok (.iload_n 1, 1) := by decide +kernel
theorem dX2_takes_34 : decode cX2_takes 34 = .ok (.invokevirtual 35, 3) := by decide +kernel
theorem dX2_takes_37 : decode cX2_takes 37 = .ok (.ireturn, 1) := by decide +kernel
theorem dX2_takes_38 : decode cX2_takes 38 = .ok (.aload_n 0, 1) := by decide +kernel
theorem dX2_takes_39 : decode cX2_takes 39 = .ok (.iload_n 1, 1) := by decide +kernel
theorem dX2_takes_40 : decode cX2_takes 40 = .ok (.invokevirtual 38, 3) := by decide +kernel
theorem dX2_takes_43 : decode cX2_takes 43 = .ok (.ireturn, 1) := by decide +kernel
theorem dX2_takes_44 : decode cX2_takes 44 = .ok (.iload_n 1, 1) := by decide +kernel
theorem dX2_takes_45 : decode cX2_takes 45 = .ok (.bipush 44, 2) := by decide +kernel
theorem dX2_takes_47 : decode cX2_takes 47 = .ok (.if_icmp .ne 10, 3) := by decide +kernel
theorem dX2_takes_50 : decode cX2_takes 50 = .ok (.aload_n 0, 1) := by decide +kernel
theorem dX2_takes_51 : decode cX2_takes 51 = .ok (.invokevirtual 41, 3) := by decide +kernel
theorem dX2_takes_54 : decode cX2_takes 54 = .ok (.goto 8, 3) := by decide +kernel
theorem dX2_takes_57 : decode cX2_takes 57 = .ok (.aload_n 0, 1) := by decide +kernel
theorem dX2_takes_58 : decode cX2_takes 58 = .ok (.iload_n 1, 1) := by decide +kernel
theorem dX2_takes_59 : decode cX2_takes 59 = .ok (.invokevirtual 45, 3) := by decide +kernel
theorem dX2_takes_62 : decode cX2_takes 62 = .ok (.ireturn, 1) := by decide +kernel
theorem dX2_takesRegion_0 : decode cX2_takesRegion 0 = .ok (.iload_n 1, 1) := by decide +kernel
theorem dX2_takesRegion_1 : decode cX2_takesRegion 1 = .ok (.bipush 110, 2) := by decide +kernel
theorem dX2_takesRegion_3 : decode cX2_takesRegion 3 = .ok (.if_icmp .eq 27, 3) := by decide +kernel
theorem dX2_takesRegion_6 : decode cX2_takesRegion 6 = .ok (.iload_n 1, 1) := by decide +kernel
theorem dX2_takesRegion_7 : decode cX2_takesRegion 7 = .ok (.bipush 115, 2) := by decide +kernel
theorem dX2_takesRegion_9 : decode cX2_takesRegion 9 = .ok (.if_icmp .eq 21, 3) := by decide +kernel
theorem dX2_takesRegion_12 : decode cX2_takesRegion 12 = .ok (.iload_n 1, 1) := by decide +kernel
theorem dX2_takesRegion_13 : decode cX2_takesRegion 13 = .ok (.bipush 119, 2) := by decide +kernel
theorem dX2_takesRegion_15 : decode cX2_takesRegion 15 = .ok (.if_icmp .eq 15, 3) := by decide +kernel
theorem dX2_takesRegion_18 : decode cX2_takesRegion 18 = .ok (.iload_n 1, 1) := by decide +kernel
theorem dX2_takesRegion_19 : decode cX2_takesRegion 19 = .ok (.bipush 101, 2) := by decide +kernel
theorem dX2_takesRegion_21 : decode cX2_takesRegion 21 = .ok (.if_icmp .eq 9, 3) := by decide +kernel
theorem dX2_takesRegion_24 : decode cX2_takesRegion 24 = .ok (.iload_n 1, 1) := by decide +kernel
theorem dX2_takesRegion_25 : decode cX2_takesRegion 25 = .ok (.bipush 109, 2) := by decide +kernel
theorem dX2_takesRegion_27 : decode cX2_takesRegion 27 = .ok (.if_icmp .ne 7, 3) := by decide +kernel
theorem dX2_takesRegion_30 : decode cX2_takesRegion 30 = .ok (.iconst 1, 1) := by decide +kernel
theorem dX2_takesRegion_31 : decode cX2_takesRegion 31 = .ok (.goto 4, 3) := by decide +kernel
theorem dX2_takesRegion_34 : decode cX2_takesRegion 34 = .ok (.iconst 0, 1) := by decide +kernel
theorem dX2_takesRegion_35 : decode cX2_takesRegion 35 = .ok (.istore_n 2, 1) := by decide +kernel
theorem dX2_takesRegion_36 : decode cX2_takesRegion 36 = .ok (.iload_n 2, 1) := by decide +kernel
theorem dX2_takesRegion_37 : decode cX2_takesRegion 37 = .ok (.ifCond .eq 11, 3) := by decide +kernel
theorem dX2_takesRegion_40 : decode cX2_takesRegion 40 = .ok (.aload_n 0, 1) := by decide +kernel
theorem dX2_takesRegion_41 : decode cX2_takesRegion 41 = .ok (.getfield 9, 3) := by decide +kernel
theorem dX2_takesRegion_44 : decode cX2_takesRegion 44 = .ok (.iconst 5, 1) := by decide +kernel
theorem dX2_takesRegion_45 : decode cX2_takesRegion 45 = .ok (.if_icmp .lt 5, 3) := by decide +kernel
theorem dX2_takesRegion_48 : decode cX2_takesRegion 48 = .ok (.iconst 0, 1) := by decide +kernel
theorem dX2_takesRegion_49 : decode cX2_takesRegion 49 = .ok (.ireturn, 1) := by decide +kernel
theorem dX2_takesRegion_50 : decode cX2_takesRegion 50 = .ok (.aload_n 0, 1) := by decide +kernel
theorem dX2_takesRegion_51 : decode cX2_takesRegion 51 = .ok (.getfield 15, 3) := by decide +kernel
theorem dX2_takesRegion_54 : decode cX2_takesRegion 54 = .ok (.aload_n 0, 1) := by decide +kernel
theorem dX2_takesRegion_55 : decode cX2_takesRegion 55 = .ok (.getfield 9, 3) := by decide +kernel
theorem dX2_takesRegion_58 : decode cX2_takesRegion 58 = .ok (.iload_n 1, 1) := by decide +kernel
theorem dX2_takesRegion_59 : decode cX2_takesRegion 59 = .ok (.iastore, 1) := by decide +kernel
theorem dX2_takesRegion_60 : decode cX2_takesRegion 60 = .ok (.aload_n 0, 1) := by decide +kernel
theorem dX2_takesRegion_61 : decode cX2_takesRegion 61 = .ok (.iconst 0, 1) := by decide +kernel
theorem dX2_takesRegion_62 : decode cX2_takesRegion 62 = .ok (.putfield 28, 3) := by decide +kernel
theorem dX2_takesRegion_65 : decode cX2_takesRegion 65 = .ok (.aload_n 0, 1) := by decide +kernel
theorem dX2_takesRegion_66 : decode cX2_takesRegion 66 = .ok (.iconst 1, 1) := by decide +kernel
theorem dX2_takesRegion_67 : decode cX2_takesRegion 67 = .ok (.putfield 25, 3) := by decide +kernel
theorem dX2_takesRegion_70 : decode cX2_takesRegion 70 = .ok (.iconst 1, 1) := by decide +kernel
theorem dX2_takesRegion_71 : decode cX2_takesRegion 71 = .ok (.ireturn, 1) := by decide +kernel
theorem dX2_takesSign_0 : decode cX2_takesSign 0 = .ok (.iload_n 1, 1) := by decide +kernel
theorem dX2_takesSign_1 : decode cX2_takesSign 1 = .ok (.bipush 60, 2) := by decide +kernel
theorem dX2_takesSign_3 : decode cX2_takesSign 3 = .ok (.if_icmp .eq 11, 3) := by decide +kernel
theorem dX2_takesSign_6 : decode cX2_takesSign 6 = .ok (.iload_n 1, 1) := by decide +kernel
theorem dX2_takesSign_7 : decode cX2_takesSign 7 = .ok (.bipush 62, 2) := by decide +kernel
theorem dX2_takesSign_9 : decode cX2_takesSign 9 = .ok (.if_icmp .eq 5, 3) := by decide +kernel
theorem dX2_takesSign_12 : decode cX2_takesSign 12 = .ok (.iconst 0, 1) := by decide +kernel
theorem dX2_takesSign_13 : decode cX2_takesSign 13 = .ok (.ireturn, 1) := by decide +kernel
theorem dX2_takesSign_14 : decode cX2_takesSign 14 = .ok (.aload_n 0, 1) := by decide +kernel
theorem dX2_takesSign_15 : decode cX2_takesSign 15 = .ok (.getfield 19, 3) := by decide +kernel
theorem dX2_takesSign_18 : decode cX2_takesSign 18 = .ok (.aload_n 0, 1) := by decide +kernel
theorem dX2_takesSign_19 : decode cX2_takesSign 19 = .ok (.getfield 9, 3) := by decide +kernel
theorem dX2_takesSign_22 : decode cX2_takesSign 22 = .ok (.iload_n 1, 1) := by decide +kernel
theorem dX2_takesSign_23 : decode cX2_takesSign 23 = .ok (.iastore, 1) := by decide +kernel
theorem dX2_takesSign_24 : decode cX2_takesSign 24 = .ok (.aload_n 0, 1) := by decide +kernel
theorem dX2_takesSign_25 : decode cX2_takesSign 25 = .ok (.iconst 2, 1) := by decide +kernel
theorem dX2_takesSign_26 : decode cX2_takesSign 26 = .ok (.putfield 25, 3) := by decide +kernel
theorem dX2_takesSign_29 : decode cX2_takesSign 29 = .ok (.iconst 1, 1) := by decide +kernel
theorem dX2_takesSign_30 : decode cX2_takesSign 30 = .ok (.ireturn, 1) := by decide +kernel
theorem dX2_takesDigit_0 : decode cX2_takesDigit 0 = .ok (.iload_n 1, 1) := by decide +kernel
theorem dX2_takesDigit_1 : decode cX2_takesDigit 1 = .ok (.bipush 48, 2) := by decide +kernel
theorem dX2_takesDigit_3 : decode cX2_takesDigit 3 = .ok (.bipush 57, 2) := by decide +kernel
theorem dX2_takesDigit_5 : decode cX2_takesDigit 5 = .ok (.invokestatic 48, 3) := by decide +kernel
theorem dX2_takesDigit_8 : decode cX2_takesDigit 8 = .ok (.ifCond .eq 11, 3) := by decide +kernel
theorem dX2_takesDigit_11 : decode cX2_takesDigit 11 = .ok (.aload_n 0, 1) := by decide +kernel
theorem dX2_takesDigit_12 : decode cX2_takesDigit 12 = .ok (.getfield 28, 3) := by decide +kernel
theorem dX2_takesDigit_15 : decode cX2_takesDigit 15 = .ok (.iconst 5, 1) := by decide +kernel
theorem dX2_takesDigit_16 : decode cX2_takesDigit 16 = .ok (.if_icmp .lt 5, 3) := by decide +kernel
theorem dX2_takesDigit_19 : decode cX2_takesDigit 19 = .ok (.iconst 0, 1) := by decide +kernel
theorem dX2_takesDigit_20 : decode cX2_takesDigit 20 = .ok (.ireturn, 1) := by decide +kernel
theorem dX2_takesDigit_21 : decode cX2_takesDigit 21 = .ok (.aload_n 0, 1) := by decide +kernel
theorem dX2_takesDigit_22 : decode cX2_takesDigit 22 = .ok (.getfield 25, 3) := by decide +kernel
theorem dX2_takesDigit_25 : decode cX2_takesDigit 25 = .ok (.iconst 2, 1) := by decide +kernel
theorem dX2_takesDigit_26 : decode cX2_takesDigit 26 = .ok (.if_icmp .ne 13, 3) := by decide +kernel
theorem dX2_takesDigit_29 : decode cX2_takesDigit 29 = .ok (.aload_n 0, 1) := by decide +kernel
theorem dX2_takesDigit_30 : decode cX2_takesDigit 30 = .ok (.dup, 1) := by decide +kernel
theorem dX2_takesDigit_31 : decode cX2_takesDigit 31 = .ok (.getfield 9, 3) := by decide +kernel
theorem dX2_takesDigit_34 : decode cX2_takesDigit 34 = .ok (.iconst 1, 1) := by decide +kernel
theorem dX2_takesDigit_35 : decode cX2_takesDigit 35 = .ok (.iadd, 1) := by decide +kernel
theorem dX2_takesDigit_36 : decode cX2_takesDigit 36 = .ok (.putfield 9, 3) := by decide +kernel
theorem dX2_takesDigit_39 : decode cX2_takesDigit 39 = .ok (.aload_n 0, 1) := by decide +kernel
theorem dX2_takesDigit_40 : decode cX2_takesDigit 40 = .ok (.getfield 22, 3) := by decide +kernel
theorem dX2_takesDigit_43 : decode cX2_takesDigit 43 = .ok (.aload_n 0, 1) := by decide +kernel
theorem dX2_takesDigit_44 : decode cX2_takesDigit 44 = .ok (.getfield 9, 3) := by decide +kernel
theorem dX2_takesDigit_47 : decode cX2_takesDigit 47 = .ok (.iconst 1, 1) := by decide +kernel
theorem dX2_takesDigit_48 : decode cX2_takesDigit 48 = .ok (.isub, 1) := by decide +kernel
theorem dX2_takesDigit_49 : decode cX2_takesDigit 49 = .ok (.bipush 10, 2) := by decide +kernel
theorem dX2_takesDigit_51 : decode cX2_takesDigit 51 = .ok (.aload_n 0, 1) := by decide +kernel
theorem dX2_takesDigit_52 : decode cX2_takesDigit 52 = .ok (.getfield 22, 3) := by decide +kernel
theorem dX2_takesDigit_55 : decode cX2_takesDigit 55 = .ok (.aload_n 0, 1) := by decide +kernel
theorem dX2_takesDigit_56 : decode cX2_takesDigit 56 = .ok (.getfield 9, 3) := by decide +kernel
theorem dX2_takesDigit_59 : decode cX2_takesDigit 59 = .ok (.iconst 1, 1) := by decide +kernel
theorem dX2_takesDigit_60 : decode cX2_takesDigit 60 = .ok (.isub, 1) := by decide +kernel
theorem dX2_takesDigit_61 : decode cX2_takesDigit 61 = .ok (.iaload, 1) := by decide +kernel
theorem dX2_takesDigit_62 : decode cX2_takesDigit 62 = .ok (.imul, 1) := by decide +kernel
theorem dX2_takesDigit_63 : decode cX2_takesDigit 63 = .ok (.iload_n 1, 1) := by decide +kernel
theorem dX2_takesDigit_64 : decode cX2_takesDigit 64 = .ok (.iadd, 1) := by decide +kernel
theorem dX2_takesDigit_65 : decode cX2_takesDigit 65 = .ok (.bipush 48, 2) := by decide +kernel
theorem dX2_takesDigit_67 : decode cX2_takesDigit 67 = .ok (.isub, 1) := by decide +kernel
theorem dX2_takesDigit_68 : decode cX2_takesDigit 68 = .ok (.iastore, 1) := by decide +kernel
theorem dX2_takesDigit_69 : decode cX2_takesDigit 69 = .ok (.aload_n 0, 1) := by decide +kernel
theorem dX2_takesDigit_70 : decode cX2_takesDigit 70 = .ok (.dup, 1) := by decide +kernel
theorem dX2_takesDigit_71 : decode cX2_takesDigit 71 = .ok (.getfield 28, 3) := by decide +kernel
theorem dX2_takesDigit_74 : decode cX2_takesDigit 74 = .ok (.iconst 1, 1) := by decide +kernel
theorem dX2_takesDigit_75 : decode cX2_takesDigit 75 = .ok (.iadd, 1) := by decide +kernel
theorem dX2_takesDigit_76 : decode cX2_takesDigit 76 = .ok (.putfield 28, 3) := by decide +kernel
theorem dX2_takesDigit_79 : decode cX2_takesDigit 79 = .ok (.aload_n 0, 1) := by decide +kernel
theorem dX2_takesDigit_80 : decode cX2_takesDigit 80 = .ok (.iconst 3, 1) := by decide +kernel
theorem dX2_takesDigit_81 : decode cX2_takesDigit 81 = .ok (.putfield 25, 3) := by decide +kernel
theorem dX2_takesDigit_84 : decode cX2_takesDigit 84 = .ok (.iconst 1, 1) := by decide +kernel
theorem dX2_takesDigit_85 : decode cX2_takesDigit 85 = .ok (.ireturn, 1) := by decide +kernel
theorem dX2_takesComma_0 : decode cX2_takesComma 0 = .ok (.aload_n 0, 1) := by decide +kernel
theorem dX2_takesComma_1 : decode cX2_takesComma 1 = .ok (.getfield 25, 3) := by decide +kernel
theorem dX2_takesComma_4 : decode cX2_takesComma 4 = .ok (.iconst 3, 1) := by decide +kernel
theorem dX2_takesComma_5 : decode cX2_takesComma 5 = .ok (.if_icmp .ne 11, 3) := by decide +kernel
theorem dX2_takesComma_8 : decode cX2_takesComma 8 = .ok (.aload_n 0, 1) := by decide +kernel
theorem dX2_takesComma_9 : decode cX2_takesComma 9 = .ok (.getfield 9, 3) := by decide +kernel
theorem dX2_takesComma_12 : decode cX2_takesComma 12 = .ok (.iconst 5, 1) := by decide +kernel
theorem dX2_takesComma_13 : decode cX2_takesComma 13 = .ok (.if_icmp .lt 5, 3) := by decide +kernel
theorem dX2_takesComma_16 : decode cX2_takesComma 16 = .ok (.iconst 0, 1) := by decide +kernel
theorem dX2_takesComma_17 : decode cX2_takesComma 17 = .ok (.ireturn, 1) := by decide +kernel
theorem dX2_takesComma_18 : decode cX2_takesComma 18 = .ok (.aload_n 0, 1) := by decide +kernel
theorem dX2_takesComma_19 : decode cX2_takesComma 19 = .ok (.iconst 0, 1) := by decide +kernel
theorem dX2_takesComma_20 : decode cX2_takesComma 20 = .ok (.putfield 25, 3) := by decide +kernel
theorem dX2_takesComma_23 : decode cX2_takesComma 23 = .ok (.iconst 1, 1) := by decide +kernel
theorem dX2_takesComma_24 : decode cX2_takesComma 24 = .ok (.ireturn, 1) := by decide +kernel
theorem dX2_trueClauses_0 : decode cX2_trueClauses 0 = .ok (.iconst 0, 1) := by decide +kernel
theorem dX2_trueClauses_1 : decode cX2_trueClauses 1 = .ok (.istore_n 2, 1) := by decide +kernel
theorem dX2_trueClauses_2 : decode cX2_trueClauses 2 = .ok (.iconst 0, 1) := by decide +kernel
theorem dX2_trueClauses_3 : decode cX2_trueClauses 3 = .ok (.istore_n 3, 1) := by decide +kernel
theorem dX2_trueClauses_4 : decode cX2_trueClauses 4 = .ok (.iload_n 3, 1) := by decide +kernel
theorem dX2_trueClauses_5 : decode cX2_trueClauses 5 = .ok (.aload_n 0, 1) := by decide +kernel
theorem dX2_trueClauses_6 : decode cX2_trueClauses 6 = .ok (.getfield 9, 3) := by decide +kernel
theorem dX2_trueClauses_9 : decode cX2_trueClauses 9 = .ok (.if_icmp .ge 24, 3) := by decide +kernel
theorem dX2_trueClauses_12 : decode cX2_trueClauses 12 = .ok (.aload_n 0, 1) := by decide +kernel
theorem dX2_trueClauses_13 : decode cX2_trueClauses 13 = .ok (.iload_n 3, 1) := by decide +kernel
theorem dX2_trueClauses_14 : decode cX2_trueClauses 14 = .ok (.aload_n 1, 1) := by decide +kernel
theorem dX2_trueClauses_15 : decode cX2_trueClauses 15 = .ok (.invokevirtual 52, 3) := by decide +kernel
theorem dX2_trueClauses_18 : decode cX2_trueClauses 18 = .ok (.ifCond .eq 9, 3) := by decide +kernel
theorem dX2_trueClauses_21 : decode cX2_trueClauses 21 = .ok (.iload_n 2, 1) := by decide +kernel
theorem dX2_trueClauses_22 : decode cX2_trueClauses 22 = .ok (.iconst 1, 1) := by decide +kernel
theorem dX2_trueClauses_23 : decode cX2_trueClauses 23 = .ok (.iload_n 3, 1) := by decide +kernel
theorem dX2_trueClauses_24 : decode cX2_trueClauses 24 = .ok (.ishl, 1) := by decide +kernel
theorem dX2_trueClauses_25 : decode cX2_trueClauses 25 = .ok (.ior, 1) := by decide +kernel
theorem dX2_trueClauses_26 : decode cX2_trueClauses 26 = .ok (.istore_n 2, 1) := by decide +kernel
theorem dX2_trueClauses_27 : decode cX2_trueClauses 27 = .ok (.iinc 3 1, 3) := by decide +kernel
theorem dX2_trueClauses_30 : decode cX2_trueClauses 30 = .ok (.goto (-26), 3) := by decide +kernel
theorem dX2_trueClauses_33 : decode cX2_trueClauses 33 = .ok (.iload_n 2, 1) := by decide +kernel
theorem dX2_trueClauses_34 : decode cX2_trueClauses 34 = .ok (.ireturn, 1) := by decide +kernel
theorem dX2_isTrue_0 : decode cX2_isTrue 0 = .ok (.iconst 0, 1) := by decide +kernel
theorem dX2_isTrue_1 : decode cX2_isTrue 1 = .ok (.istore_n 3, 1) := by decide +kernel
theorem dX2_isTrue_2 : decode cX2_isTrue 2 = .ok (.iconst 0, 1) := by decide +kernel
theorem dX2_isTrue_3 : decode cX2_isTrue 3 = .ok (.istore 4, 2) := by decide +kernel
theorem dX2_isTrue_5 : decode cX2_isTrue 5 = .ok (.iload 4, 2) := by decide +kernel
theorem dX2_isTrue_7 : decode cX2_isTrue 7 = .ok (.sipush 144, 3) := by decide +kernel
theorem dX2_isTrue_10 : decode cX2_isTrue 10 = .ok (.if_icmp .ge 101, 3) := by decide +kernel
theorem dX2_isTrue_13 : decode cX2_isTrue 13 = .ok (.aload_n 2, 1) := by decide +kernel
theorem dX2_isTrue_14 : decode cX2_isTrue 14 = .ok (.iload 4, 2) := by decide +kernel
theorem dX2_isTrue_16 : decode cX2_isTrue 16 = .ok (.iaload, 1) := by decide +kernel
theorem dX2_isTrue_17 : decode cX2_isTrue 17 = .ok (.istore 5, 2) := by decide +kernel
theorem dX2_isTrue_19 : decode cX2_isTrue 19 = .ok (.iload 5, 2) := by decide +kernel
theorem dX2_isTrue_21 : decode cX2_isTrue 21 = .ok (.bipush (-9), 2) := by decide +kernel
theorem dX2_isTrue_23 : decode cX2_isTrue 23 = .ok (.if_icmp .eq 82, 3) := by decide +kernel
theorem dX2_isTrue_26 : decode cX2_isTrue 26 = .ok (.aload_n 0, 1) := by decide +kernel
theorem dX2_isTrue_27 : decode cX2_isTrue 27 = .ok (.getfield 15, 3) := by decide +kernel
theorem dX2_isTrue_30 : decode cX2_isTrue 30 = .ok (.iload_n 1, 1) := by decide +kernel
theorem dX2_isTrue_31 : decode cX2_isTrue 31 = .ok (.iaload, 1) := by decide +kernel
theorem dX2_isTrue_32 : decode cX2_isTrue 32 = .ok (.iload 4, 2) := by decide +kernel
theorem dX2_isTrue_34 : decode cX2_isTrue 34 = .ok (.bipush 12, 2) := by decide +kernel
theorem dX2_isTrue_36 : decode cX2_isTrue 36 = .ok (.irem, 1) := by decide +kernel
theorem dX2_isTrue_37 : decode cX2_isTrue 37 = .ok (.iload 4, 2) := by decide +kernel
theorem dX2_isTrue_39 : decode cX2_isTrue 39 = .ok (.bipush 12, 2) := by decide +kernel
theorem dX2_isTrue_41 : decode cX2_isTrue 41 = .ok (.idiv, 1) := by decide +kernel
theorem dX2_isTrue_42 : decode cX2_isTrue 42 = .ok (.invokestatic 56, 3) := by decide +kernel
theorem dX2_isTrue_45 : decode cX2_isTrue 45 = .ok (.ifCond .eq 60, 3) := by decide +kernel
theorem dX2_isTrue_48 : decode cX2_isTrue 48 = .ok (.iconst 1, 1) := by decide +kernel
theorem dX2_isTrue_49 : decode cX2_isTrue 49 = .ok (.istore_n 3, 1) := by decide +kernel
theorem dX2_isTrue_50 : decode cX2_isTrue 50 = .ok (.aload_n 0, 1) := by decide +kernel
theorem dX2_isTrue_51 : decode cX2_isTrue 51 = .ok (.getfield 19, 3) := by decide +kernel
theorem dX2_isTrue_54 : decode cX2_isTrue 54 = .ok (.iload_n 1, 1) := by decide +kernel
theorem dX2_isTrue_55 : decode cX2_isTrue 55 = .ok (.iaload, 1) := by decide +kernel
theorem dX2_isTrue_56 : decode cX2_isTrue 56 = .ok (.bipush 60, 2) := by decide +kernel
theorem dX2_isTrue_58 : decode cX2_isTrue 58 = .ok (.if_icmp .ne 22, 3) := by decide +kernel
theorem dX2_isTrue_61 : decode cX2_isTrue 61 = .ok (.iload 5, 2) := by decide +kernel
theorem dX2_isTrue_63 : decode cX2_isTrue 63 = .ok (.aload_n 0, 1) := by decide +kernel
theorem dX2_isTrue_64 : decode cX2_isTrue 64 = .ok (.getfield 22, 3) := by decide +kernel
theorem dX2_isTrue_67 : decode cX2_isTrue 67 = .ok (.iload_n 1, 1) := by decide +kernel
theorem dX2_isTrue_68 : decode cX2_isTrue 68 = .ok (.iaload, 1) := by decide +kernel
theorem dX2_isTrue_69 : decode cX2_isTrue 69 = .ok (.if_icmp .ge 7, 3) := by decide +kernel
theorem dX2_isTrue_72 : decode cX2_isTrue 72 = .ok (.iconst 1, 1) := by decide +kernel
theorem dX2_isTrue_73 : decode cX2_isTrue 73 = .ok (.goto 23, 3) := by decide +kernel
theorem dX2_isTrue_76 : decode cX2_isTrue 76 = .ok (.iconst 0, 1) := by decide +kernel
theorem dX2_isTrue_77 : decode cX2_isTrue 77 = .ok (.goto 19, 3) := by decide +kernel
theorem dX2_isTrue_80 : decode cX2_isTrue 80 = .ok (.iload 5, 2) := by decide +kernel
theorem dX2_isTrue_82 : decode cX2_isTrue 82 = .ok (.aload_n 0, 1) := by decide +kernel
theorem dX2_isTrue_83 : decode cX2_isTrue 83 = .ok (.getfield 22, 3) := by decide +kernel
theorem dX2_isTrue_86 : decode cX2_isTrue 86 = .ok (.iload_n 1, 1) := by decide +kernel
theorem dX2_isTrue_87 : decode cX2_isTrue 87 = .ok (.iaload, 1) := by decide +kernel
theorem dX2_isTrue_88 : decode cX2_isTrue 88 = .ok (.if_icmp .le 7, 3) := by decide +kernel
theorem dX2_isTrue_91 : decode cX2_isTrue 91 = .ok (.iconst 1, 1) := by decide +kernel
theorem dX2_isTrue_92 : decode cX2_isTrue 92 = .ok (.goto 4, 3) := by decide +kernel
theorem dX2_isTrue_95 : decode cX2_isTrue 95 = .ok (.iconst 0, 1) := by decide +kernel
theorem dX2_isTrue_96 : decode cX2_isTrue 96 = .ok (.istore 6, 2) := by decide +kernel
theorem dX2_isTrue_98 : decode cX2_isTrue 98 = .ok (.iload 6, 2) := by decide +kernel
theorem dX2_isTrue_100 : decode cX2_isTrue 100 = .ok (.ifCond .ne 5, 3) := by decide +kernel
theorem dX2_isTrue_103 : decode cX2_isTrue 103 = .ok (.iconst 0, 1) := by decide +kernel
theorem dX2_isTrue_104 : decode cX2_isTrue 104 = .ok (.ireturn, 1) := by decide +kernel
theorem dX2_isTrue_105 : decode cX2_isTrue 105 = .ok (.iinc 4 1, 3) := by decide +kernel
theorem dX2_isTrue_108 : decode cX2_isTrue 108 = .ok (.goto (-103), 3) := by decide +kernel
theorem dX2_isTrue_111 : decode cX2_isTrue 111 = .ok (.iload_n 3, 1) := by decide +kernel
theorem dX2_isTrue_112 : decode cX2_isTrue 112 = .ok (.ireturn, 1) := by decide +kernel
theorem dX2_isInRegion_0 : decode cX2_isInRegion 0 = .ok (.iload_n 0, 1) := by decide +kernel
theorem dX2_isInRegion_1 : decode cX2_isInRegion 1 = .ok (.lookupswitch 89 #[(101, 77), (110, 43), (115, 54), (119, 66)], 43) := by decide +kernel
theorem dX2_isInRegion_44 : decode cX2_isInRegion 44 = .ok (.iload_n 2, 1) := by decide +kernel
theorem dX2_isInRegion_45 : decode cX2_isInRegion 45 = .ok (.iconst 4, 1) := by decide +kernel
theorem dX2_isInRegion_46 : decode cX2_isInRegion 46 = .ok (.if_icmp .ge 7, 3) := by decide +kernel
theorem dX2_isInRegion_49 : decode cX2_isInRegion 49 = .ok (.iconst 1, 1) := by decide +kernel
theorem dX2_isInRegion_50 : decode cX2_isInRegion 50 = .ok (.goto 4, 3) := by decide +kernel
theorem dX2_isInRegion_53 : decode cX2_isInRegion 53 = .ok (.iconst 0, 1) := by decide +kernel
theorem dX2_isInRegion_54 : decode cX2_isInRegion 54 = .ok (.ireturn, 1) := by decide +kernel
theorem dX2_isInRegion_55 : decode cX2_isInRegion 55 = .ok (.iload_n 2, 1) := by decide +kernel
theorem dX2_isInRegion_56 : decode cX2_isInRegion 56 = .ok (.bipush 7, 2) := by decide +kernel
theorem dX2_isInRegion_58 : decode cX2_isInRegion 58 = .ok (.if_icmp .le 7, 3) := by decide +kernel
theorem dX2_isInRegion_61 : decode cX2_isInRegion 61 = .ok (.iconst 1, 1) := by decide +kernel
theorem dX2_isInRegion_62 : decode cX2_isInRegion 62 = .ok (.goto 4, 3) := by decide +kernel
theorem dX2_isInRegion_65 : decode cX2_isInRegion 65 = .ok (.iconst 0, 1) := by decide +kernel
theorem dX2_isInRegion_66 : decode cX2_isInRegion 66 = .ok (.ireturn, 1) := by decide +kernel
theorem dX2_isInRegion_67 : decode cX2_isInRegion 67 = .ok (.iload_n 1, 1) := by decide +kernel
theorem dX2_isInRegion_68 : decode cX2_isInRegion 68 = .ok (.iconst 4, 1) := by decide +kernel
theorem dX2_isInRegion_69 : decode cX2_isInRegion 69 = .ok (.if_icmp .ge 7, 3) := by decide +kernel
theorem dX2_isInRegion_72 : decode cX2_isInRegion 72 = .ok (.iconst 1, 1) := by decide +kernel
theorem dX2_isInRegion_73 : decode cX2_isInRegion 73 = .ok (.goto 4, 3) := by decide +kernel
theorem dX2_isInRegion_76 : decode cX2_isInRegion 76 = .ok (.iconst 0, 1) := by decide +kernel
theorem dX2_isInRegion_77 : decode cX2_isInRegion 77 = .ok (.ireturn, 1) := by decide +kernel
theorem dX2_isInRegion_78 : decode cX2_isInRegion 78 = .ok (.iload_n 1, 1) := by decide +kernel
theorem dX2_isInRegion_79 : decode cX2_isInRegion 79 = .ok (.bipush 7, 2) := by decide +kernel
theorem dX2_isInRegion_81 : decode cX2_isInRegion 81 = .ok (.if_icmp .le 7, 3) := by decide +kernel
theorem dX2_isInRegion_84 : decode cX2_isInRegion 84 = .ok (.iconst 1, 1) := by decide +kernel
theorem dX2_isInRegion_85 : decode cX2_isInRegion 85 = .ok (.goto 4, 3) := by decide +kernel
theorem dX2_isInRegion_88 : decode cX2_isInRegion 88 = .ok (.iconst 0, 1) := by decide +kernel
theorem dX2_isInRegion_89 : decode cX2_isInRegion 89 = .ok (.ireturn, 1) := by decide +kernel
theorem dX2_isInRegion_90 : decode cX2_isInRegion 90 = .ok (.iload_n 1, 1) := by decide +kernel
theorem dX2_isInRegion_91 : decode cX2_isInRegion 91 = .ok (.iconst 4, 1) := by decide +kernel
theorem dX2_isInRegion_92 : decode cX2_isInRegion 92 = .ok (.bipush 7, 2) := by decide +kernel
theorem dX2_isInRegion_94 : decode cX2_isInRegion 94 = .ok (.invokestatic 48, 3) := by decide +kernel
theorem dX2_isInRegion_97 : decode cX2_isInRegion 97 = .ok (.ifCond .eq 17, 3) := by decide +kernel
theorem dX2_isInRegion_100 : decode cX2_isInRegion 100 = .ok (.iload_n 2, 1) := by decide +kernel
theorem dX2_isInRegion_101 : decode cX2_isInRegion 101 = .ok (.iconst 4, 1) := by decide +kernel
theorem dX2_isInRegion_102 : decode cX2_isInRegion 102 = .ok (.bipush 7, 2) := by decide +kernel
theorem dX2_isInRegion_104 : decode cX2_isInRegion 104 = .ok (.invokestatic 48, 3) := by decide +kernel
theorem dX2_isInRegion_107 : decode cX2_isInRegion 107 = .ok (.ifCond .eq 7, 3) := by decide +kernel
theorem dX2_isInRegion_110 : decode cX2_isInRegion 110 = .ok (.iconst 1, 1) := by decide +kernel
theorem dX2_isInRegion_111 : decode cX2_isInRegion 111 = .ok (.goto 4, 3) := by decide +kernel
theorem dX2_isInRegion_114 : decode cX2_isInRegion 114 = .ok (.iconst 0, 1) := by decide +kernel
theorem dX2_isInRegion_115 : decode cX2_isInRegion 115 = .ok (.ireturn, 1) := by decide +kernel
theorem dX3_init_0 : decode cX3_init 0 = .ok (.aload_n 0, 1) := by decide +kernel
theorem dX3_init_1 : decode cX3_init 1 = .ok (.invokespecial 1, 3) := by decide +kernel
theorem dX3_init_4 : decode cX3_init 4 = .ok (.aload_n 0, 1) := by decide +kernel
theorem dX3_init_5 : decode cX3_init 5 = .ok (.iload_n 1, 1) := by decide +kernel
theorem dX3_init_6 : decode cX3_init 6 = .ok (.putfield 7, 3) := by decide +kernel
theorem dX3_init_9 : decode cX3_init 9 = .ok (.aload_n 0, 1) := by decide +kernel
theorem dX3_init_10 : decode cX3_init 10 = .ok (.iload_n 2, 1) := by decide +kernel
theorem dX3_init_11 : decode cX3_init 11 = .ok (.putfield 13, 3) := by decide +kernel
theorem dX3_init_14 : decode cX3_init 14 = .ok (.aload_n 0, 1) := by decide +kernel
theorem dX3_init_15 : decode cX3_init 15 = .ok (.iload_n 3, 1) := by decide +kernel
theorem dX3_init_16 : decode cX3_init 16 = .ok (.putfield 16, 3) := by decide +kernel
theorem dX3_init_19 : decode cX3_init 19 = .ok (.aload_n 0, 1) := by decide +kernel
theorem dX3_init_20 : decode cX3_init 20 = .ok (.iload 4, 2) := by decide +kernel
theorem dX3_init_22 : decode cX3_init 22 = .ok (.putfield 19, 3) := by decide +kernel
theorem dX3_init_25 : decode cX3_init 25 = .ok (.aload_n 0, 1) := by decide +kernel
theorem dX3_init_26 : decode cX3_init 26 = .ok (.aload 5, 2) := by decide +kernel
theorem dX3_init_28 : decode cX3_init 28 = .ok (.putfield 22, 3) := by decide +kernel
theorem dX3_init_31 : decode cX3_init 31 = .ok (.return_, 1) := by decide +kernel
theorem dX4_init_0 : decode cX4_init 0 = .ok (.aload_n 0, 1) := by decide +kernel
theorem dX4_init_1 : decode cX4_init 1 = .ok (.invokespecial 3, 3) := by decide +kernel
theorem dX4_init_4 : decode cX4_init 4 = .ok (.aload_n 0, 1) := by decide +kernel
theorem dX4_init_5 : decode cX4_init 5 = .ok (.iconst 5, 1) := by decide +kernel
theorem dX4_init_6 : decode cX4_init 6 = .ok (.iconst 5, 1) := by decide +kernel
theorem dX4_init_7 : decode cX4_init 7 = .ok (.multianewarray 9 2, 4) := by decide +kernel
theorem dX4_init_11 : decode cX4_init 11 = .ok (.putfield 11, 3) := by decide +kernel
theorem dX4_init_14 : decode cX4_init 14 = .ok (.aload_n 0, 1) := by decide +kernel
theorem dX4_init_15 : decode cX4_init 15 = .ok (.bipush 6, 2) := by decide +kernel
theorem dX4_init_17 : decode cX4_init 17 = .ok (.bipush 32, 2) := by decide +kernel
theorem dX4_init_19 : decode cX4_init 19 = .ok (.multianewarray 9 2, 4) := by decide +kernel
theorem dX4_init_23 : decode cX4_init 23 = .ok (.putfield 16, 3) := by decide +kernel
theorem dX4_init_26 : decode cX4_init 26 = .ok (.aload_n 0, 1) := by decide +kernel
theorem dX4_init_27 : decode cX4_init 27 = .ok (.iconst 5, 1) := by decide +kernel
theorem dX4_init_28 : decode cX4_init 28 = .ok (.newarray .int, 2) := by decide +kernel
theorem dX4_init_30 : decode cX4_init 30 = .ok (.putfield 19, 3) := by decide +kernel
theorem dX4_init_33 : decode cX4_init 33 = .ok (.return_, 1) := by decide +kernel
theorem dX4_match_0 : decode cX4_match 0 = .ok (.aload_n 1, 1) := by decide +kernel
theorem dX4_match_1 : decode cX4_match 1 = .ok (.invokevirtual 23, 3) := by decide +kernel
theorem dX4_match_4 : decode cX4_match 4 = .ok (.istore_n 3, 1) := by decide +kernel
theorem dX4_match_5 : decode cX4_match 5 = .ok (.aload_n 2, 1) := by decide +kernel
theorem dX4_match_6 : decode cX4_match 6 = .ok (.invokevirtual 23, 3) := by decide +kernel
theorem dX4_match_9 : decode cX4_match 9 = .ok (.istore 4, 2) := by decide +kernel
theorem dX4_match_11 : decode cX4_match 11 = .ok (.iconst 0, 1) := by decide +kernel
theorem dX4_match_12 : decode cX4_match 12 = .ok (.istore 5, 2) := by decide +kernel
theorem dX4_match_14 : decode cX4_match 14 = .ok (.iload 5, 2) := by decide +kernel
theorem dX4_match_16 : decode cX4_match 16 = .ok (.iload_n 3, 1) := by decide +kernel
theorem dX4_match_17 : decode cX4_match 17 = .ok (.if_icmp .ge 56, 3) := by decide +kernel
theorem dX4_match_20 : decode cX4_match 20 = .ok (.iconst 0, 1) := by decide +kernel
theorem dX4_match_21 : decode cX4_match 21 = .ok (.istore 6, 2) := by decide +kernel
theorem dX4_match_23 : decode cX4_match 23 = .ok (.iload 6, 2) := by decide +kernel
theorem dX4_match_25 : decode cX4_match 25 = .ok (.iload 4, 2) := by decide +kernel
theorem dX4_match_27 : decode cX4_match 27 = .ok (.if_icmp .ge 40, 3) := by decide +kernel
theorem dX4_match_30 : decode cX4_match 30 = .ok (.aload_n 0, 1) := by decide +kernel
theorem dX4_match_31 : decode cX4_match 31 = .ok (.getfield 11, 3) := by decide +kernel
theorem dX4_match_34 : decode cX4_match 34 = .ok (.iload 5, 2) := by decide +kernel
theorem dX4_match_36 : decode cX4_match 36 = .ok (.aaload, 1) := by decide +kernel
theorem dX4_match_37 : decode cX4_match 37 = .ok (.iload 6, 2) := by decide +kernel
theorem dX4_match_39 : decode cX4_match 39 = .ok (.aload_n 1, 1) := by decide +kernel
theorem dX4_match_40 : decode cX4_match 40 = .ok (.iload 5, 2) := by decide +kernel
theorem dX4_match_42 : decode cX4_match 42 = .ok (.invokevirtual 29, 3) := by decide +kernel
theorem dX4_match_45 : decode cX4_match 45 = .ok (.checkcast 33, 3) := by decide +kernel
theorem dX4_match_48 : decode cX4_match 48 = .ok (.aload_n 2, 1) := by decide +kernel
theorem dX4_match_49 : decode cX4_match 49 = .ok (.iload 6, 2) := by decide +kernel
theorem dX4_match_51 : decode cX4_match 51 = .ok (.invokevirtual 29, 3) := by decide +kernel
theorem dX4_match_54 : decode cX4_match 54 = .ok (.checkcast 33, 3) := by decide +kernel
theorem dX4_match_57 : decode cX4_match 57 = .ok (.invokestatic 35, 3) := by decide +kernel
theorem dX4_match_60 : decode cX4_match 60 = .ok (.iastore, 1) := by decide +kernel
theorem dX4_match_61 : decode cX4_match 61 = .ok (.iinc 6 1, 3) := by decide +kernel
theorem dX4_match_64 : decode cX4_match 64 = .ok (.goto (-41), 3) := by decide +kernel
theorem dX4_match_67 : decode cX4_match 67 = .ok (.iinc 5 1, 3) := by decide +kernel
theorem dX4_match_70 : decode cX4_match 70 = .ok (.goto (-56), 3) := by decide +kernel
theorem dX4_match_73 : decode cX4_match 73 = .ok (.iconst 0, 1) := by decide +kernel
theorem dX4_match_74 : decode cX4_match 74 = .ok (.istore 5, 2) := by decide +kernel
theorem dX4_match_76 : decode cX4_match 76 = .ok (.iload 5, 2) := by decide +kernel
theorem dX4_match_78 : decode cX4_match 78 = .ok (.iconst 1, 1) := by decide +kernel
theorem dX4_match_79 : decode cX4_match 79 = .ok (.iload 4, 2) := by decide +kernel
theorem dX4_match_81 : decode cX4_match 81 = .ok (.ishl, 1) := by decide +kernel
theorem dX4_match_82 : decode cX4_match 82 = .ok (.if_icmp .ge 29, 3) := by decide +kernel
theorem dX4_match_85 : decode cX4_match 85 = .ok (.aload_n 0, 1) := by decide +kernel
theorem dX4_match_86 : decode cX4_match 86 = .ok (.getfield 16, 3) := by decide +kernel
theorem dX4_match_89 : decode cX4_match 89 = .ok (.iload_n 3, 1) := by decide +kernel
theorem dX4_match_90 : decode cX4_match 90 = .ok (.aaload, 1) := by decide +kernel
theorem dX4_match_91 : decode cX4_match 91 = .ok (.iload 5, 2) := by decide +kernel
theorem dX4_match_93 : decode cX4_match 93 = .ok (.bipush 15, 2) := by decide +kernel
theorem dX4_match_95 : decode cX4_match 95 = .ok (.iload 4, 2) := by decide +kernel
theorem dX4_match_97 : decode cX4_match 97 = .ok (.iload 5, 2) := by decide +kernel
theorem dX4_match_99 : decode cX4_match 99 = .ok (.invokestatic 39, 3) := by decide +kernel
theorem dX4_match_102 : decode cX4_match 102 = .ok (.isub, 1) := by decide +kernel
theorem dX4_match_103 : decode cX4_match 103 = .ok (.imul, 1) := by decide +kernel
theorem dX4_match_104 : decode cX4_match 104 = .ok (.iastore, 1) := by decide +kernel
theorem dX4_match_105 : decode cX4_match 105 = .ok (.iinc 5 1, 3) := by decide +kernel
theorem dX4_match_108 : decode cX4_match 108 = .ok (.goto (-32), 3) := by decide +kernel
theorem dX4_match_111 : decode cX4_match 111 = .ok (.iload_n 3, 1) := by decide +kernel
theorem dX4_match_112 : decode cX4_match 112 = .ok (.iconst 1, 1) := by decide +kernel
theorem dX4_match_113 : decode cX4_match 113 = .ok (.isub, 1) := by decide +kernel
theorem dX4_match_114 : decode cX4_match 114 = .ok (.istore 5, 2) := by decide +kernel
theorem dX4_match_116 : decode cX4_match 116 = .ok (.iload 5, 2) := by decide +kernel
theorem dX4_match_118 : decode cX4_match 118 = .ok (.ifCond .lt 47, 3) := by decide +kernel
theorem dX4_match_121 : decode cX4_match 121 = .ok (.iconst 0, 1) := by decide +kernel
theorem dX4_match_122 : decode cX4_match 122 = .ok (.istore 6, 2) := by decide +kernel
theorem dX4_match_124 : decode cX4_match 124 = .ok (.iload 6, 2) := by decide +kernel
theorem dX4_match_126 : decode cX4_match 126 = .ok (.iconst 1, 1) := by decide +kernel
theorem dX4_match_127 : decode cX4_match 127 = .ok (.iload 4, 2) := by decide +kernel
theorem dX4_match_129 : decode cX4_match 129 = .ok (.ishl, 1) := by decide +kernel
theorem dX4_match_130 : decode cX4_match 130 = .ok (.if_icmp .ge 29, 3) := by decide +kernel
theorem dX4_match_133 : decode cX4_match 133 = .ok (.aload_n 0, 1) := by decide +kernel
theorem dX4_match_134 : decode cX4_match 134 = .ok (.getfield 16, 3) := by decide +kernel
theorem dX4_match_137 : decode cX4_match 137 = .ok (.iload 5, 2) := by decide +kernel
theorem dX4_match_139 : decode cX4_match 139 = .ok (.aaload, 1) := by decide +kernel
theorem dX4_match_140 : decode cX4_match 140 = .ok (.iload 6, 2) := by decide +kernel
theorem dX4_match_142 : decode cX4_match 142 = .ok (.aload_n 0, 1) := by decide +kernel
theorem dX4_match_143 : decode cX4_match 143 = .ok (.iload 5, 2) := by decide +kernel
theorem dX4_match_145 : decode cX4_match 145 = .ok (.iload 6, 2) := by decide +kernel
theorem dX4_match_147 : decode cX4_match 147 = .ok (.iload 4, 2) := by decide +kernel
theorem dX4_match_149 : decode cX4_match 149 = .ok (.invokevirtual 45, 3) := by decide +kernel
theorem dX4_match_152 : decode cX4_match 152 = .ok (.iastore, 1) := by decide +kernel
theorem dX4_match_153 : decode cX4_match 153 = .ok (.iinc 6 1, 3) := by decide +kernel
theorem dX4_match_156 : decode cX4_match 156 = .ok (.goto (-32), 3) := by decide +kernel
theorem dX4_match_159 : decode cX4_match 159 = .ok (.iinc 5 (-1), 3) := by decide +kernel
theorem dX4_match_162 : decode cX4_match 162 = .ok (.goto (-46), 3) := by decide +kernel
theorem dX4_match_165 : decode cX4_match 165 = .ok (.aload_n 0, 1) := by decide +kernel
theorem dX4_match_166 : decode cX4_match 166 = .ok (.iload_n 3, 1) := by decide +kernel
theorem dX4_match_167 : decode cX4_match 167 = .ok (.iload 4, 2) := by decide +kernel
theorem dX4_match_169 : decode cX4_match 169 = .ok (.invokevirtual 49, 3) := by decide +kernel
theorem dX4_match_172 : decode cX4_match 172 = .ok (.aload_n 0, 1) := by decide +kernel
theorem dX4_match_173 : decode cX4_match 173 = .ok (.getfield 16, 3) := by decide +kernel
theorem dX4_match_176 : decode cX4_match 176 = .ok (.iconst 0, 1) := by decide +kernel
theorem dX4_match_177 : decode cX4_match 177 = .ok (.aaload, 1) := by decide +kernel
theorem dX4_match_178 : decode cX4_match 178 = .ok (.iconst 0, 1) := by decide +kernel
theorem dX4_match_179 : decode cX4_match 179 = .ok (.iaload, 1) := by decide +kernel
theorem dX4_match_180 : decode cX4_match 180 = .ok (.ireturn, 1) := by decide +kernel
theorem dX4_pairCost_0 : decode cX4_pairCost 0 = .ok (.aload_n 0, 1) := by decide +kernel
theorem dX4_pairCost_1 : decode cX4_pairCost 1 = .ok (.getfield 53, 3) := by decide +kernel
theorem dX4_pairCost_4 : decode cX4_pairCost 4 = .ok (.aload_n 1, 1) := by decide +kernel
theorem dX4_pairCost_5 : decode cX4_pairCost 5 = .ok (.getfield 53, 3) := by decide +kernel
theorem dX4_pairCost_8 : decode cX4_pairCost 8 = .ok (.invokestatic 57, 3) := by decide +kernel
theorem dX4_pairCost_11 : decode cX4_pairCost 11 = .ok (.istore_n 2, 1) := by decide +kernel
theorem dX4_pairCost_12 : decode cX4_pairCost 12 = .ok (.aload_n 0, 1) := by decide +kernel
theorem dX4_pairCost_13 : decode cX4_pairCost 13 = .ok (.getfield 63, 3) := by decide +kernel
theorem dX4_pairCost_16 : decode cX4_pairCost 16 = .ok (.aload_n 1, 1) := by decide +kernel
theorem dX4_pairCost_17 : decode cX4_pairCost 17 = .ok (.getfield 63, 3) := by decide +kernel
theorem dX4_pairCost_20 : decode cX4_pairCost 20 = .ok (.invokestatic 66, 3) := by decide +kernel
theorem dX4_pairCost_23 : decode cX4_pairCost 23 = .ok (.istore_n 3, 1) := by decide +kernel
theorem dX4_pairCost_24 : decode cX4_pairCost 24 = .ok (.aload_n 0, 1) := by decide +kernel
theorem dX4_pairCost_25 : decode cX4_pairCost 25 = .ok (.getfield 69, 3) := by decide +kernel
theorem dX4_pairCost_28 : decode cX4_pairCost 28 = .ok (.aload_n 1, 1) := by decide +kernel
theorem dX4_pairCost_29 : decode cX4_pairCost 29 = .ok (.getfield 69, 3) := by decide +kernel
theorem dX4_pairCost_32 : decode cX4_pairCost 32 = .ok (.if_icmp .ne 8, 3) := by decide +kernel
theorem dX4_pairCost_35 : decode cX4_pairCost 35 = .ok (.iload_n 2, 1) := by decide +kernel
theorem dX4_pairCost_36 : decode cX4_pairCost 36 = .ok (.iload_n 3, 1) := by decide +kernel
theorem dX4_pairCost_37 : decode cX4_pairCost 37 = .ok (.if_icmp .le 7, 3) := by decide +kernel
theorem dX4_pairCost_40 : decode cX4_pairCost 40 = .ok (.sipush 1000, 3) := by decide +kernel
theorem dX4_pairCost_43 : decode cX4_pairCost 43 = .ok (.ireturn, 1) := by decide +kernel
theorem dX4_pairCost_44 : decode cX4_pairCost 44 = .ok (.iconst 0, 1) := by decide +kernel
theorem dX4_pairCost_45 : decode cX4_pairCost 45 = .ok (.istore 4, 2) := by decide +kernel
theorem dX4_pairCost_47 : decode cX4_pairCost 47 = .ok (.iload_n 2, 1) := by decide +kernel
theorem dX4_pairCost_48 : decode cX4_pairCost 48 = .ok (.istore 5, 2) := by decide +kernel
theorem dX4_pairCost_50 : decode cX4_pairCost 50 = .ok (.iload 5, 2) := by decide +kernel
theorem dX4_pairCost_52 : decode cX4_pairCost 52 = .ok (.iload_n 3, 1) := by decide +kernel
theorem dX4_pairCost_53 : decode cX4_pairCost 53 = .ok (.if_icmp .gt 32, 3) := by decide +kernel
theorem dX4_pairCost_56 : decode cX4_pairCost 56 = .ok (.iload 4, 2) := by decide +kernel
theorem dX4_pairCost_58 : decode cX4_pairCost 58 = .ok (.aload_n 0, 1) := by decide +kernel
theorem dX4_pairCost_59 : decode cX4_pairCost 59 = .ok (.getfield 72, 3) := by decide +kernel
theorem dX4_pairCost_62 : decode cX4_pairCost 62 = .ok (.iload 5, 2) := by decide +kernel
theorem dX4_pairCost_64 : decode cX4_pairCost 64 = .ok (.iaload, 1) := by decide +kernel
theorem dX4_pairCost_65 : decode cX4_pairCost 65 = .ok (.aload_n 1, 1) := by decide +kernel
theorem dX4_pairCost_66 : decode cX4_pairCost 66 = .ok (.getfield 72, 3) := by decide +kernel
theorem dX4_pairCost_69 : decode cX4_pairCost 69 = .ok (.iload 5, 2) := by decide +kernel
theorem dX4_pairCost_71 : decode cX4_pairCost 71 = .ok (.iaload, 1) := by decide +kernel
theorem dX4_pairCost_72 : decode cX4_pairCost 72 = .ok (.isub, 1) := by decide +kernel
theorem dX4_pairCost_73 : decode cX4_pairCost 73 = .ok (.invokestatic 75, 3) := by decide +kernel
theorem dX4_pairCost_76 : decode cX4_pairCost 76 = .ok (.iadd, 1) := by decide +kernel
theorem dX4_pairCost_77 : decode cX4_pairCost 77 = .ok (.istore 4, 2) := by decide +kernel
theorem dX4_pairCost_79 : decode cX4_pairCost 79 = .ok (.iinc 5 1, 3) := by decide +kernel
theorem dX4_pairCost_82 : decode cX4_pairCost 82 = .ok (.goto (-32), 3) := by decide +kernel
theorem dX4_pairCost_85 : decode cX4_pairCost 85 = .ok (.iload 4, 2) := by decide +kernel
theorem dX4_pairCost_87 : decode cX4_pairCost 87 = .ok (.ireturn, 1) := by decide +kernel
theorem dX4_leastCost_0 : decode cX4_leastCost 0 = .ok (.bipush 15, 2) := by decide +kernel
theorem dX4_leastCost_2 : decode cX4_leastCost 2 = .ok (.aload_n 0, 1) := by decide +kernel
theorem dX4_leastCost_3 : decode cX4_leastCost 3 = .ok (.getfield 16, 3) := by decide +kernel
theorem dX4_leastCost_6 : decode cX4_leastCost 6 = .ok (.iload_n 1, 1) := by decide +kernel
theorem dX4_leastCost_7 : decode cX4_leastCost 7 = .ok (.iconst 1, 1) := by decide +kernel
theorem dX4_leastCost_8 : decode cX4_leastCost 8 = .ok (.iadd, 1) := by decide +kernel
theorem dX4_leastCost_9 : decode cX4_leastCost 9 = .ok (.aaload, 1) := by decide +kernel
theorem dX4_leastCost_10 : decode cX4_leastCost 10 = .ok (.iload_n 2, 1) := by decide +kernel
theorem dX4_leastCost_11 : decode cX4_leastCost 11 = .ok (.iaload, 1) := by decide +kernel
theorem dX4_leastCost_12 : decode cX4_leastCost 12 = .ok (.iadd, 1) := by decide +kernel
theorem dX4_leastCost_13 : decode cX4_leastCost 13 = .ok (.istore 4, 2) := by decide +kernel
theorem dX4_leastCost_15 : decode cX4_leastCost 15 = .ok (.iconst 0, 1) := by decide +kernel
theorem dX4_leastCost_16 : decode cX4_leastCost 16 = .ok (.istore 5, 2) := by decide +kernel
theorem dX4_leastCost_18 : decode cX4_leastCost 18 = .ok (.iload 5, 2) := by decide +kernel
theorem dX4_leastCost_20 : decode cX4_leastCost 20 = .ok (.iload_n 3, 1) := by decide +kernel
theorem dX4_leastCost_21 : decode cX4_leastCost 21 = .ok (.if_icmp .ge 33, 3) := by decide +kernel
theorem dX4_leastCost_24 : decode cX4_leastCost 24 = .ok (.iload_n 2, 1) := by decide +kernel
theorem dX4_leastCost_25 : decode cX4_leastCost 25 = .ok (.iload 5, 2) := by decide +kernel
theorem dX4_leastCost_27 : decode cX4_leastCost 27 = .ok (.invokestatic 78, 3) := by decide +kernel
theorem dX4_leastCost_30 : decode cX4_leastCost 30 = .ok (.ifCond .ne 18, 3) := by decide +kernel
theorem dX4_leastCost_33 : decode cX4_leastCost 33 = .ok (.iload 4, 2) := by decide +kernel
theorem dX4_leastCost_35 : decode cX4_leastCost 35 = .ok (.aload_n 0, 1) := by decide +kernel
theorem dX4_leastCost_36 : decode cX4_leastCost 36 = .ok (.iload_n 1, 1) := by decide +kernel
theorem dX4_leastCost_37 : decode cX4_leastCost 37 = .ok (.iload 5, 2) := by decide +kernel
theorem dX4_leastCost_39 : decode cX4_leastCost 39 = .ok (.iload_n 2, 1) := by decide +kernel
theorem dX4_leastCost_40 : decode cX4_leastCost 40 = .ok (.invokevirtual 82, 3) := by decide +kernel
theorem dX4_leastCost_43 : decode cX4_leastCost 43 = .ok (.invokestatic 66, 3) := by decide +kernel
theorem dX4_leastCost_46 : decode cX4_leastCost 46 = .ok (.istore 4, 2) := by decide +kernel
theorem dX4_leastCost_48 : decode cX4_leastCost 48 = .ok (.iinc 5 1, 3) := by decide +kernel
theorem dX4_leastCost_51 : decode cX4_leastCost 51 = .ok (.goto (-33), 3) := by decide +kernel
theorem dX4_leastCost_54 : decode cX4_leastCost 54 = .ok (.iload 4, 2) := by decide +kernel
theorem dX4_leastCost_56 : decode cX4_leastCost 56 = .ok (.ireturn, 1) := by decide +kernel
theorem dX4_costWith_0 : decode cX4_costWith 0 = .ok (.aload_n 0, 1) := by decide +kernel
theorem dX4_costWith_1 : decode cX4_costWith 1 = .ok (.getfield 11, 3) := by decide +kernel
theorem dX4_costWith_4 : decode cX4_costWith 4 = .ok (.iload_n 1, 1) := by decide +kernel
theorem dX4_costWith_5 : decode cX4_costWith 5 = .ok (.aaload, 1) := by decide +kernel
theorem dX4_costWith_6 : decode cX4_costWith 6 = .ok (.iload_n 2, 1) := by decide +kernel
theorem dX4_costWith_7 : decode cX4_costWith 7 = .ok (.iaload, 1) := by decide +kernel
theorem dX4_costWith_8 : decode cX4_costWith 8 = .ok (.aload_n 0, 1) := by decide +kernel
theorem dX4_costWith_9 : decode cX4_costWith 9 = .ok (.getfield 16, 3) := by decide +kernel
theorem dX4_costWith_12 : decode cX4_costWith 12 = .ok (.iload_n 1, 1) := by decide +kernel
theorem dX4_costWith_13 : decode cX4_costWith 13 = .ok (.iconst 1, 1) := by decide +kernel
theorem dX4_costWith_14 : decode cX4_costWith 14 = .ok (.iadd, 1) := by decide +kernel
theorem dX4_costWith_15 : decode cX4_costWith 15 = .ok (.aaload, 1) := by decide +kernel
theorem dX4_costWith_16 : decode cX4_costWith 16 = .ok (.iload_n 3, 1) := by decide +kernel
theorem dX4_costWith_17 : decode cX4_costWith 17 = .ok (.iconst 1, 1) := by decide +kernel
theorem dX4_costWith_18 : decode cX4_costWith 18 = .ok (.iload_n 2, 1) := by decide +kernel
theorem dX4_costWith_19 : decode cX4_costWith 19 = .ok (.ishl, 1) := by decide +kernel
theorem dX4_costWith_20 : decode cX4_costWith 20 = .ok (.ior, 1) := by decide +kernel
theorem dX4_costWith_21 : decode cX4_costWith 21 = .ok (.iaload, 1) := by decide +kernel
theorem dX4_costWith_22 : decode cX4_costWith 22 = .ok (.iadd, 1) := by decide +kernel
theorem dX4_costWith_23 : decode cX4_costWith 23 = .ok (.ireturn, 1) := by decide +kernel
theorem dX4_setPartners_0 : decode cX4_setPartners 0 = .ok (.iconst 0, 1) := by decide +kernel
theorem dX4_setPartners_1 : decode cX4_setPartners 1 = .ok (.istore_n 3, 1) := by decide +kernel
theorem dX4_setPartners_2 : decode cX4_setPartners 2 = .ok (.iconst 0, 1) := by decide +kernel
theorem dX4_setPartners_3 : decode cX4_setPartners 3 = .ok (.istore 4, 2) := by decide +kernel
theorem dX4_setPartners_5 : decode cX4_setPartners 5 = .ok (.iload 4, 2) := by decide +kernel
theorem dX4_setPartners_7 : decode cX4_setPartners 7 = .ok (.iload_n 1, 1) := by decide +kernel
theorem dX4_setPartners_8 : decode cX4_setPartners 8 = .ok (.if_icmp .ge 48, 3) := by decide +kernel
theorem dX4_setPartners_11 : decode cX4_setPartners 11 = .ok (.aload_n 0, 1) := by decide +kernel
theorem dX4_setPartners_12 : decode cX4_setPartners 12 = .ok (.getfield 19, 3) := by decide +kernel
theorem dX4_setPartners_15 : decode cX4_setPartners 15 = .ok (.iload 4, 2) := by decide +kernel
theorem dX4_setPartners_17 : decode cX4_setPartners 17 = .ok (.aload_n 0, 1) := by decide +kernel
theorem dX4_setPartners_18 : decode cX4_setPartners 18 = .ok (.iload 4, 2) := by decide +kernel
theorem dX4_setPartners_20 : decode cX4_setPartners 20 = .ok (.iload_n 3, 1) := by decide +kernel
theorem dX4_setPartners_21 : decode cX4_setPartners 21 = .ok (.iload_n 2, 1) := by decide +kernel
theorem dX4_setPartners_22 : decode cX4_setPartners 22 = .ok (.invokevirtual 85, 3) := by decide +kernel
theorem dX4_setPartners_25 : decode cX4_setPartners 25 = .ok (.iastore, 1) := by decide +kernel
theorem dX4_setPartners_26 : decode cX4_setPartners 26 = .ok (.aload_n 0, 1) := by decide +kernel
theorem dX4_setPartners_27 : decode cX4_setPartners 27 = .ok (.getfield 19, 3) := by decide +kernel
theorem dX4_setPartners_30 : decode cX4_setPartners 30 = .ok (.iload 4, 2) := by decide +kernel
theorem dX4_setPartners_32 : decode cX4_setPartners 32 = .ok (.iaload, 1) := by decide +kernel
theorem dX4_setPartners_33 : decode cX4_setPartners 33 = .ok (.bipush (-9), 2) := by decide +kernel
theorem dX4_setPartners_35 : decode cX4_setPartners 35 = .ok (.if_icmp .eq 15, 3) := by decide +kernel
theorem dX4_setPartners_38 : decode cX4_setPartners 38 = .ok (.iload_n 3, 1) := by decide +kernel
theorem dX4_setPartners_39 : decode cX4_setPartners 39 = .ok (.iconst 1, 1) := by decide +kernel
theorem dX4_setPartners_40 : decode cX4_setPartners 40 = .ok (.aload_n 0, 1) := by decide +kernel
theorem dX4_setPartners_41 : decode cX4_setPartners 41 = .ok (.getfield 19, 3) := by decide +kernel
theorem dX4_setPartners_44 : decode cX4_setPartners 44 = .ok (.iload 4, 2) := by decide +kernel
theorem dX4_setPartners_46 : decode cX4_setPartners 46 = .ok (.iaload, 1) := by decide +kernel
theorem dX4_setPartners_47 : decode cX4_setPartners 47 = .ok (.ishl, 1) := by decide +kernel
theorem dX4_setPartners_48 : decode cX4_setPartners 48 = .ok (.ior, 1) := by decide +kernel
theorem dX4_setPartners_49 : decode cX4_setPartners 49 = .ok (.istore_n 3, 1) := by decide +kernel
theorem dX4_setPartners_50 : decode cX4_setPartners 50 = .ok (.iinc 4 1, 3) := by decide +kernel
theorem dX4_setPartners_53 : decode cX4_setPartners 53 = .ok (.goto (-48), 3) := by decide +kernel
theorem dX4_setPartners_56 : decode cX4_setPartners 56 = .ok (.return_, 1) := by decide +kernel
theorem dX4_firstPartner_0 : decode cX4_firstPartner 0 = .ok (.iconst 0, 1) := by decide +kernel
theorem dX4_firstPartner_1 : decode cX4_firstPartner 1 = .ok (.istore 4, 2) := by decide +kernel
theorem dX4_firstPartner_3 : decode cX4_firstPartner 3 = .ok (.iload 4, 2) := by decide +kernel
theorem dX4_firstPartner_5 : decode cX4_firstPartner 5 = .ok (.iload_n 3, 1) := by decide +kernel
theorem dX4_firstPartner_6 : decode cX4_firstPartner 6 = .ok (.if_icmp .ge 40, 3) := by decide +kernel
theorem dX4_firstPartner_9 : decode cX4_firstPartner 9 = .ok (.iload_n 2, 1) := by decide +kernel
theorem dX4_firstPartner_10 : decode cX4_firstPartner 10 = .ok (.iload 4, 2) := by decide +kernel
theorem dX4_firstPartner_12 : decode cX4_firstPartner 12 = .ok (.invokestatic 78, 3) := by decide +kernel
theorem dX4_firstPartner_15 : decode cX4_firstPartner 15 = .ok (.ifCond .ne 25, 3) := by decide +kernel
theorem dX4_firstPartner_18 : decode cX4_firstPartner 18 = .ok (.aload_n 0, 1) := by decide +kernel
theorem dX4_firstPartner_19 : decode cX4_firstPartner 19 = .ok (.iload_n 1, 1) := by decide +kernel
theorem dX4_firstPartner_20 : decode cX4_firstPartner 20 = .ok (.iload 4, 2) := by decide +kernel
theorem dX4_firstPartner_22 : decode cX4_firstPartner 22 = .ok (.iload_n 2, 1) := by decide +kernel
theorem dX4_firstPartner_23 : decode cX4_firstPartner 23 = .ok (.invokevirtual 82, 3) := by decide +kernel
theorem dX4_firstPartner_26 : decode cX4_firstPartner 26 = .ok (.aload_n 0, 1) := by decide +kernel
theorem dX4_firstPartner_27 : decode cX4_firstPartner 27 = .ok (.getfield 16, 3) := by decide +kernel
theorem dX4_firstPartner_30 : decode cX4_firstPartner 30 = .ok (.iload_n 1, 1) := by decide +kernel
theorem dX4_firstPartner_31 : decode cX4_firstPartner 31 = .ok (.aaload, 1) := by decide +kernel
theorem dX4_firstPartner_32 : decode cX4_firstPartner 32 = .ok (.iload_n 2, 1) := by decide +kernel
theorem dX4_firstPartner_33 : decode cX4_firstPartner 33 = .ok (.iaload, 1) := by decide +kernel
theorem dX4_firstPartner_34 : decode cX4_firstPartner 34 = .ok (.if_icmp .ne 6, 3) := by decide +kernel
theorem dX4_firstPartner_37 : decode cX4_firstPartner 37 = .ok (.iload 4, 2) := by decide +kernel
theorem dX4_firstPartner_39 : decode cX4_firstPartner 39 = .ok (.ireturn, 1) := by decide +kernel
theorem dX4_firstPartner_40 : decode cX4_firstPartner 40 = .ok (.iinc 4 1, 3) := by decide +kernel
theorem dX4_firstPartner_43 : decode cX4_firstPartner 43 = .ok (.goto (-40), 3) := by decide +kernel
theorem dX4_firstPartner_46 : decode cX4_firstPartner 46 = .ok (.bipush (-9), 2) := by decide +kernel
theorem dX4_firstPartner_48 : decode cX4_firstPartner 48 = .ok (.ireturn, 1) := by decide +kernel
theorem dX5_init_0 : decode cX5_init 0 = .ok (.aload_n 0, 1) := by decide +kernel
theorem dX5_init_1 : decode cX5_init 1 = .ok (.invokespecial 3, 3) := by decide +kernel
theorem dX5_init_4 : decode cX5_init 4 = .ok (.aload_n 0, 1) := by decide +kernel
theorem dX5_init_5 : decode cX5_init 5 = .ok (.bipush 12, 2) := by decide +kernel
theorem dX5_init_7 : decode cX5_init 7 = .ok (.newarray .int, 2) := by decide +kernel
theorem dX5_init_9 : decode cX5_init 9 = .ok (.putfield 9, 3) := by decide +kernel
theorem dX5_init_12 : decode cX5_init 12 = .ok (.aload_n 0, 1) := by decide +kernel
theorem dX5_init_13 : decode cX5_init 13 = .ok (.bipush 12, 2) := by decide +kernel
theorem dX5_init_15 : decode cX5_init 15 = .ok (.newarray .int, 2) := by decide +kernel
theorem dX5_init_17 : decode cX5_init 17 = .ok (.putfield 15, 3) := by decide +kernel
theorem dX5_init_20 : decode cX5_init 20 = .ok (.aload_n 0, 1) := by decide +kernel
theorem dX5_init_21 : decode cX5_init 21 = .ok (.sipush 864, 3) := by decide +kernel
theorem dX5_init_24 : decode cX5_init 24 = .ok (.newarray .int, 2) := by decide +kernel
theorem dX5_init_26 : decode cX5_init 26 = .ok (.putfield 18, 3) := by decide +kernel
theorem dX5_init_29 : decode cX5_init 29 = .ok (.return_, 1) := by decide +kernel
theorem dX5_takesGates_0 : decode cX5_takesGates 0 = .ok (.aload_n 0, 1) := by decide +kernel
theorem dX5_takesGates_1 : decode cX5_takesGates 1 = .ok (.getfield 9, 3) := by decide +kernel
theorem dX5_takesGates_4 : decode cX5_takesGates 4 = .ok (.iconst 0, 1) := by decide +kernel
theorem dX5_takesGates_5 : decode cX5_takesGates 5 = .ok (.invokestatic 21, 3) := by decide +kernel
theorem dX5_takesGates_8 : decode cX5_takesGates 8 = .ok (.aload_n 0, 1) := by decide +kernel
theorem dX5_takesGates_9 : decode cX5_takesGates 9 = .ok (.getfield 15, 3) := by decide +kernel
theorem dX5_takesGates_12 : decode cX5_takesGates 12 = .ok (.bipush 11, 2) := by decide +kernel
theorem dX5_takesGates_14 : decode cX5_takesGates 14 = .ok (.invokestatic 21, 3) := by decide +kernel
theorem dX5_takesGates_17 : decode cX5_takesGates 17 = .ok (.iconst 0, 1) := by decide +kernel
theorem dX5_takesGates_18 : decode cX5_takesGates 18 = .ok (.istore 4, 2) := by decide +kernel
theorem dX5_takesGates_20 : decode cX5_takesGates 20 = .ok (.iload 4, 2) := by decide +kernel
theorem dX5_takesGates_22 : decode cX5_takesGates 22 = .ok (.iload_n 3, 1) := by decide +kernel
theorem dX5_takesGates_23 : decode cX5_takesGates 23 = .ok (.if_icmp .ge 110, 3) := by decide +kernel
theorem dX5_takesGates_26 : decode cX5_takesGates 26 = .ok (.aload_n 1, 1) := by decide +kernel
theorem dX5_takesGates_27 : decode cX5_takesGates 27 = .ok (.iload_n 2, 1) := by decide +kernel
theorem dX5_takesGates_28 : decode cX5_takesGates 28 = .ok (.iconst 3, 1) := by decide +kernel
theorem dX5_takesGates_29 : decode cX5_takesGates 29 = .ok (.iload 4, 2) := by decide +kernel
theorem dX5_takesGates_31 : decode cX5_takesGates 31 = .ok (.imul, 1) := by decide +kernel
theorem dX5_takesGates_32 : decode cX5_takesGates 32 = .ok (.iadd, 1) := by decide +kernel
theorem dX5_takesGates_33 : decode cX5_takesGates 33 = .ok (.iaload, 1) := by decide +kernel
theorem dX5_takesGates_34 : decode cX5_takesGates 34 = .ok (.istore 5, 2) := by decide +kernel
theorem dX5_takesGates_36 : decode cX5_takesGates 36 = .ok (.aload_n 1, 1) := by decide +kernel
theorem dX5_takesGates_37 : decode cX5_takesGates 37 = .ok (.iload_n 2, 1) := by decide +kernel
theorem dX5_takesGates_38 : decode cX5_takesGates 38 = .ok (.iconst 3, 1) := by decide +kernel
theorem dX5_takesGates_39 : decode cX5_takesGates 39 = .ok (.iload 4, 2) := by decide +kernel
theorem dX5_takesGates_41 : decode cX5_takesGates 41 = .ok (.imul, 1) := by decide +kernel
theorem dX5_takesGates_42 : decode cX5_takesGates 42 = .ok (.iadd, 1) := by decide +kernel
theorem dX5_takesGates_43 : decode cX5_takesGates 43 = .ok (.iconst 1, 1) := by decide +kernel
theorem dX5_takesGates_44 : decode cX5_takesGates 44 = .ok (.iadd, 1) := by decide +kernel
theorem dX5_takesGates_45 : decode cX5_takesGates 45 = .ok (.iaload, 1) := by decide +kernel
theorem dX5_takesGates_46 : decode cX5_takesGates 46 = .ok (.istore 6, 2) := by decide +kernel
theorem dX5_takesGates_48 : decode cX5_takesGates 48 = .ok (.aload_n 1, 1) := by decide +kernel
theorem dX5_takesGates_49 : decode cX5_takesGates 49 = .ok (.iload_n 2, 1) := by decide +kernel
theorem dX5_takesGates_50 : decode cX5_takesGates 50 = .ok (.iconst 3, 1) := by decide +kernel
theorem dX5_takesGates_51 : decode cX5_takesGates 51 = .ok (.iload 4, 2) := by decide +kernel
theorem dX5_takesGates_53 : decode cX5_takesGates 53 = .ok (.imul, 1) := by decide +kernel
theorem dX5_takesGates_54 : decode cX5_takesGates 54 = .ok (.iadd, 1) := by decide +kernel
theorem dX5_takesGates_55 : decode cX5_takesGates 55 = .ok (.iconst 2, 1) := by decide +kernel
theorem dX5_takesGates_56 : decode cX5_takesGates 56 = .ok (.iadd, 1) := by decide +kernel
theorem dX5_takesGates_57 : decode cX5_takesGates 57 = .ok (.iaload, 1) := by decide +kernel
theorem dX5_takesGates_58 : decode cX5_takesGates 58 = .ok (.istore 7, 2) := by decide +kernel
theorem dX5_takesGates_60 : decode cX5_takesGates 60 = .ok (.iload 5, 2) := by decide +kernel
theorem dX5_takesGates_62 : decode cX5_takesGates 62 = .ok (.iload 6, 2) := by decide +kernel
theorem dX5_takesGates_64 : decode cX5_takesGates 64 = .ok (.invokestatic 27, 3) := by decide +kernel
theorem dX5_takesGates_67 : decode cX5_takesGates 67 = .ok (.ifCond .eq 20, 3) := by decide +kernel
theorem dX5_takesGates_70 : decode cX5_takesGates 70 = .ok (.iload 5, 2) := by decide +kernel
theorem dX5_takesGates_72 : decode cX5_takesGates 72 = .ok (.iload 7, 2) := by decide +kernel
theorem dX5_takesGates_74 : decode cX5_takesGates 74 = .ok (.invokestatic 27, 3) := by decide +kernel
theorem dX5_takesGates_77 : decode cX5_takesGates 77 = .ok (.ifCond .eq 10, 3) := by decide +kernel
theorem dX5_takesGates_80 : decode cX5_takesGates 80 = .ok (.iload 6, 2) := by decide +kernel
theorem dX5_takesGates_82 : decode cX5_takesGates 82 = .ok (.iload 7, 2) := by decide +kernel
theorem dX5_takesGates_84 : decode cX5_takesGates 84 = .ok (.if_icmp .le 5, 3) := by decide +kernel
theorem dX5_takesGates_87 : decode cX5_takesGates 87 = .ok (.iconst 0, 1) := by decide +kernel
theorem dX5_takesGates_88 : decode cX5_takesGates 88 = .ok (.ireturn, 1) := by decide +kernel
theorem dX5_takesGates_89 : decode cX5_takesGates 89 = .ok (.aload_n 0, 1) := by decide +kernel
theorem dX5_takesGates_90 : decode cX5_takesGates 90 = .ok (.getfield 9, 3) := by decide +kernel
theorem dX5_takesGates_93 : decode cX5_takesGates 93 = .ok (.iload 5, 2) := by decide +kernel
theorem dX5_takesGates_95 : decode cX5_takesGates 95 = .ok (.aload_n 0, 1) := by decide +kernel
theorem dX5_takesGates_96 : decode cX5_takesGates 96 = .ok (.getfield 9, 3) := by decide +kernel
theorem dX5_takesGates_99 : decode cX5_takesGates 99 = .ok (.iload 5, 2) := by decide +kernel
theorem dX5_takesGates_101 : decode cX5_takesGates 101 = .ok (.iaload, 1) := by decide +kernel
theorem dX5_takesGates_102 : decode cX5_takesGates 102 = .ok (.iload 6, 2) := by decide +kernel
theorem dX5_takesGates_104 : decode cX5_takesGates 104 = .ok (.invokestatic 31, 3) := by decide +kernel
theorem dX5_takesGates_107 : decode cX5_takesGates 107 = .ok (.iastore, 1) := by decide +kernel
theorem dX5_takesGates_108 : decode cX5_takesGates 108 = .ok (.aload_n 0, 1) := by decide +kernel
theorem dX5_takesGates_109 : decode cX5_takesGates 109 = .ok (.getfield 15, 3) := by decide +kernel
theorem dX5_takesGates_112 : decode cX5_takesGates 112 = .ok (.iload 5, 2) := by decide +kernel
theorem dX5_takesGates_114 : decode cX5_takesGates 114 = .ok (.aload_n 0, 1) := by decide +kernel
theorem dX5_takesGates_115 : decode cX5_takesGates 115 = .ok (.getfield 15, 3) := by decide +kernel
theorem dX5_takesGates_118 : decode cX5_takesGates 118 = .ok (.iload 5, 2) := by decide +kernel
theorem dX5_takesGates_120 : decode cX5_takesGates 120 = .ok (.iaload, 1) := by decide +kernel
theorem dX5_takesGates_121 : decode cX5_takesGates 121 = .ok (.iload 7, 2) := by decide +kernel
theorem dX5_takesGates_123 : decode cX5_takesGates 123 = .ok (.invokestatic 37, 3) := by decide +kernel
theorem dX5_takesGates_126 : decode cX5_takesGates 126 = .ok (.iastore, 1) := by decide +kernel
theorem dX5_takesGates_127 : decode cX5_takesGates 127 = .ok (.iinc 4 1, 3) := by decide +kernel
theorem dX5_takesGates_130 : decode cX5_takesGates 130 = .ok (.goto (-110), 3) := by decide +kernel
theorem dX5_takesGates_133 : decode cX5_takesGates 133 = .ok (.iconst 1, 1) := by decide +kernel
theorem dX5_takesGates_134 : decode cX5_takesGates 134 = .ok (.ireturn, 1) := by decide +kernel
theorem dX5_bestStart_0 : decode cX5_bestStart 0 = .ok (.aload_n 0, 1) := by decide +kernel
theorem dX5_bestStart_1 : decode cX5_bestStart 1 = .ok (.iload_n 1, 1) := by decide +kernel
theorem dX5_bestStart_2 : decode cX5_bestStart 2 = .ok (.iload_n 2, 1) := by decide +kernel
theorem dX5_bestStart_3 : decode cX5_bestStart 3 = .ok (.invokevirtual 40, 3) := by decide +kernel
theorem dX5_bestStart_6 : decode cX5_bestStart 6 = .ok (.bipush (-9), 2) := by decide +kernel
theorem dX5_bestStart_8 : decode cX5_bestStart 8 = .ok (.istore_n 3, 1) := by decide +kernel
theorem dX5_bestStart_9 : decode cX5_bestStart 9 = .ok (.sipush 1000, 3) := by decide +kernel
theorem dX5_bestStart_12 : decode cX5_bestStart 12 = .ok (.istore 4, 2) := by decide +kernel
theorem dX5_bestStart_14 : decode cX5_bestStart 14 = .ok (.iconst 0, 1) := by decide +kernel
theorem dX5_bestStart_15 : decode cX5_bestStart 15 = .ok (.istore 5, 2) := by decide +kernel
theorem dX5_bestStart_17 : decode cX5_bestStart 17 = .ok (.iload 5, 2) := by decide +kernel
theorem dX5_bestStart_19 : decode cX5_bestStart 19 = .ok (.bipush 12, 2) := by decide +kernel
theorem dX5_bestStart_21 : decode cX5_bestStart 21 = .ok (.if_icmp .ge 37, 3) := by decide +kernel
theorem dX5_bestStart_24 : decode cX5_bestStart 24 = .ok (.aload_n 0, 1) := by decide +kernel
theorem dX5_bestStart_25 : decode cX5_bestStart 25 = .ok (.getfield 18, 3) := by decide +kernel
theorem dX5_bestStart_28 : decode cX5_bestStart 28 = .ok (.iload_n 1, 1) := by decide +kernel
theorem dX5_bestStart_29 : decode cX5_bestStart 29 = .ok (.iload 5, 2) := by decide +kernel
theorem dX5_bestStart_31 : decode cX5_bestStart 31 = .ok (.iconst 5, 1) := by decide +kernel
theorem dX5_bestStart_32 : decode cX5_bestStart 32 = .ok (.invokestatic 44, 3) := by decide +kernel
theorem dX5_bestStart_35 : decode cX5_bestStart 35 = .ok (.iaload, 1) := by decide +kernel
theorem dX5_bestStart_36 : decode cX5_bestStart 36 = .ok (.istore 6, 2) := by decide +kernel
theorem dX5_bestStart_38 : decode cX5_bestStart 38 = .ok (.iload 6, 2) := by decide +kernel
theorem dX5_bestStart_40 : decode cX5_bestStart 40 = .ok (.iload 4, 2) := by decide +kernel
theorem dX5_bestStart_42 : decode cX5_bestStart 42 = .ok (.if_icmp .ge 10, 3) := by decide +kernel
theorem dX5_bestStart_45 : decode cX5_bestStart 45 = .ok (.iload 5, 2) := by decide +kernel
theorem dX5_bestStart_47 : decode cX5_bestStart 47 = .ok (.istore_n 3, 1) := by decide +kernel
theorem dX5_bestStart_48 : decode cX5_bestStart 48 = .ok (.iload 6, 2) := by decide +kernel
theorem dX5_bestStart_50 : decode cX5_bestStart 50 = .ok (.istore 4, 2) := by decide +kernel
theorem dX5_bestStart_52 : decode cX5_bestStart 52 = .ok (.iinc 5 1, 3) := by decide +kernel
theorem dX5_bestStart_55 : decode cX5_bestStart 55 = .ok (.goto (-38), 3) := by decide +kernel
theorem dX5_bestStart_58 : decode cX5_bestStart 58 = .ok (.iload_n 3, 1) := by decide +kernel
theorem dX5_bestStart_59 : decode cX5_bestStart 59 = .ok (.ireturn, 1) := by decide +kernel
theorem dX5_drawn_0 : decode cX5_drawn 0 = .ok (.bipush 12, 2) := by decide +kernel
theorem dX5_drawn_2 : decode cX5_drawn 2 = .ok (.newarray .int, 2) := by decide +kernel
theorem dX5_drawn_4 : decode cX5_drawn 4 = .ok (.astore 5, 2) := by decide +kernel
theorem dX5_drawn_6 : decode cX5_drawn 6 = .ok (.iload 4, 2) := by decide +kernel
theorem dX5_drawn_8 : decode cX5_drawn 8 = .ok (.istore 6, 2) := by decide +kernel
theorem dX5_drawn_10 : decode cX5_drawn 10 = .ok (.iconst 5, 1) := by decide +kernel
theorem dX5_drawn_11 : decode cX5_drawn 11 = .ok (.istore 7, 2) := by decide +kernel
theorem dX5_drawn_13 : decode cX5_drawn 13 = .ok (.aload 5, 2) := by decide +kernel
theorem dX5_drawn_15 : decode cX5_drawn 15 = .ok (.iload_n 2, 1) := by decide +kernel
theorem dX5_drawn_16 : decode cX5_drawn 16 = .ok (.iload 6, 2) := by decide +kernel
theorem dX5_drawn_18 : decode cX5_drawn 18 = .ok (.iastore, 1) := by decide +kernel
theorem dX5_drawn_19 : decode cX5_drawn 19 = .ok (.iload_n 2, 1) := by decide +kernel
theorem dX5_drawn_20 : decode cX5_drawn 20 = .ok (.istore 8, 2) := by decide +kernel
theorem dX5_drawn_22 : decode cX5_drawn 22 = .ok (.iload 8, 2) := by decide +kernel
theorem dX5_drawn_24 : decode cX5_drawn 24 = .ok (.iload_n 3, 1) := by decide +kernel
theorem dX5_drawn_25 : decode cX5_drawn 25 = .ok (.if_icmp .ge 39, 3) := by decide +kernel
theorem dX5_drawn_28 : decode cX5_drawn 28 = .ok (.aload_n 0, 1) := by decide +kernel
theorem dX5_drawn_29 : decode cX5_drawn 29 = .ok (.iload 8, 2) := by decide +kernel
theorem dX5_drawn_31 : decode cX5_drawn 31 = .ok (.iload 6, 2) := by decide +kernel
theorem dX5_drawn_33 : decode cX5_drawn 33 = .ok (.iload 7, 2) := by decide +kernel
theorem dX5_drawn_35 : decode cX5_drawn 35 = .ok (.invokevirtual 48, 3) := by decide +kernel
theorem dX5_drawn_38 : decode cX5_drawn 38 = .ok (.istore 7, 2) := by decide +kernel
theorem dX5_drawn_40 : decode cX5_drawn 40 = .ok (.iload 6, 2) := by decide +kernel
theorem dX5_drawn_42 : decode cX5_drawn 42 = .ok (.iload 7, 2) := by decide +kernel
theorem dX5_drawn_44 : decode cX5_drawn 44 = .ok (.iconst 2, 1) := by decide +kernel
theorem dX5_drawn_45 : decode cX5_drawn 45 = .ok (.isub, 1) := by decide +kernel
theorem dX5_drawn_46 : decode cX5_drawn 46 = .ok (.iadd, 1) := by decide +kernel
theorem dX5_drawn_47 : decode cX5_drawn 47 = .ok (.istore 6, 2) := by decide +kernel
theorem dX5_drawn_49 : decode cX5_drawn 49 = .ok (.aload 5, 2) := by decide +kernel
theorem dX5_drawn_51 : decode cX5_drawn 51 = .ok (.iload 8, 2) := by decide +kernel
theorem dX5_drawn_53 : decode cX5_drawn 53 = .ok (.iconst 1, 1) := by decide +kernel
theorem dX5_drawn_54 : decode cX5_drawn 54 = .ok (.iadd, 1) := by decide +kernel
theorem dX5_drawn_55 : decode cX5_drawn 55 = .ok (.iload 6, 2) := by decide +kernel
theorem dX5_drawn_57 : decode cX5_drawn 57 = .ok (.iastore, 1) := by decide +kernel
theorem dX5_drawn_58 : decode cX5_drawn 58 = .ok (.iinc 8 1, 3) := by decide +kernel
theorem dX5_drawn_61 : decode cX5_drawn 61 = .ok (.goto (-39), 3) := by decide +kernel
theorem dX5_drawn_64 : decode cX5_drawn 64 = .ok (.new 51, 3) := by decide +kernel
theorem dX5_drawn_67 : decode cX5_drawn 67 = .ok (.dup, 1) := by decide +kernel
theorem dX5_drawn_68 : decode cX5_drawn 68 = .ok (.iload_n 1, 1) := by decide +kernel
theorem dX5_drawn_69 : decode cX5_drawn 69 = .ok (.iload_n 2, 1) := by decide +kernel
theorem dX5_drawn_70 : decode cX5_drawn 70 = .ok (.iload_n 3, 1) := by decide +kernel
theorem dX5_drawn_71 : decode cX5_drawn 71 = .ok (.aload_n 0, 1) := by decide +kernel
theorem dX5_drawn_72 : decode cX5_drawn 72 = .ok (.getfield 18, 3) := by decide +kernel
theorem dX5_drawn_75 : decode cX5_drawn 75 = .ok (.iload_n 2, 1) := by decide +kernel
theorem dX5_drawn_76 : decode cX5_drawn 76 = .ok (.iload 4, 2) := by decide +kernel
theorem dX5_drawn_78 : decode cX5_drawn 78 = .ok (.iconst 5, 1) := by decide +kernel
theorem dX5_drawn_79 : decode cX5_drawn 79 = .ok (.invokestatic 44, 3) := by decide +kernel
theorem dX5_drawn_82 : decode cX5_drawn 82 = .ok (.iaload, 1) := by decide +kernel
theorem dX5_drawn_83 : decode cX5_drawn 83 = .ok (.aload 5, 2) := by decide +kernel
theorem dX5_drawn_85 : decode cX5_drawn 85 = .ok (.invokespecial 53, 3) := by decide +kernel
theorem dX5_drawn_88 : decode cX5_drawn 88 = .ok (.areturn, 1) := by decide +kernel
theorem dX5_weigh_0 : decode cX5_weigh 0 = .ok (.iload_n 2, 1) := by decide +kernel
theorem dX5_weigh_1 : decode cX5_weigh 1 = .ok (.istore_n 3, 1) := by decide +kernel
theorem dX5_weigh_2 : decode cX5_weigh 2 = .ok (.iload_n 3, 1) := by decide +kernel
theorem dX5_weigh_3 : decode cX5_weigh 3 = .ok (.iload_n 1, 1) := by decide +kernel
theorem dX5_weigh_4 : decode cX5_weigh 4 = .ok (.if_icmp .lt 64, 3) := by decide +kernel
theorem dX5_weigh_7 : decode cX5_weigh 7 = .ok (.iconst 0, 1) := by decide +kernel
theorem dX5_weigh_8 : decode cX5_weigh 8 = .ok (.istore 4, 2) := by decide +kernel
theorem dX5_weigh_10 : decode cX5_weigh 10 = .ok (.iload 4, 2) := by decide +kernel
theorem dX5_weigh_12 : decode cX5_weigh 12 = .ok (.bipush 12, 2) := by decide +kernel
theorem dX5_weigh_14 : decode cX5_weigh 14 = .ok (.if_icmp .ge 48, 3) := by decide +kernel
theorem dX5_weigh_17 : decode cX5_weigh 17 = .ok (.iconst 0, 1) := by decide +kernel
theorem dX5_weigh_18 : decode cX5_weigh 18 = .ok (.istore 5, 2) := by decide +kernel
theorem dX5_weigh_20 : decode cX5_weigh 20 = .ok (.iload 5, 2) := by decide +kernel
theorem dX5_weigh_22 : decode cX5_weigh 22 = .ok (.bipush 6, 2) := by decide +kernel
theorem dX5_weigh_24 : decode cX5_weigh 24 = .ok (.if_icmp .ge 32, 3) := by decide +kernel
theorem dX5_weigh_27 : decode cX5_weigh 27 = .ok (.aload_n 0, 1) := by decide +kernel
theorem dX5_weigh_28 : decode cX5_weigh 28 = .ok (.getfield 18, 3) := by decide +kernel
theorem dX5_weigh_31 : decode cX5_weigh 31 = .ok (.iload_n 3, 1) := by decide +kernel
theorem dX5_weigh_32 : decode cX5_weigh 32 = .ok (.iload 4, 2) := by decide +kernel
theorem dX5_weigh_34 : decode cX5_weigh 34 = .ok (.iload 5, 2) := by decide +kernel
theorem dX5_weigh_36 : decode cX5_weigh 36 = .ok (.invokestatic 44, 3) := by decide +kernel
theorem dX5_weigh_39 : decode cX5_weigh 39 = .ok (.aload_n 0, 1) := by decide +kernel
theorem dX5_weigh_40 : decode cX5_weigh 40 = .ok (.iload_n 3, 1) := by decide +kernel
theorem dX5_weigh_41 : decode cX5_weigh 41 = .ok (.iload 4, 2) := by decide +kernel
theorem dX5_weigh_43 : decode cX5_weigh 43 = .ok (.iload 5, 2) := by decide +kernel
theorem dX5_weigh_45 : decode cX5_weigh 45 = .ok (.iload_n 2, 1) := by decide +kernel
theorem dX5_weigh_46 : decode cX5_weigh 46 = .ok (.invokevirtual 56, 3) := by decide +kernel
theorem dX5_weigh_49 : decode cX5_weigh 49 = .ok (.iastore, 1) := by decide +kernel
theorem dX5_weigh_50 : decode cX5_weigh 50 = .ok (.iinc 5 1, 3) := by decide +kernel
theorem dX5_weigh_53 : decode cX5_weigh 53 = .ok (.goto (-33), 3) := by decide +kernel
theorem dX5_weigh_56 : decode cX5_weigh 56 = .ok (.iinc 4 1, 3) := by decide +kernel
theorem dX5_weigh_59 : decode cX5_weigh 59 = .ok (.goto (-49), 3) := by decide +kernel
theorem dX5_weigh_62 : decode cX5_weigh 62 = .ok (.iinc 3 (-1), 3) := by decide +kernel
theorem dX5_weigh_65 : decode cX5_weigh 65 = .ok (.goto (-63), 3) := by decide +kernel
theorem dX5_weigh_68 : decode cX5_weigh 68 = .ok (.return_, 1) := by decide +kernel
theorem dX5_leastCost_0 : decode cX5_leastCost 0 = .ok (.iload_n 2, 1) := by decide +kernel
theorem dX5_leastCost_1 : decode cX5_leastCost 1 = .ok (.aload_n 0, 1) := by decide +kernel
theorem dX5_leastCost_2 : decode cX5_leastCost 2 = .ok (.getfield 9, 3) := by decide +kernel
theorem dX5_leastCost_5 : decode cX5_leastCost 5 = .ok (.iload_n 1, 1) := by decide +kernel
theorem dX5_leastCost_6 : decode cX5_leastCost 6 = .ok (.iaload, 1) := by decide +kernel
theorem dX5_leastCost_7 : decode cX5_leastCost 7 = .ok (.aload_n 0, 1) := by decide +kernel
theorem dX5_leastCost_8 : decode cX5_leastCost 8 = .ok (.getfield 15, 3) := by decide +kernel
theorem dX5_leastCost_11 : decode cX5_leastCost 11 = .ok (.iload_n 1, 1) := by decide +kernel
theorem dX5_leastCost_12 : decode cX5_leastCost 12 = .ok (.iaload, 1) := by decide +kernel
theorem dX5_leastCost_13 : decode cX5_leastCost 13 = .ok (.invokestatic 60, 3) := by decide +kernel
theorem dX5_leastCost_16 : decode cX5_leastCost 16 = .ok (.ifCond .ne 7, 3) := by decide +kernel
theorem dX5_leastCost_19 : decode cX5_leastCost 19 = .ok (.sipush 1000, 3) := by decide +kernel
theorem dX5_leastCost_22 : decode cX5_leastCost 22 = .ok (.ireturn, 1) := by decide +kernel
theorem dX5_leastCost_23 : decode cX5_leastCost 23 = .ok (.iload_n 1, 1) := by decide +kernel
theorem dX5_leastCost_24 : decode cX5_leastCost 24 = .ok (.iload 4, 2) := by decide +kernel
theorem dX5_leastCost_26 : decode cX5_leastCost 26 = .ok (.if_icmp .ne 5, 3) := by decide +kernel
theorem dX5_leastCost_29 : decode cX5_leastCost 29 = .ok (.iconst 0, 1) := by decide +kernel
theorem dX5_leastCost_30 : decode cX5_leastCost 30 = .ok (.ireturn, 1) := by decide +kernel
theorem dX5_leastCost_31 : decode cX5_leastCost 31 = .ok (.sipush 1000, 3) := by decide +kernel
theorem dX5_leastCost_34 : decode cX5_leastCost 34 = .ok (.istore 5, 2) := by decide +kernel
theorem dX5_leastCost_36 : decode cX5_leastCost 36 = .ok (.iconst 0, 1) := by decide +kernel
theorem dX5_leastCost_37 : decode cX5_leastCost 37 = .ok (.istore 6, 2) := by decide +kernel
theorem dX5_leastCost_39 : decode cX5_leastCost 39 = .ok (.iload 6, 2) := by decide +kernel
theorem dX5_leastCost_41 : decode cX5_leastCost 41 = .ok (.iconst 5, 1) := by decide +kernel
theorem dX5_leastCost_42 : decode cX5_leastCost 42 = .ok (.if_icmp .ge 25, 3) := by decide +kernel
theorem dX5_leastCost_45 : decode cX5_leastCost 45 = .ok (.iload 5, 2) := by decide +kernel
theorem dX5_leastCost_47 : decode cX5_leastCost 47 = .ok (.aload_n 0, 1) := by decide +kernel
theorem dX5_leastCost_48 : decode cX5_leastCost 48 = .ok (.iload_n 1, 1) := by decide +kernel
theorem dX5_leastCost_49 : decode cX5_leastCost 49 = .ok (.iload_n 2, 1) := by decide +kernel
theorem dX5_leastCost_50 : decode cX5_leastCost 50 = .ok (.iload_n 3, 1) := by decide +kernel
theorem dX5_leastCost_51 : decode cX5_leastCost 51 = .ok (.iload 6, 2) := by decide +kernel
theorem dX5_leastCost_53 : decode cX5_leastCost 53 = .ok (.invokevirtual 64, 3) := by decide +kernel
theorem dX5_leastCost_56 : decode cX5_leastCost 56 = .ok (.invokestatic 37, 3) := by decide +kernel
theorem dX5_leastCost_59 : decode cX5_leastCost 59 = .ok (.istore 5, 2) := by decide +kernel
theorem dX5_leastCost_61 : decode cX5_leastCost 61 = .ok (.iinc 6 1, 3) := by decide +kernel
theorem dX5_leastCost_64 : decode cX5_leastCost 64 = .ok (.goto (-25), 3) := by decide +kernel
theorem dX5_leastCost_67 : decode cX5_leastCost 67 = .ok (.iload 5, 2) := by decide +kernel
theorem dX5_leastCost_69 : decode cX5_leastCost 69 = .ok (.ireturn, 1) := by decide +kernel
theorem dX5_bestChange_0 : decode cX5_bestChange 0 = .ok (.iconst 2, 1) := by decide +kernel
theorem dX5_bestChange_1 : decode cX5_bestChange 1 = .ok (.istore 4, 2) := by decide +kernel
theorem dX5_bestChange_3 : decode cX5_bestChange 3 = .ok (.sipush 1000, 3) := by decide +kernel
theorem dX5_bestChange_6 : decode cX5_bestChange 6 = .ok (.istore 5, 2) := by decide +kernel
theorem dX5_bestChange_8 : decode cX5_bestChange 8 = .ok (.iconst 0, 1) := by decide +kernel
theorem dX5_bestChange_9 : decode cX5_bestChange 9 = .ok (.istore 6, 2) := by decide +kernel
theorem dX5_bestChange_11 : decode cX5_bestChange 11 = .ok (.iload 6, 2) := by decide +kernel
theorem dX5_bestChange_13 : decode cX5_bestChange 13 = .ok (.iconst 5, 1) := by decide +kernel
theorem dX5_bestChange_14 : decode cX5_bestChange 14 = .ok (.if_icmp .ge 35, 3) := by decide +kernel
theorem dX5_bestChange_17 : decode cX5_bestChange 17 = .ok (.aload_n 0, 1) := by decide +kernel
theorem dX5_bestChange_18 : decode cX5_bestChange 18 = .ok (.iload_n 1, 1) := by decide +kernel
theorem dX5_bestChange_19 : decode cX5_bestChange 19 = .ok (.iload_n 2, 1) := by decide +kernel
theorem dX5_bestChange_20 : decode cX5_bestChange 20 = .ok (.iload_n 3, 1) := by decide +kernel
theorem dX5_bestChange_21 : decode cX5_bestChange 21 = .ok (.iload 6, 2) := by decide +kernel
theorem dX5_bestChange_23 : decode cX5_bestChange 23 = .ok (.invokevirtual 64, 3) := by decide +kernel
theorem dX5_bestChange_26 : decode cX5_bestChange 26 = .ok (.istore 7, 2) := by decide +kernel
theorem dX5_bestChange_28 : decode cX5_bestChange 28 = .ok (.iload 7, 2) := by decide +kernel
theorem dX5_bestChange_30 : decode cX5_bestChange 30 = .ok (.iload 5, 2) := by decide +kernel
theorem dX5_bestChange_32 : decode cX5_bestChange 32 = .ok (.if_icmp .ge 11, 3) := by decide +kernel
theorem dX5_bestChange_35 : decode cX5_bestChange 35 = .ok (.iload 6, 2) := by decide +kernel
theorem dX5_bestChange_37 : decode cX5_bestChange 37 = .ok (.istore 4, 2) := by decide +kernel
theorem dX5_bestChange_39 : decode cX5_bestChange 39 = .ok (.iload 7, 2) := by decide +kernel
theorem dX5_bestChange_41 : decode cX5_bestChange 41 = .ok (.istore 5, 2) := by decide +kernel
theorem dX5_bestChange_43 : decode cX5_bestChange 43 = .ok (.iinc 6 1, 3) := by decide +kernel
theorem dX5_bestChange_46 : decode cX5_bestChange 46 = .ok (.goto (-35), 3) := by decide +kernel
theorem dX5_bestChange_49 : decode cX5_bestChange 49 = .ok (.iload 4, 2) := by decide +kernel
theorem dX5_bestChange_51 : decode cX5_bestChange 51 = .ok (.ireturn, 1) := by decide +kernel
theorem dX5_costBy_0 : decode cX5_costBy 0 = .ok (.iload_n 2, 1) := by decide +kernel
theorem dX5_costBy_1 : decode cX5_costBy 1 = .ok (.iload 4, 2) := by decide +kernel
theorem dX5_costBy_3 : decode cX5_costBy 3 = .ok (.iadd, 1) := by decide +kernel
theorem dX5_costBy_4 : decode cX5_costBy 4 = .ok (.iconst 2, 1) := by decide +kernel
theorem dX5_costBy_5 : decode cX5_costBy 5 = .ok (.isub, 1) := by decide +kernel
theorem dX5_costBy_6 : decode cX5_costBy 6 = .ok (.istore 5, 2) := by decide +kernel
theorem dX5_costBy_8 : decode cX5_costBy 8 = .ok (.iload_n 1, 1) := by decide +kernel
theorem dX5_costBy_9 : decode cX5_costBy 9 = .ok (.iconst 1, 1) := by decide +kernel
theorem dX5_costBy_10 : decode cX5_costBy 10 = .ok (.iadd, 1) := by decide +kernel
theorem dX5_costBy_11 : decode cX5_costBy 11 = .ok (.iload 5, 2) := by decide +kernel
theorem dX5_costBy_13 : decode cX5_costBy 13 = .ok (.invokestatic 27, 3) := by decide +kernel
theorem dX5_costBy_16 : decode cX5_costBy 16 = .ok (.ifCond .ne 7, 3) := by decide +kernel
theorem dX5_costBy_19 : decode cX5_costBy 19 = .ok (.sipush 1000, 3) := by decide +kernel
theorem dX5_costBy_22 : decode cX5_costBy 22 = .ok (.ireturn, 1) := by decide +kernel
theorem dX5_costBy_23 : decode cX5_costBy 23 = .ok (.iload_n 3, 1) := by decide +kernel
theorem dX5_costBy_24 : decode cX5_costBy 24 = .ok (.iconst 5, 1) := by decide +kernel
theorem dX5_costBy_25 : decode cX5_costBy 25 = .ok (.if_icmp .ne 7, 3) := by decide +kernel
theorem dX5_costBy_28 : decode cX5_costBy 28 = .ok (.iconst 0, 1) := by decide +kernel
theorem dX5_costBy_29 : decode cX5_costBy 29 = .ok (.goto 10, 3) := by decide +kernel
theorem dX5_costBy_32 : decode cX5_costBy 32 = .ok (.iload 4, 2) := by decide +kernel
theorem dX5_costBy_34 : decode cX5_costBy 34 = .ok (.iload_n 3, 1) := by decide +kernel
theorem dX5_costBy_35 : decode cX5_costBy 35 = .ok (.isub, 1) := by decide +kernel
theorem dX5_costBy_36 : decode cX5_costBy 36 = .ok (.invokestatic 67, 3) := by decide +kernel
theorem dX5_costBy_39 : decode cX5_costBy 39 = .ok (.istore 6, 2) := by decide +kernel
theorem dX5_costBy_41 : decode cX5_costBy 41 = .ok (.iload 6, 2) := by decide +kernel
theorem dX5_costBy_43 : decode cX5_costBy 43 = .ok (.aload_n 0, 1) := by decide +kernel
theorem dX5_costBy_44 : decode cX5_costBy 44 = .ok (.getfield 18, 3) := by decide +kernel
theorem dX5_costBy_47 : decode cX5_costBy 47 = .ok (.iload_n 1, 1) := by decide +kernel
theorem dX5_costBy_48 : decode cX5_costBy 48 = .ok (.iconst 1, 1) := by decide +kernel
theorem dX5_costBy_49 : decode cX5_costBy 49 = .ok (.iadd, 1) := by decide +kernel
theorem dX5_costBy_50 : decode cX5_costBy 50 = .ok (.iload 5, 2) := by decide +kernel
theorem dX5_costBy_52 : decode cX5_costBy 52 = .ok (.iload 4, 2) := by decide +kernel
theorem dX5_costBy_54 : decode cX5_costBy 54 = .ok (.invokestatic 44, 3) := by decide +kernel
theorem dX5_costBy_57 : decode cX5_costBy 57 = .ok (.iaload, 1) := by decide +kernel
theorem dX5_costBy_58 : decode cX5_costBy 58 = .ok (.iadd, 1) := by decide +kernel
theorem dX5_costBy_59 : decode cX5_costBy 59 = .ok (.ireturn, 1) := by decide +kernel
theorem dX5_slotOf_0 : decode cX5_slotOf 0 = .ok (.bipush 6, 2) := by decide +kernel
theorem dX5_slotOf_2 : decode cX5_slotOf 2 = .ok (.bipush 12, 2) := by decide +kernel
theorem dX5_slotOf_4 : decode cX5_slotOf 4 = .ok (.iload_n 1, 1) := by decide +kernel
theorem dX5_slotOf_5 : decode cX5_slotOf 5 = .ok (.imul, 1) := by decide +kernel
theorem dX5_slotOf_6 : decode cX5_slotOf 6 = .ok (.iload_n 0, 1) := by decide +kernel
theorem dX5_slotOf_7 : decode cX5_slotOf 7 = .ok (.iadd, 1) := by decide +kernel
theorem dX5_slotOf_8 : decode cX5_slotOf 8 = .ok (.imul, 1) := by decide +kernel
theorem dX5_slotOf_9 : decode cX5_slotOf 9 = .ok (.iload_n 2, 1) := by decide +kernel
theorem dX5_slotOf_10 : decode cX5_slotOf 10 = .ok (.iadd, 1) := by decide +kernel
theorem dX5_slotOf_11 : decode cX5_slotOf 11 = .ok (.ireturn, 1) := by decide +kernel
theorem dX6_init_0 : decode cX6_init 0 = .ok (.aload_n 0, 1) := by decide +kernel
theorem dX6_init_1 : decode cX6_init 1 = .ok (.invokespecial 3, 3) := by decide +kernel
theorem dX6_init_4 : decode cX6_init 4 = .ok (.aload_n 0, 1) := by decide +kernel
theorem dX6_init_5 : decode cX6_init 5 = .ok (.iload_n 1, 1) := by decide +kernel
theorem dX6_init_6 : decode cX6_init 6 = .ok (.putfield 9, 3) := by decide +kernel
theorem dX6_init_9 : decode cX6_init 9 = .ok (.aload_n 0, 1) := by decide +kernel
theorem dX6_init_10 : decode cX6_init 10 = .ok (.iload_n 2, 1) := by decide +kernel
theorem dX6_init_11 : decode cX6_init 11 = .ok (.putfield 15, 3) := by decide +kernel
theorem dX6_init_14 : decode cX6_init 14 = .ok (.aload_n 0, 1) := by decide +kernel
theorem dX6_init_15 : decode cX6_init 15 = .ok (.iload_n 3, 1) := by decide +kernel
theorem dX6_init_16 : decode cX6_init 16 = .ok (.putfield 18, 3) := by decide +kernel
theorem dX6_init_19 : decode cX6_init 19 = .ok (.aload_n 0, 1) := by decide +kernel
theorem dX6_init_20 : decode cX6_init 20 = .ok (.iload 4, 2) := by decide +kernel
theorem dX6_init_22 : decode cX6_init 22 = .ok (.putfield 21, 3) := by decide +kernel
theorem dX6_init_25 : decode cX6_init 25 = .ok (.aload_n 0, 1) := by decide +kernel
theorem dX6_init_26 : decode cX6_init 26 = .ok (.iload 5, 2) := by decide +kernel
theorem dX6_init_28 : decode cX6_init 28 = .ok (.putfield 24, 3) := by decide +kernel
theorem dX6_init_31 : decode cX6_init 31 = .ok (.aload_n 0, 1) := by decide +kernel
theorem dX6_init_32 : decode cX6_init 32 = .ok (.iload 6, 2) := by decide +kernel
theorem dX6_init_34 : decode cX6_init 34 = .ok (.putfield 27, 3) := by decide +kernel
theorem dX6_init_37 : decode cX6_init 37 = .ok (.return_, 1) := by decide +kernel
theorem dX6_placeAt_0 : decode cX6_placeAt 0 = .ok (.aload_n 0, 1) := by decide +kernel
theorem dX6_placeAt_1 : decode cX6_placeAt 1 = .ok (.aload_n 0, 1) := by decide +kernel
theorem dX6_placeAt_2 : decode cX6_placeAt 2 = .ok (.getfield 15, 3) := by decide +kernel
theorem dX6_placeAt_5 : decode cX6_placeAt 5 = .ok (.aload_n 0, 1) := by decide +kernel
theorem dX6_placeAt_6 : decode cX6_placeAt 6 = .ok (.getfield 24, 3) := by decide +kernel
theorem dX6_placeAt_9 : decode cX6_placeAt 9 = .ok (.iload_n 1, 1) := by decide +kernel
theorem dX6_placeAt_10 : decode cX6_placeAt 10 = .ok (.invokevirtual 30, 3) := by decide +kernel
theorem dX6_placeAt_13 : decode cX6_placeAt 13 = .ok (.istore_n 2, 1) := by decide +kernel
theorem dX6_placeAt_14 : decode cX6_placeAt 14 = .ok (.aload_n 0, 1) := by decide +kernel
theorem dX6_placeAt_15 : decode cX6_placeAt 15 = .ok (.aload_n 0, 1) := by decide +kernel
theorem dX6_placeAt_16 : decode cX6_placeAt 16 = .ok (.getfield 18, 3) := by decide +kernel
theorem dX6_placeAt_19 : decode cX6_placeAt 19 = .ok (.aload_n 0, 1) := by decide +kernel
theorem dX6_placeAt_20 : decode cX6_placeAt 20 = .ok (.getfield 27, 3) := by decide +kernel
theorem dX6_placeAt_23 : decode cX6_placeAt 23 = .ok (.iload_n 1, 1) := by decide +kernel
theorem dX6_placeAt_24 : decode cX6_placeAt 24 = .ok (.invokevirtual 30, 3) := by decide +kernel
theorem dX6_placeAt_27 : decode cX6_placeAt 27 = .ok (.istore_n 3, 1) := by decide +kernel
theorem dX6_placeAt_28 : decode cX6_placeAt 28 = .ok (.iload_n 2, 1) := by decide +kernel
theorem dX6_placeAt_29 : decode cX6_placeAt 29 = .ok (.iload_n 3, 1) := by decide +kernel
theorem dX6_placeAt_30 : decode cX6_placeAt 30 = .ok (.invokestatic 34, 3) := by decide +kernel
theorem dX6_placeAt_33 : decode cX6_placeAt 33 = .ok (.ifCond .eq 12, 3) := by decide +kernel
theorem dX6_placeAt_36 : decode cX6_placeAt 36 = .ok (.bipush 12, 2) := by decide +kernel
theorem dX6_placeAt_38 : decode cX6_placeAt 38 = .ok (.iload_n 3, 1) := by decide +kernel
theorem dX6_placeAt_39 : decode cX6_placeAt 39 = .ok (.imul, 1) := by decide +kernel
theorem dX6_placeAt_40 : decode cX6_placeAt 40 = .ok (.iload_n 2, 1) := by decide +kernel
theorem dX6_placeAt_41 : decode cX6_placeAt 41 = .ok (.iadd, 1) := by decide +kernel
theorem dX6_placeAt_42 : decode cX6_placeAt 42 = .ok (.goto 5, 3) := by decide +kernel
theorem dX6_placeAt_45 : decode cX6_placeAt 45 = .ok (.bipush (-9), 2) := by decide +kernel
theorem dX6_placeAt_47 : decode cX6_placeAt 47 = .ok (.ireturn, 1) := by decide +kernel
theorem dX6_along_0 : decode cX6_along 0 = .ok (.aload_n 0, 1) := by decide +kernel
theorem dX6_along_1 : decode cX6_along 1 = .ok (.getfield 9, 3) := by decide +kernel
theorem dX6_along_4 : decode cX6_along 4 = .ok (.ifCond .ne 5, 3) := by decide +kernel
theorem dX6_along_7 : decode cX6_along 7 = .ok (.iload_n 1, 1) := by decide +kernel
theorem dX6_along_8 : decode cX6_along 8 = .ok (.ireturn, 1) := by decide +kernel
theorem dX6_along_9 : decode cX6_along 9 = .ok (.iload_n 1, 1) := by decide +kernel
theorem dX6_along_10 : decode cX6_along 10 = .ok (.iload_n 2, 1) := by decide +kernel
theorem dX6_along_11 : decode cX6_along 11 = .ok (.iload_n 3, 1) := by decide +kernel
theorem dX6_along_12 : decode cX6_along 12 = .ok (.imul, 1) := by decide +kernel
theorem dX6_along_13 : decode cX6_along 13 = .ok (.bipush 10, 2) := by decide +kernel
theorem dX6_along_15 : decode cX6_along 15 = .ok (.invokestatic 38, 3) := by decide +kernel
theorem dX6_along_18 : decode cX6_along 18 = .ok (.iadd, 1) := by decide +kernel
theorem dX6_along_19 : decode cX6_along 19 = .ok (.istore 4, 2) := by decide +kernel
theorem dX6_along_21 : decode cX6_along 21 = .ok (.aload_n 0, 1) := by decide +kernel
theorem dX6_along_22 : decode cX6_along 22 = .ok (.getfield 9, 3) := by decide +kernel
theorem dX6_along_25 : decode cX6_along 25 = .ok (.iconst 1, 1) := by decide +kernel
theorem dX6_along_26 : decode cX6_along 26 = .ok (.if_icmp .ne 6, 3) := by decide +kernel
theorem dX6_along_29 : decode cX6_along 29 = .ok (.iload 4, 2) := by decide +kernel
theorem dX6_along_31 : decode cX6_along 31 = .ok (.ireturn, 1) := by decide +kernel
theorem dX6_along_32 : decode cX6_along 32 = .ok (.iload 4, 2) := by decide +kernel
theorem dX6_along_34 : decode cX6_along 34 = .ok (.bipush 22, 2) := by decide +kernel
theorem dX6_along_36 : decode cX6_along 36 = .ok (.invokestatic 44, 3) := by decide +kernel
theorem dX6_along_39 : decode cX6_along 39 = .ok (.istore 5, 2) := by decide +kernel
theorem dX6_along_41 : decode cX6_along 41 = .ok (.iload 5, 2) := by decide +kernel
theorem dX6_along_43 : decode cX6_along 43 = .ok (.bipush 11, 2) := by decide +kernel
theorem dX6_along_45 : decode cX6_along 45 = .ok (.if_icmp .le 11, 3) := by decide +kernel
theorem dX6_along_48 : decode cX6_along 48 = .ok (.bipush 22, 2) := by decide +kernel
theorem dX6_along_50 : decode cX6_along 50 = .ok (.iload 5, 2) := by decide +kernel
theorem dX6_along_52 : decode cX6_along 52 = .ok (.isub, 1) := by decide +kernel
theorem dX6_along_53 : decode cX6_along 53 = .ok (.goto 5, 3) := by decide +kernel
theorem dX6_along_56 : decode cX6_along 56 = .ok (.iload 5, 2) := by decide +kernel
theorem dX6_along_58 : decode cX6_along 58 = .ok (.ireturn, 1) := by decide +kernel
theorem dX7_init_0 : decode cX7_init 0 = .ok (.aload_n 0, 1) := by decide +kernel
theorem dX7_init_1 : decode cX7_init 1 = .ok (.invokespecial 3, 3) := by decide +kernel
theorem dX7_init_4 : decode cX7_init 4 = .ok (.aload_n 0, 1) := by decide +kernel
theorem dX7_init_5 : decode cX7_init 5 = .ok (.iconst (-1), 1) := by decide +kernel
theorem dX7_init_6 : decode cX7_init 6 = .ok (.putfield 11, 3) := by decide +kernel
theorem dX7_init_9 : decode cX7_init 9 = .ok (.aload_n 0, 1) := by decide +kernel
theorem dX7_init_10 : decode cX7_init 10 = .ok (.iconst 0, 1) := by decide +kernel
theorem dX7_init_11 : decode cX7_init 11 = .ok (.putfield 15, 3) := by decide +kernel
theorem dX7_init_14 : decode cX7_init 14 = .ok (.aload_n 0, 1) := by decide +kernel
theorem dX7_init_15 : decode cX7_init 15 = .ok (.bipush 60, 2) := by decide +kernel
theorem dX7_init_17 : decode cX7_init 17 = .ok (.newarray .int, 2) := by decide +kernel
theorem dX7_init_19 : decode cX7_init 19 = .ok (.putfield 18, 3) := by decide +kernel
theorem dX7_init_22 : decode cX7_init 22 = .ok (.return_, 1) := by decide +kernel
theorem dX7_isEmpty_0 : decode cX7_isEmpty 0 = .ok (.aload_n 0, 1) := by decide +kernel
theorem dX7_isEmpty_1 : decode cX7_isEmpty 1 = .ok (.getfield 11, 3) := by decide +kernel
theorem dX7_isEmpty_4 : decode cX7_isEmpty 4 = .ok (.iconst (-1), 1) := by decide +kernel
theorem dX7_isEmpty_5 : decode cX7_isEmpty 5 = .ok (.if_icmp .ne 7, 3) := by decide +kernel
theorem dX7_isEmpty_8 : decode cX7_isEmpty 8 = .ok (.iconst 1, 1) := by decide +kernel
theorem dX7_isEmpty_9 : decode cX7_isEmpty 9 = .ok (.goto 4, 3) := by decide +kernel
theorem dX7_isEmpty_12 : decode cX7_isEmpty 12 = .ok (.iconst 0, 1) := by decide +kernel
theorem dX7_isEmpty_13 : decode cX7_isEmpty 13 = .ok (.ireturn, 1) := by decide +kernel
theorem dX7_renew_0 : decode cX7_renew 0 = .ok (.aload_n 0, 1) := by decide +kernel
theorem dX7_renew_1 : decode cX7_renew 1 = .ok (.iload_n 1, 1) := by decide +kernel
theorem dX7_renew_2 : decode cX7_renew 2 = .ok (.putfield 11, 3) := by decide +kernel
theorem dX7_renew_5 : decode cX7_renew 5 = .ok (.aload_n 0, 1) := by decide +kernel
theorem dX7_renew_6 : decode cX7_renew 6 = .ok (.iload_n 2, 1) := by decide +kernel
theorem dX7_renew_7 : decode cX7_renew 7 = .ok (.putfield 15, 3) := by decide +kernel
theorem dX7_renew_10 : decode cX7_renew 10 = .ok (.aload_n 0, 1) := by decide +kernel
theorem dX7_renew_11 : decode cX7_renew 11 = .ok (.getfield 18, 3) := by decide +kernel
theorem dX7_renew_14 : decode cX7_renew 14 = .ok (.iconst 0, 1) := by decide +kernel
theorem dX7_renew_15 : decode cX7_renew 15 = .ok (.invokestatic 22, 3) := by decide +kernel
theorem dX7_renew_18 : decode cX7_renew 18 = .ok (.return_, 1) := by decide +kernel
theorem dX7_drop_0 : decode cX7_drop 0 = .ok (.aload_n 0, 1) := by decide +kernel
theorem dX7_drop_1 : decode cX7_drop 1 = .ok (.iconst (-1), 1) := by decide +kernel
theorem dX7_drop_2 : decode cX7_drop 2 = .ok (.putfield 11, 3) := by decide +kernel
theorem dX7_drop_5 : decode cX7_drop 5 = .ok (.aload_n 0, 1) := by decide +kernel
theorem dX7_drop_6 : decode cX7_drop 6 = .ok (.iconst 0, 1) := by decide +kernel
theorem dX7_drop_7 : decode cX7_drop 7 = .ok (.putfield 15, 3) := by decide +kernel
theorem dX7_drop_10 : decode cX7_drop 10 = .ok (.return_, 1) := by decide +kernel
theorem dX7_write_0 : decode cX7_write 0 = .ok (.aload_n 0, 1) := by decide +kernel
theorem dX7_write_1 : decode cX7_write 1 = .ok (.getfield 11, 3) := by decide +kernel
theorem dX7_write_4 : decode cX7_write 4 = .ok (.lookupswitch 50 #[(0, 28), (1, 39)], 28) := by decide +kernel
theorem dX7_write_32 : decode cX7_write 32 = .ok (.aload_n 0, 1) := by decide +kernel
theorem dX7_write_33 : decode cX7_write 33 = .ok (.getfield 18, 3) := by decide +kernel
theorem dX7_write_36 : decode cX7_write 36 = .ok (.iload_n 1, 1) := by decide +kernel
theorem dX7_write_37 : decode cX7_write 37 = .ok (.iload_n 2, 1) := by decide +kernel
theorem dX7_write_38 : decode cX7_write 38 = .ok (.i2b, 1) := by decide +kernel
theorem dX7_write_39 : decode cX7_write 39 = .ok (.iastore, 1) := by decide +kernel
theorem dX7_write_40 : decode cX7_write 40 = .ok (.goto 21, 3) := by decide +kernel
theorem dX7_write_43 : decode cX7_write 43 = .ok (.aload_n 0, 1) := by decide +kernel
theorem dX7_write_44 : decode cX7_write 44 = .ok (.getfield 18, 3) := by decide +kernel
theorem dX7_write_47 : decode cX7_write 47 = .ok (.iload_n 1, 1) := by decide +kernel
theorem dX7_write_48 : decode cX7_write 48 = .ok (.iload_n 2, 1) := by decide +kernel
theorem dX7_write_49 : decode cX7_write 49 = .ok (.i2s, 1) := by decide +kernel
theorem dX7_write_50 : decode cX7_write 50 = .ok (.iastore, 1) := by decide +kernel
theorem dX7_write_51 : decode cX7_write 51 = .ok (.goto 10, 3) := by decide +kernel
theorem dX7_write_54 : decode cX7_write 54 = .ok (.aload_n 0, 1) := by decide +kernel
theorem dX7_write_55 : decode cX7_write 55 = .ok (.getfield 18, 3) := by decide +kernel
theorem dX7_write_58 : decode cX7_write 58 = .ok (.iload_n 1, 1) := by decide +kernel
theorem dX7_write_59 : decode cX7_write 59 = .ok (.iload_n 2, 1) := by decide +kernel
theorem dX7_write_60 : decode cX7_write 60 = .ok (.iastore, 1) := by decide +kernel
theorem dX7_write_61 : decode cX7_write 61 = .ok (.return_, 1) := by decide +kernel
theorem dX7_hasCells_0 : decode cX7_hasCells 0 = .ok (.iload_n 1, 1) := by decide +kernel
theorem dX7_hasCells_1 : decode cX7_hasCells 1 = .ok (.ifCond .lt 26, 3) := by decide +kernel
theorem dX7_hasCells_4 : decode cX7_hasCells 4 = .ok (.lload_n 2, 1) := by decide +kernel
theorem dX7_hasCells_5 : decode cX7_hasCells 5 = .ok (.lconst 0, 1) := by decide +kernel
theorem dX7_hasCells_6 : decode cX7_hasCells 6 = .ok (.lcmp, 1) := by decide +kernel
theorem dX7_hasCells_7 : decode cX7_hasCells 7 = .ok (.ifCond .lt 20, 3) := by decide +kernel
theorem dX7_hasCells_10 : decode cX7_hasCells 10 = .ok (.iload_n 1, 1) := by decide +kernel
theorem dX7_hasCells_11 : decode cX7_hasCells 11 = .ok (.i2l, 1) := by decide +kernel
theorem dX7_hasCells_12 : decode cX7_hasCells 12 = .ok (.lload_n 2, 1) := by decide +kernel
theorem dX7_hasCells_13 : decode cX7_hasCells 13 = .ok (.ladd, 1) := by decide +kernel
theorem dX7_hasCells_14 : decode cX7_hasCells 14 = .ok (.aload_n 0, 1) := by decide +kernel
theorem dX7_hasCells_15 : decode cX7_hasCells 15 = .ok (.getfield 15, 3) := by decide +kernel
theorem dX7_hasCells_18 : decode cX7_hasCells 18 = .ok (.i2l, 1) := by decide +kernel
theorem dX7_hasCells_19 : decode cX7_hasCells 19 = .ok (.lcmp, 1) := by decide +kernel
theorem dX7_hasCells_20 : decode cX7_hasCells 20 = .ok (.ifCond .gt 7, 3) := by decide +kernel
theorem dX7_hasCells_23 : decode cX7_hasCells 23 = .ok (.iconst 1, 1) := by decide +kernel
theorem dX7_hasCells_24 : decode cX7_hasCells 24 = .ok (.goto 4, 3) := by decide +kernel
theorem dX7_hasCells_27 : decode cX7_hasCells 27 = .ok (.iconst 0, 1) := by decide +kernel
theorem dX7_hasCells_28 : decode cX7_hasCells 28 = .ok (.ireturn, 1) := by decide +kernel
theorem dX7_faultOfTaking_0 : decode cX7_faultOfTaking 0 = .ok (.aload_n 0, 1) := by decide +kernel
theorem dX7_faultOfTaking_1 : decode cX7_faultOfTaking 1 = .ok (.invokevirtual 28, 3) := by decide +kernel
theorem dX7_faultOfTaking_4 : decode cX7_faultOfTaking 4 = .ok (.ifCond .ne 13, 3) := by decide +kernel
theorem dX7_faultOfTaking_7 : decode cX7_faultOfTaking 7 = .ok (.aload_n 0, 1) := by decide +kernel
theorem dX7_faultOfTaking_8 : decode cX7_faultOfTaking 8 = .ok (.getfield 11, 3) := by decide +kernel
theorem dX7_faultOfTaking_11 : decode cX7_faultOfTaking 11 = .ok (.iload_n 1, 1) := by decide +kernel
theorem dX7_faultOfTaking_12 : decode cX7_faultOfTaking 12 = .ok (.if_icmp .eq 5, 3) := by decide +kernel
theorem dX7_faultOfTaking_15 : decode cX7_faultOfTaking 15 = .ok (.iconst 2, 1) := by decide +kernel
theorem dX7_faultOfTaking_16 : decode cX7_faultOfTaking 16 = .ok (.ireturn, 1) := by decide +kernel
theorem dX7_faultOfTaking_17 : decode cX7_faultOfTaking 17 = .ok (.aload_n 0, 1) := by decide +kernel
theorem dX7_faultOfTaking_18 : decode cX7_faultOfTaking 18 = .ok (.invokevirtual 28, 3) := by decide +kernel
theorem dX7_faultOfTaking_21 : decode cX7_faultOfTaking 21 = .ok (.ifCond .eq 5, 3) := by decide +kernel
theorem dX7_faultOfTaking_24 : decode cX7_faultOfTaking 24 = .ok (.iconst 1, 1) := by decide +kernel
theorem dX7_faultOfTaking_25 : decode cX7_faultOfTaking 25 = .ok (.ireturn, 1) := by decide +kernel
theorem dX7_faultOfTaking_26 : decode cX7_faultOfTaking 26 = .ok (.lload_n 3, 1) := by decide +kernel
theorem dX7_faultOfTaking_27 : decode cX7_faultOfTaking 27 = .ok (.lconst 0, 1) := by decide +kernel
theorem dX7_faultOfTaking_28 : decode cX7_faultOfTaking 28 = .ok (.lcmp, 1) := by decide +kernel
theorem dX7_faultOfTaking_29 : decode cX7_faultOfTaking 29 = .ok (.ifCond .ge 5, 3) := by decide +kernel
theorem dX7_faultOfTaking_32 : decode cX7_faultOfTaking 32 = .ok (.iconst 4, 1) := by decide +kernel
theorem dX7_faultOfTaking_33 : decode cX7_faultOfTaking 33 = .ok (.ireturn, 1) := by decide +kernel
theorem dX7_faultOfTaking_34 : decode cX7_faultOfTaking 34 = .ok (.aload_n 0, 1) := by decide +kernel
theorem dX7_faultOfTaking_35 : decode cX7_faultOfTaking 35 = .ok (.iload_n 2, 1) := by decide +kernel
theorem dX7_faultOfTaking_36 : decode cX7_faultOfTaking 36 = .ok (.lload_n 3, 1) := by decide +kernel
theorem dX7_faultOfTaking_37 : decode cX7_faultOfTaking 37 = .ok (.invokevirtual 32, 3) := by decide +kernel
theorem dX7_faultOfTaking_40 : decode cX7_faultOfTaking 40 = .ok (.ifCond .eq 7, 3) := by decide +kernel
theorem dX7_faultOfTaking_43 : decode cX7_faultOfTaking 43 = .ok (.iconst 0, 1) := by decide +kernel
theorem dX7_faultOfTaking_44 : decode cX7_faultOfTaking 44 = .ok (.goto 4, 3) := by decide +kernel
theorem dX7_faultOfTaking_47 : decode cX7_faultOfTaking 47 = .ok (.iconst 3, 1) := by decide +kernel
theorem dX7_faultOfTaking_48 : decode cX7_faultOfTaking 48 = .ok (.ireturn, 1) := by decide +kernel
theorem dX8_init_0 : decode cX8_init 0 = .ok (.aload_n 0, 1) := by decide +kernel
theorem dX8_init_1 : decode cX8_init 1 = .ok (.invokespecial 3, 3) := by decide +kernel
theorem dX8_init_4 : decode cX8_init 4 = .ok (.aload_n 0, 1) := by decide +kernel
theorem dX8_init_5 : decode cX8_init 5 = .ok (.iload_n 1, 1) := by decide +kernel
theorem dX8_init_6 : decode cX8_init 6 = .ok (.putfield 9, 3) := by decide +kernel
theorem dX8_init_9 : decode cX8_init 9 = .ok (.aload_n 0, 1) := by decide +kernel
theorem dX8_init_10 : decode cX8_init 10 = .ok (.iload_n 2, 1) := by decide +kernel
theorem dX8_init_11 : decode cX8_init 11 = .ok (.putfield 15, 3) := by decide +kernel
theorem dX8_init_14 : decode cX8_init 14 = .ok (.aload_n 0, 1) := by decide +kernel
theorem dX8_init_15 : decode cX8_init 15 = .ok (.iload_n 3, 1) := by decide +kernel
theorem dX8_init_16 : decode cX8_init 16 = .ok (.putfield 18, 3) := by decide +kernel
theorem dX8_init_19 : decode cX8_init 19 = .ok (.aload_n 0, 1) := by decide +kernel
theorem dX8_init_20 : decode cX8_init 20 = .ok (.iload 4, 2) := by decide +kernel
theorem dX8_init_22 : decode cX8_init 22 = .ok (.putfield 21, 3) := by decide +kernel
theorem dX8_init_25 : decode cX8_init 25 = .ok (.aload_n 0, 1) := by decide +kernel
theorem dX8_init_26 : decode cX8_init 26 = .ok (.aload 5, 2) := by decide +kernel
theorem dX8_init_28 : decode cX8_init 28 = .ok (.putfield 24, 3) := by decide +kernel
theorem dX8_init_31 : decode cX8_init 31 = .ok (.aload_n 0, 1) := by decide +kernel
theorem dX8_init_32 : decode cX8_init 32 = .ok (.iconst 3, 1) := by decide +kernel
theorem dX8_init_33 : decode cX8_init 33 = .ok (.newarray .int, 2) := by decide +kernel
theorem dX8_init_35 : decode cX8_init 35 = .ok (.putfield 28, 3) := by decide +kernel
theorem dX8_init_38 : decode cX8_init 38 = .ok (.iconst 0, 1) := by decide +kernel
theorem dX8_init_39 : decode cX8_init 39 = .ok (.istore 6, 2) := by decide +kernel
theorem dX8_init_41 : decode cX8_init 41 = .ok (.iload 6, 2) := by decide +kernel
theorem dX8_init_43 : decode cX8_init 43 = .ok (.iconst 3, 1) := by decide +kernel
theorem dX8_init_44 : decode cX8_init 44 = .ok (.if_icmp .ge 22, 3) := by decide +kernel
theorem dX8_init_47 : decode cX8_init 47 = .ok (.aload_n 0, 1) := by decide +kernel
theorem dX8_init_48 : decode cX8_init 48 = .ok (.getfield 28, 3) := by decide +kernel
theorem dX8_init_51 : decode cX8_init 51 = .ok (.iload 6, 2) := by decide +kernel
theorem dX8_init_53 : decode cX8_init 53 = .ok (.aload_n 0, 1) := by decide +kernel
theorem dX8_init_54 : decode cX8_init 54 = .ok (.iload 6, 2) := by decide +kernel
theorem dX8_init_56 : decode cX8_init 56 = .ok (.invokevirtual 31, 3) := by decide +kernel
theorem dX8_init_59 : decode cX8_init 59 = .ok (.iastore, 1) := by decide +kernel
theorem dX8_init_60 : decode cX8_init 60 = .ok (.iinc 6 1, 3) := by decide +kernel
theorem dX8_init_63 : decode cX8_init 63 = .ok (.goto (-22), 3) := by decide +kernel
theorem dX8_init_66 : decode cX8_init 66 = .ok (.return_, 1) := by decide +kernel
theorem dX8_countRight_0 : decode cX8_countRight 0 = .ok (.iconst 0, 1) := by decide +kernel
theorem dX8_countRight_1 : decode cX8_countRight 1 = .ok (.istore_n 2, 1) := by decide +kernel
theorem dX8_countRight_2 : decode cX8_countRight 2 = .ok (.aload_n 0, 1) := by decide +kernel
theorem dX8_countRight_3 : decode cX8_countRight 3 = .ok (.iload_n 1, 1) := by decide +kernel
theorem dX8_countRight_4 : decode cX8_countRight 4 = .ok (.invokevirtual 35, 3) := by decide +kernel
theorem dX8_countRight_7 : decode cX8_countRight 7 = .ok (.istore_n 3, 1) := by decide +kernel
theorem dX8_countRight_8 : decode cX8_countRight 8 = .ok (.iconst 0, 1) := by decide +kernel
theorem dX8_countRight_9 : decode cX8_countRight 9 = .ok (.istore 4, 2) := by decide +kernel
theorem dX8_countRight_11 : decode cX8_countRight 11 = .ok (.iload 4, 2) := by decide +kernel
theorem dX8_countRight_13 : decode cX8_countRight 13 = .ok (.iload_n 3, 1) := by decide +kernel
theorem dX8_countRight_14 : decode cX8_countRight 14 = .ok (.if_icmp .ge 24, 3) := by decide +kernel
theorem dX8_countRight_17 : decode cX8_countRight 17 = .ok (.aload_n 0, 1) := by decide +kernel
theorem dX8_countRight_18 : decode cX8_countRight 18 = .ok (.iload_n 1, 1) := by decide +kernel
theorem dX8_countRight_19 : decode cX8_countRight 19 = .ok (.iload 4, 2) := by decide +kernel
theorem dX8_countRight_21 : decode cX8_countRight 21 = .ok (.invokevirtual 38, 3) := by decide +kernel
theorem dX8_countRight_24 : decode cX8_countRight 24 = .ok (.bipush (-9), 2) := by decide +kernel
theorem dX8_countRight_26 : decode cX8_countRight 26 = .ok (.if_icmp .eq 6, 3) := by decide +kernel
theorem dX8_countRight_29 : decode cX8_countRight 29 = .ok (.iinc 2 1, 3) := by decide +kernel
theorem dX8_countRight_32 : decode cX8_countRight 32 = .ok (.iinc 4 1, 3) := by decide +kernel
theorem dX8_countRight_35 : decode cX8_countRight 35 = .ok (.goto (-24), 3) := by decide +kernel
theorem dX8_countRight_38 : decode cX8_countRight 38 = .ok (.iload_n 2, 1) := by decide +kernel
theorem dX8_countRight_39 : decode cX8_countRight 39 = .ok (.ireturn, 1) := by decide +kernel
theorem dX8_readingAt_0 : decode cX8_readingAt 0 = .ok (.iconst 0, 1) := by decide +kernel
theorem dX8_readingAt_1 : decode cX8_readingAt 1 = .ok (.istore_n 3, 1) := by decide +kernel
theorem dX8_readingAt_2 : decode cX8_readingAt 2 = .ok (.aload_n 0, 1) := by decide +kernel
theorem dX8_readingAt_3 : decode cX8_readingAt 3 = .ok (.iload_n 1, 1) := by decide +kernel
theorem dX8_readingAt_4 : decode cX8_readingAt 4 = .ok (.invokevirtual 35, 3) := by decide +kernel
theorem dX8_readingAt_7 : decode cX8_readingAt 7 = .ok (.istore 4, 2) := by decide +kernel
theorem dX8_readingAt_9 : decode cX8_readingAt 9 = .ok (.iconst 0, 1) := by decide +kernel
theorem dX8_readingAt_10 : decode cX8_readingAt 10 = .ok (.istore 5, 2) := by decide +kernel
theorem dX8_readingAt_12 : decode cX8_readingAt 12 = .ok (.iload 5, 2) := by decide +kernel
theorem dX8_readingAt_14 : decode cX8_readingAt 14 = .ok (.iload 4, 2) := by decide +kernel
theorem dX8_readingAt_16 : decode cX8_readingAt 16 = .ok (.if_icmp .ge 36, 3) := by decide +kernel
theorem dX8_readingAt_19 : decode cX8_readingAt 19 = .ok (.aload_n 0, 1) := by decide +kernel
theorem dX8_readingAt_20 : decode cX8_readingAt 20 = .ok (.iload_n 1, 1) := by decide +kernel
theorem dX8_readingAt_21 : decode cX8_readingAt 21 = .ok (.iload 5, 2) := by decide +kernel
theorem dX8_readingAt_23 : decode cX8_readingAt 23 = .ok (.invokevirtual 38, 3) := by decide +kernel
theorem dX8_readingAt_26 : decode cX8_readingAt 26 = .ok (.istore 6, 2) := by decide +kernel
theorem dX8_readingAt_28 : decode cX8_readingAt 28 = .ok (.iload 6, 2) := by decide +kernel
theorem dX8_readingAt_30 : decode cX8_readingAt 30 = .ok (.bipush (-9), 2) := by decide +kernel
theorem dX8_readingAt_32 : decode cX8_readingAt 32 = .ok (.if_icmp .eq 14, 3) := by decide +kernel
theorem dX8_readingAt_35 : decode cX8_readingAt 35 = .ok (.iload_n 3, 1) := by decide +kernel
theorem dX8_readingAt_36 : decode cX8_readingAt 36 = .ok (.iload_n 2, 1) := by decide +kernel
theorem dX8_readingAt_37 : decode cX8_readingAt 37 = .ok (.if_icmp .ne 6, 3) := by decide +kernel
theorem dX8_readingAt_40 : decode cX8_readingAt 40 = .ok (.iload 6, 2) := by decide +kernel
theorem dX8_readingAt_42 : decode cX8_readingAt 42 = .ok (.ireturn, 1) := by decide +kernel
theorem dX8_readingAt_43 : decode cX8_readingAt 43 = .ok (.iinc 3 1, 3) := by decide +kernel
theorem dX8_readingAt_46 : decode cX8_readingAt 46 = .ok (.iinc 5 1, 3) := by decide +kernel
theorem dX8_readingAt_49 : decode cX8_readingAt 49 = .ok (.goto (-37), 3) := by decide +kernel
theorem dX8_readingAt_52 : decode cX8_readingAt 52 = .ok (.bipush (-9), 2) := by decide +kernel
theorem dX8_readingAt_54 : decode cX8_readingAt 54 = .ok (.ireturn, 1) := by decide +kernel
theorem dX8_nearestPress_0 : decode cX8_nearestPress 0 = .ok (.bipush (-9), 2) := by decide +kernel
theorem dX8_nearestPress_2 : decode cX8_nearestPress 2 = .ok (.istore_n 2, 1) := by decide +kernel
theorem dX8_nearestPress_3 : decode cX8_nearestPress 3 = .ok (.iconst 0, 1) := by decide +kernel
theorem dX8_nearestPress_4 : decode cX8_nearestPress 4 = .ok (.istore_n 3, 1) := by decide +kernel
theorem dX8_nearestPress_5 : decode cX8_nearestPress 5 = .ok (.aload_n 0, 1) := by decide +kernel
theorem dX8_nearestPress_6 : decode cX8_nearestPress 6 = .ok (.iconst 1, 1) := by decide +kernel
theorem dX8_nearestPress_7 : decode cX8_nearestPress 7 = .ok (.invokevirtual 35, 3) := by decide +kernel
theorem dX8_nearestPress_10 : decode cX8_nearestPress 10 = .ok (.istore 4, 2) := by decide +kernel
theorem dX8_nearestPress_12 : decode cX8_nearestPress 12 = .ok (.iconst 0, 1) := by decide +kernel
theorem dX8_nearestPress_13 : decode cX8_nearestPress 13 = .ok (.istore 5, 2) := by decide +kernel
theorem dX8_nearestPress_15 : decode cX8_nearestPress 15 = .ok (.iload 5, 2) := by decide +kernel
theorem dX8_nearestPress_17 : decode cX8_nearestPress 17 = .ok (.iload 4, 2) := by decide +kernel
theorem dX8_nearestPress_19 : decode cX8_nearestPress 19 = .ok (.if_icmp .ge 56, 3) := by decide +kernel
theorem dX8_nearestPress_22 : decode cX8_nearestPress 22 = .ok (.aload_n 0, 1) := by decide +kernel
theorem dX8_nearestPress_23 : decode cX8_nearestPress 23 = .ok (.iconst 1, 1) := by decide +kernel
theorem dX8_nearestPress_24 : decode cX8_nearestPress 24 = .ok (.iload 5, 2) := by decide +kernel
theorem dX8_nearestPress_26 : decode cX8_nearestPress 26 = .ok (.invokevirtual 38, 3) := by decide +kernel
theorem dX8_nearestPress_29 : decode cX8_nearestPress 29 = .ok (.istore 6, 2) := by decide +kernel
theorem dX8_nearestPress_31 : decode cX8_nearestPress 31 = .ok (.iload 6, 2) := by decide +kernel
theorem dX8_nearestPress_33 : decode cX8_nearestPress 33 = .ok (.bipush (-9), 2) := by decide +kernel
theorem dX8_nearestPress_35 : decode cX8_nearestPress 35 = .ok (.if_icmp .eq 34, 3) := by decide +kernel
theorem dX8_nearestPress_38 : decode cX8_nearestPress 38 = .ok (.aload_n 0, 1) := by decide +kernel
theorem dX8_nearestPress_39 : decode cX8_nearestPress 39 = .ok (.iload 6, 2) := by decide +kernel
theorem dX8_nearestPress_41 : decode cX8_nearestPress 41 = .ok (.invokevirtual 42, 3) := by decide +kernel
theorem dX8_nearestPress_44 : decode cX8_nearestPress 44 = .ok (.iload_n 1, 1) := by decide +kernel
theorem dX8_nearestPress_45 : decode cX8_nearestPress 45 = .ok (.isub, 1) := by decide +kernel
theorem dX8_nearestPress_46 : decode cX8_nearestPress 46 = .ok (.invokestatic 45, 3) := by decide +kernel
theorem dX8_nearestPress_49 : decode cX8_nearestPress 49 = .ok (.istore 7, 2) := by decide +kernel
theorem dX8_nearestPress_51 : decode cX8_nearestPress 51 = .ok (.iload_n 2, 1) := by decide +kernel
theorem dX8_nearestPress_52 : decode cX8_nearestPress 52 = .ok (.bipush (-9), 2) := by decide +kernel
theorem dX8_nearestPress_54 : decode cX8_nearestPress 54 = .ok (.if_icmp .eq 9, 3) := by decide +kernel
theorem dX8_nearestPress_57 : decode cX8_nearestPress 57 = .ok (.iload 7, 2) := by decide +kernel
theorem dX8_nearestPress_59 : decode cX8_nearestPress 59 = .ok (.iload_n 3, 1) := by decide +kernel
theorem dX8_nearestPress_60 : decode cX8_nearestPress 60 = .ok (.if_icmp .ge 9, 3) := by decide +kernel
theorem dX8_nearestPress_63 : decode cX8_nearestPress 63 = .ok (.iload 6, 2) := by decide +kernel
theorem dX8_nearestPress_65 : decode cX8_nearestPress 65 = .ok (.istore_n 2, 1) := by decide +kernel
theorem dX8_nearestPress_66 : decode cX8_nearestPress 66 = .ok (.iload 7, 2) := by decide +kernel
theorem dX8_nearestPress_68 : decode cX8_nearestPress 68 = .ok (.istore_n 3, 1) := by decide +kernel
theorem dX8_nearestPress_69 : decode cX8_nearestPress 69 = .ok (.iinc 5 1, 3) := by decide +kernel
theorem dX8_nearestPress_72 : decode cX8_nearestPress 72 = .ok (.goto (-57), 3) := by decide +kernel
theorem dX8_nearestPress_75 : decode cX8_nearestPress 75 = .ok (.iload_n 2, 1) := by decide +kernel
theorem dX8_nearestPress_76 : decode cX8_nearestPress 76 = .ok (.ireturn, 1) := by decide +kernel
theorem dX8_levelOf_0 : decode cX8_levelOf 0 = .ok (.iload_n 1, 1) := by decide +kernel
theorem dX8_levelOf_1 : decode cX8_levelOf 1 = .ok (.bipush 100, 2) := by decide +kernel
theorem dX8_levelOf_3 : decode cX8_levelOf 3 = .ok (.idiv, 1) := by decide +kernel
theorem dX8_levelOf_4 : decode cX8_levelOf 4 = .ok (.istore_n 2, 1) := by decide +kernel
theorem dX8_levelOf_5 : decode cX8_levelOf 5 = .ok (.iload_n 2, 1) := by decide +kernel
theorem dX8_levelOf_6 : decode cX8_levelOf 6 = .ok (.sipush 500, 3) := by decide +kernel
theorem dX8_levelOf_9 : decode cX8_levelOf 9 = .ok (.if_icmp .ge 11, 3) := by decide +kernel
theorem dX8_levelOf_12 : decode cX8_levelOf 12 = .ok (.sipush 10000, 3) := by decide +kernel
theorem dX8_levelOf_15 : decode cX8_levelOf 15 = .ok (.iload_n 2, 1) := by decide +kernel
theorem dX8_levelOf_16 : decode cX8_levelOf 16 = .ok (.iadd, 1) := by decide +kernel
theorem dX8_levelOf_17 : decode cX8_levelOf 17 = .ok (.goto 8, 3) := by decide +kernel
theorem dX8_levelOf_20 : decode cX8_levelOf 20 = .ok (.sipush 9000, 3) := by decide +kernel
theorem dX8_levelOf_23 : decode cX8_levelOf 23 = .ok (.iload_n 2, 1) := by decide +kernel
theorem dX8_levelOf_24 : decode cX8_levelOf 24 = .ok (.iadd, 1) := by decide +kernel
theorem dX8_levelOf_25 : decode cX8_levelOf 25 = .ok (.istore_n 3, 1) := by decide +kernel
theorem dX8_levelOf_26 : decode cX8_levelOf 26 = .ok (.iload_n 3, 1) := by decide +kernel
theorem dX8_levelOf_27 : decode cX8_levelOf 27 = .ok (.bipush 12, 2) := by decide +kernel
theorem dX8_levelOf_29 : decode cX8_levelOf 29 = .ok (.aload_n 0, 1) := by decide +kernel
theorem dX8_levelOf_30 : decode cX8_levelOf 30 = .ok (.getfield 15, 3) := by decide +kernel
theorem dX8_levelOf_33 : decode cX8_levelOf 33 = .ok (.imul, 1) := by decide +kernel
theorem dX8_levelOf_34 : decode cX8_levelOf 34 = .ok (.bipush 100, 2) := by decide +kernel
theorem dX8_levelOf_36 : decode cX8_levelOf 36 = .ok (.invokestatic 50, 3) := by decide +kernel
theorem dX8_levelOf_39 : decode cX8_levelOf 39 = .ok (.iadd, 1) := by decide +kernel
theorem dX8_levelOf_40 : decode cX8_levelOf 40 = .ok (.ireturn, 1) := by decide +kernel
theorem dX8_countFillings_0 : decode cX8_countFillings 0 = .ok (.iconst 1, 1) := by decide +kernel
theorem dX8_countFillings_1 : decode cX8_countFillings 1 = .ok (.istore_n 2, 1) := by decide +kernel
theorem dX8_countFillings_2 : decode cX8_countFillings 2 = .ok (.iconst 0, 1) := by decide +kernel
theorem dX8_countFillings_3 : decode cX8_countFillings 3 = .ok (.istore_n 3, 1) := by decide +kernel
theorem dX8_countFillings_4 : decode cX8_countFillings 4 = .ok (.iload_n 3, 1) := by decide +kernel
theorem dX8_countFillings_5 : decode cX8_countFillings 5 = .ok (.iconst 4, 1) := by decide +kernel
theorem dX8_countFillings_6 : decode cX8_countFillings 6 = .ok (.if_icmp .ge 27, 3) := by decide +kernel
theorem dX8_countFillings_9 : decode cX8_countFillings 9 = .ok (.aload_n 0, 1) := by decide +kernel
theorem dX8_countFillings_10 : decode cX8_countFillings 10 = .ok (.getfield 24, 3) := by decide +kernel
theorem dX8_countFillings_13 : decode cX8_countFillings 13 = .ok (.iconst 5, 1) := by decide +kernel
theorem dX8_countFillings_14 : decode cX8_countFillings 14 = .ok (.iload_n 1, 1) := by decide +kernel
theorem dX8_countFillings_15 : decode cX8_countFillings 15 = .ok (.imul, 1) := by decide +kernel
theorem dX8_countFillings_16 : decode cX8_countFillings 16 = .ok (.iload_n 3, 1) := by decide +kernel
theorem dX8_countFillings_17 : decode cX8_countFillings 17 = .ok (.iadd, 1) := by decide +kernel
theorem dX8_countFillings_18 : decode cX8_countFillings 18 = .ok (.iaload, 1) := by decide +kernel
theorem dX8_countFillings_19 : decode cX8_countFillings 19 = .ok (.ifCond .ge 8, 3) := by decide +kernel
theorem dX8_countFillings_22 : decode cX8_countFillings 22 = .ok (.iload_n 2, 1) := by decide +kernel
theorem dX8_countFillings_23 : decode cX8_countFillings 23 = .ok (.bipush 10, 2) := by decide +kernel
theorem dX8_countFillings_25 : decode cX8_countFillings 25 = .ok (.imul, 1) := by decide +kernel
theorem dX8_countFillings_26 : decode cX8_countFillings 26 = .ok (.istore_n 2, 1) := by decide +kernel
theorem dX8_countFillings_27 : decode cX8_countFillings 27 = .ok (.iinc 3 1, 3) := by decide +kernel
theorem dX8_countFillings_30 : decode cX8_countFillings 30 = .ok (.goto (-26), 3) := by decide +kernel
theorem dX8_countFillings_33 : decode cX8_countFillings 33 = .ok (.iload_n 2, 1) := by decide +kernel
theorem dX8_countFillings_34 : decode cX8_countFillings 34 = .ok (.ireturn, 1) := by decide +kernel
theorem dX8_filled_0 : decode cX8_filled 0 = .ok (.iconst 5, 1) := by decide +kernel
theorem dX8_filled_1 : decode cX8_filled 1 = .ok (.iload_n 1, 1) := by decide +kernel
theorem dX8_filled_2 : decode cX8_filled 2 = .ok (.imul, 1) := by decide +kernel
theorem dX8_filled_3 : decode cX8_filled 3 = .ok (.istore_n 3, 1) := by decide +kernel
theorem dX8_filled_4 : decode cX8_filled 4 = .ok (.iload_n 2, 1) := by decide +kernel
theorem dX8_filled_5 : decode cX8_filled 5 = .ok (.istore 4, 2) := by decide +kernel
theorem dX8_filled_7 : decode cX8_filled 7 = .ok (.iconst 0, 1) := by decide +kernel
theorem dX8_filled_8 : decode cX8_filled 8 = .ok (.istore 5, 2) := by decide +kernel
theorem dX8_filled_10 : decode cX8_filled 10 = .ok (.iconst 1, 1) := by decide +kernel
theorem dX8_filled_11 : decode cX8_filled 11 = .ok (.istore 6, 2) := by decide +kernel
theorem dX8_filled_13 : decode cX8_filled 13 = .ok (.iconst 0, 1) := by decide +kernel
theorem dX8_filled_14 : decode cX8_filled 14 = .ok (.istore 7, 2) := by decide +kernel
theorem dX8_filled_16 : decode cX8_filled 16 = .ok (.iconst 3, 1) := by decide +kernel
theorem dX8_filled_17 : decode cX8_filled 17 = .ok (.istore 8, 2) := by decide +kernel
theorem dX8_filled_19 : decode cX8_filled 19 = .ok (.iload 8, 2) := by decide +kernel
theorem dX8_filled_21 : decode cX8_filled 21 = .ok (.ifCond .lt 77, 3) := by decide +kernel
theorem dX8_filled_24 : decode cX8_filled 24 = .ok (.aload_n 0, 1) := by decide +kernel
theorem dX8_filled_25 : decode cX8_filled 25 = .ok (.getfield 24, 3) := by decide +kernel
theorem dX8_filled_28 : decode cX8_filled 28 = .ok (.iload_n 3, 1) := by decide +kernel
theorem dX8_filled_29 : decode cX8_filled 29 = .ok (.iload 8, 2) := by decide +kernel
theorem dX8_filled_31 : decode cX8_filled 31 = .ok (.iadd, 1) := by decide +kernel
theorem dX8_filled_32 : decode cX8_filled 32 = .ok (.iaload, 1) := by decide +kernel
theorem dX8_filled_33 : decode cX8_filled 33 = .ok (.istore 9, 2) := by decide +kernel
theorem dX8_filled_35 : decode cX8_filled 35 = .ok (.iload 9, 2) := by decide +kernel
theorem dX8_filled_37 : decode cX8_filled 37 = .ok (.ifCond .ge 17, 3) := by decide +kernel
theorem dX8_filled_40 : decode cX8_filled 40 = .ok (.iload 4, 2) := by decide +kernel
theorem dX8_filled_42 : decode cX8_filled 42 = .ok (.bipush 10, 2) := by decide +kernel
theorem dX8_filled_44 : decode cX8_filled 44 = .ok (.irem, 1) := by decide +kernel
theorem dX8_filled_45 : decode cX8_filled 45 = .ok (.istore 9, 2) := by decide +kernel
theorem dX8_filled_47 : decode cX8_filled 47 = .ok (.iload 4, 2) := by decide +kernel
theorem dX8_filled_49 : decode cX8_filled 49 = .ok (.bipush 10, 2) := by decide +kernel
theorem dX8_filled_51 : decode cX8_filled 51 = .ok (.idiv, 1) := by decide +kernel
theorem dX8_filled_52 : decode cX8_filled 52 = .ok (.istore 4, 2) := by decide +kernel
theorem dX8_filled_54 : decode cX8_filled 54 = .ok (.iload 5, 2) := by decide +kernel
theorem dX8_filled_56 : decode cX8_filled 56 = .ok (.iload 6, 2) := by decide +kernel
theorem dX8_filled_58 : decode cX8_filled 58 = .ok (.iload 9, 2) := by decide +kernel
theorem dX8_filled_60 : decode cX8_filled 60 = .ok (.imul, 1) := by decide +kernel
theorem dX8_filled_61 : decode cX8_filled 61 = .ok (.iadd, 1) := by decide +kernel
theorem dX8_filled_62 : decode cX8_filled 62 = .ok (.istore 5, 2) := by decide +kernel
theorem dX8_filled_64 : decode cX8_filled 64 = .ok (.iload 6, 2) := by decide +kernel
theorem dX8_filled_66 : decode cX8_filled 66 = .ok (.bipush 10, 2) := by decide +kernel
theorem dX8_filled_68 : decode cX8_filled 68 = .ok (.imul, 1) := by decide +kernel
theorem dX8_filled_69 : decode cX8_filled 69 = .ok (.istore 6, 2) := by decide +kernel
theorem dX8_filled_71 : decode cX8_filled 71 = .ok (.iload 7, 2) := by decide +kernel
theorem dX8_filled_73 : decode cX8_filled 73 = .ok (.iload 8, 2) := by decide +kernel
theorem dX8_filled_75 : decode cX8_filled 75 = .ok (.iconst 2, 1) := by decide +kernel
theorem dX8_filled_76 : decode cX8_filled 76 = .ok (.irem, 1) := by decide +kernel
theorem dX8_filled_77 : decode cX8_filled 77 = .ok (.ifCond .ne 8, 3) := by decide +kernel
theorem dX8_filled_80 : decode cX8_filled 80 = .ok (.iload 9, 2) := by decide +kernel
theorem dX8_filled_82 : decode cX8_filled 82 = .ok (.goto 7, 3) := by decide +kernel
theorem dX8_filled_85 : decode cX8_filled 85 = .ok (.iconst 3, 1) := by decide +kernel
theorem dX8_filled_86 : decode cX8_filled 86 = .ok (.iload 9, 2) := by decide +kernel
theorem dX8_filled_88 : decode cX8_filled 88 = .ok (.imul, 1) := by decide +kernel
theorem dX8_filled_89 : decode cX8_filled 89 = .ok (.iadd, 1) := by decide +kernel
theorem dX8_filled_90 : decode cX8_filled 90 = .ok (.istore 7, 2) := by decide +kernel
theorem dX8_filled_92 : decode cX8_filled 92 = .ok (.iinc 8 (-1), 3) := by decide +kernel
theorem dX8_filled_95 : decode cX8_filled 95 = .ok (.goto (-76), 3) := by decide +kernel
theorem dX8_filled_98 : decode cX8_filled 98 = .ok (.aload_n 0, 1) := by decide +kernel
theorem dX8_filled_99 : decode cX8_filled 99 = .ok (.getfield 24, 3) := by decide +kernel
theorem dX8_filled_102 : decode cX8_filled 102 = .ok (.iload_n 3, 1) := by decide +kernel
theorem dX8_filled_103 : decode cX8_filled 103 = .ok (.iconst 5, 1) := by decide +kernel
theorem dX8_filled_104 : decode cX8_filled 104 = .ok (.iadd, 1) := by decide +kernel
theorem dX8_filled_105 : decode cX8_filled 105 = .ok (.iconst 1, 1) := by decide +kernel
theorem dX8_filled_106 : decode cX8_filled 106 = .ok (.isub, 1) := by decide +kernel
theorem dX8_filled_107 : decode cX8_filled 107 = .ok (.iaload, 1) := by decide +kernel
theorem dX8_filled_108 : decode cX8_filled 108 = .ok (.istore 8, 2) := by decide +kernel
theorem dX8_filled_110 : decode cX8_filled 110 = .ok (.iload 8, 2) := by decide +kernel
theorem dX8_filled_112 : decode cX8_filled 112 = .ok (.ifCond .lt 16, 3) := by decide +kernel
theorem dX8_filled_115 : decode cX8_filled 115 = .ok (.iload 8, 2) := by decide +kernel
theorem dX8_filled_117 : decode cX8_filled 117 = .ok (.iload 7, 2) := by decide +kernel
theorem dX8_filled_119 : decode cX8_filled 119 = .ok (.bipush 10, 2) := by decide +kernel
theorem dX8_filled_121 : decode cX8_filled 121 = .ok (.irem, 1) := by decide +kernel
theorem dX8_filled_122 : decode cX8_filled 122 = .ok (.if_icmp .eq 6, 3) := by decide +kernel
theorem dX8_filled_125 : decode cX8_filled 125 = .ok (.bipush (-9), 2) := by decide +kernel
theorem dX8_filled_127 : decode cX8_filled 127 = .ok (.ireturn, 1) := by decide +kernel
theorem dX8_filled_128 : decode cX8_filled 128 = .ok (.iload_n 1, 1) := by decide +kernel
theorem dX8_filled_129 : decode cX8_filled 129 = .ok (.ifCond .ne 16, 3) := by decide +kernel
theorem dX8_filled_132 : decode cX8_filled 132 = .ok (.iload 5, 2) := by decide +kernel
theorem dX8_filled_134 : decode cX8_filled 134 = .ok (.bipush 100, 2) := by decide +kernel
theorem dX8_filled_136 : decode cX8_filled 136 = .ok (.idiv, 1) := by decide +kernel
theorem dX8_filled_137 : decode cX8_filled 137 = .ok (.bipush 36, 2) := by decide +kernel
theorem dX8_filled_139 : decode cX8_filled 139 = .ok (.if_icmp .le 6, 3) := by decide +kernel
theorem dX8_filled_142 : decode cX8_filled 142 = .ok (.bipush (-9), 2) := by decide +kernel
theorem dX8_filled_144 : decode cX8_filled 144 = .ok (.ireturn, 1) := by decide +kernel
theorem dX8_filled_145 : decode cX8_filled 145 = .ok (.bipush 10, 2) := by decide +kernel
theorem dX8_filled_147 : decode cX8_filled 147 = .ok (.iload 5, 2) := by decide +kernel
theorem dX8_filled_149 : decode cX8_filled 149 = .ok (.imul, 1) := by decide +kernel
theorem dX8_filled_150 : decode cX8_filled 150 = .ok (.iload 7, 2) := by decide +kernel
theorem dX8_filled_152 : decode cX8_filled 152 = .ok (.bipush 10, 2) := by decide +kernel
theorem dX8_filled_154 : decode cX8_filled 154 = .ok (.irem, 1) := by decide +kernel
theorem dX8_filled_155 : decode cX8_filled 155 = .ok (.iadd, 1) := by decide +kernel
theorem dX8_filled_156 : decode cX8_filled 156 = .ok (.ireturn, 1) := by decide +kernel
theorem dX9_init_0 : decode cX9_init 0 = .ok (.aload_n 0, 1) := by decide +kernel
theorem dX9_init_1 : decode cX9_init 1 = .ok (.invokespecial 3, 3) := by decide +kernel
theorem dX9_init_4 : decode cX9_init 4 = .ok (.aload_n 0, 1) := by decide +kernel
theorem dX9_init_5 : decode cX9_init 5 = .ok (.new 9, 3) := by decide +kernel
theorem dX9_init_8 : decode cX9_init 8 = .ok (.dup, 1) := by decide +kernel
theorem dX9_init_9 : decode cX9_init 9 = .ok (.invokespecial 11, 3) := by decide +kernel
theorem dX9_init_12 : decode cX9_init 12 = .ok (.putfield 12, 3) := by decide +kernel
theorem dX9_init_15 : decode cX9_init 15 = .ok (.aload_n 0, 1) := by decide +kernel
theorem dX9_init_16 : decode cX9_init 16 = .ok (.new 18, 3) := by decide +kernel
theorem dX9_init_19 : decode cX9_init 19 = .ok (.dup, 1) := by decide +kernel
theorem dX9_init_20 : decode cX9_init 20 = .ok (.invokespecial 20, 3) := by decide +kernel
theorem dX9_init_23 : decode cX9_init 23 = .ok (.putfield 21, 3) := by decide +kernel
theorem dX9_init_26 : decode cX9_init 26 = .ok (.aload_n 0, 1) := by decide +kernel
theorem dX9_init_27 : decode cX9_init 27 = .ok (.iconst 1, 1) := by decide +kernel
theorem dX9_init_28 : decode cX9_init 28 = .ok (.putfield 25, 3) := by decide +kernel
theorem dX9_init_31 : decode cX9_init 31 = .ok (.aload_n 0, 1) := by decide +kernel
theorem dX9_init_32 : decode cX9_init 32 = .ok (.new 29, 3) := by decide +kernel
theorem dX9_init_35 : decode cX9_init 35 = .ok (.dup, 1) := by decide +kernel
theorem dX9_init_36 : decode cX9_init 36 = .ok (.invokespecial 31, 3) := by decide +kernel
theorem dX9_init_39 : decode cX9_init 39 = .ok (.putfield 32, 3) := by decide +kernel
theorem dX9_init_42 : decode cX9_init 42 = .ok (.aload_n 0, 1) := by decide +kernel
theorem dX9_init_43 : decode cX9_init 43 = .ok (.new 29, 3) := by decide +kernel
theorem dX9_init_46 : decode cX9_init 46 = .ok (.dup, 1) := by decide +kernel
theorem dX9_init_47 : decode cX9_init 47 = .ok (.invokespecial 31, 3) := by decide +kernel
theorem dX9_init_50 : decode cX9_init 50 = .ok (.putfield 36, 3) := by decide +kernel
theorem dX9_init_53 : decode cX9_init 53 = .ok (.aload_n 0, 1) := by decide +kernel
theorem dX9_init_54 : decode cX9_init 54 = .ok (.new 39, 3) := by decide +kernel
theorem dX9_init_57 : decode cX9_init 57 = .ok (.dup, 1) := by decide +kernel
theorem dX9_init_58 : decode cX9_init 58 = .ok (.invokespecial 41, 3) := by decide +kernel
theorem dX9_init_61 : decode cX9_init 61 = .ok (.putfield 42, 3) := by decide +kernel
theorem dX9_init_64 : decode cX9_init 64 = .ok (.aload_n 0, 1) := by decide +kernel
theorem dX9_init_65 : decode cX9_init 65 = .ok (.new 46, 3) := by decide +kernel
theorem dX9_init_68 : decode cX9_init 68 = .ok (.dup, 1) := by decide +kernel
theorem dX9_init_69 : decode cX9_init 69 = .ok (.invokespecial 48, 3) := by decide +kernel
theorem dX9_init_72 : decode cX9_init 72 = .ok (.putfield 49, 3) := by decide +kernel
theorem dX9_init_75 : decode cX9_init 75 = .ok (.aload_n 0, 1) := by decide +kernel
theorem dX9_init_76 : decode cX9_init 76 = .ok (.iconst 4, 1) := by decide +kernel
theorem dX9_init_77 : decode cX9_init 77 = .ok (.sipush 144, 3) := by decide +kernel
theorem dX9_init_80 : decode cX9_init 80 = .ok (.multianewarray 53 2, 4) := by decide +kernel
theorem dX9_init_84 : decode cX9_init 84 = .ok (.putfield 55, 3) := by decide +kernel
theorem dX9_init_87 : decode cX9_init 87 = .ok (.aload_n 0, 1) := by decide +kernel
theorem dX9_init_88 : decode cX9_init 88 = .ok (.iconst 4, 1) := by decide +kernel
theorem dX9_init_89 : decode cX9_init 89 = .ok (.newarray .boolean, 2) := by decide +kernel
theorem dX9_init_91 : decode cX9_init 91 = .ok (.putfield 58, 3) := by decide +kernel
theorem dX9_init_94 : decode cX9_init 94 = .ok (.aload_n 0, 1) := by decide +kernel
theorem dX9_init_95 : decode cX9_init 95 = .ok (.new 29, 3) := by decide +kernel
theorem dX9_init_98 : decode cX9_init 98 = .ok (.dup, 1) := by decide +kernel
theorem dX9_init_99 : decode cX9_init 99 = .ok (.invokespecial 31, 3) := by decide +kernel
theorem dX9_init_102 : decode cX9_init 102 = .ok (.putfield 62, 3) := by decide +kernel
theorem dX9_init_105 : decode cX9_init 105 = .ok (.aload_n 0, 1) := by decide +kernel
theorem dX9_init_106 : decode cX9_init 106 = .ok (.iconst 4, 1) := by decide +kernel
theorem dX9_init_107 : decode cX9_init 107 = .ok (.anewarray 65, 3) := by decide +kernel
theorem dX9_init_110 : decode cX9_init 110 = .ok (.putfield 67, 3) := by decide +kernel
theorem dX9_init_113 : decode cX9_init 113 = .ok (.iconst 0, 1) := by decide +kernel
theorem dX9_init_114 : decode cX9_init 114 = .ok (.istore_n 1, 1) := by decide +kernel
theorem dX9_init_115 : decode cX9_init 115 = .ok (.iload_n 1, 1) := by decide +kernel
theorem dX9_init_116 : decode cX9_init 116 = .ok (.iconst 4, 1) := by decide +kernel
theorem dX9_init_117 : decode cX9_init 117 = .ok (.if_icmp .ge 22, 3) := by decide +kernel
theorem dX9_init_120 : decode cX9_init 120 = .ok (.aload_n 0, 1) := by decide +kernel
theorem dX9_init_121 : decode cX9_init 121 = .ok (.getfield 67, 3) := by decide +kernel
theorem dX9_init_124 : decode cX9_init 124 = .ok (.iload_n 1, 1) := by decide +kernel
theorem dX9_init_125 : decode cX9_init 125 = .ok (.new 65, 3) := by decide +kernel
theorem dX9_init_128 : decode cX9_init 128 = .ok (.dup, 1) := by decide +kernel
theorem dX9_init_129 : decode cX9_init 129 = .ok (.invokespecial 71, 3) := by decide +kernel
theorem dX9_init_132 : decode cX9_init 132 = .ok (.aastore, 1) := by decide +kernel
theorem dX9_init_133 : decode cX9_init 133 = .ok (.iinc 1 1, 3) := by decide +kernel
theorem dX9_init_136 : decode cX9_init 136 = .ok (.goto (-21), 3) := by decide +kernel
theorem dX9_init_139 : decode cX9_init 139 = .ok (.aload_n 0, 1) := by decide +kernel
theorem dX9_init_140 : decode cX9_init 140 = .ok (.iconst 0, 1) := by decide +kernel
theorem dX9_init_141 : decode cX9_init 141 = .ok (.putfield 72, 3) := by decide +kernel
theorem dX9_init_144 : decode cX9_init 144 = .ok (.aload_n 0, 1) := by decide +kernel
theorem dX9_init_145 : decode cX9_init 145 = .ok (.iconst 0, 1) := by decide +kernel
theorem dX9_init_146 : decode cX9_init 146 = .ok (.putfield 76, 3) := by decide +kernel
theorem dX9_init_149 : decode cX9_init 149 = .ok (.return_, 1) := by decide +kernel
theorem dX9_post_0 : decode cX9_post 0 = .ok (.iload_n 1, 1) := by decide +kernel
theorem dX9_post_1 : decode cX9_post 1 = .ok (.iconst 3, 1) := by decide +kernel
theorem dX9_post_2 : decode cX9_post 2 = .ok (.invokestatic 79, 3) := by decide +kernel
theorem dX9_post_5 : decode cX9_post 5 = .ok (.ifCond .eq 23, 3) := by decide +kernel
theorem dX9_post_8 : decode cX9_post 8 = .ok (.iload_n 2, 1) := by decide +kernel
theorem dX9_post_9 : decode cX9_post 9 = .ok (.iload_n 3, 1) := by decide +kernel
theorem dX9_post_10 : decode cX9_post 10 = .ok (.invokestatic 83, 3) := by decide +kernel
theorem dX9_post_13 : decode cX9_post 13 = .ok (.ifCond .eq 15, 3) := by decide +kernel
theorem dX9_post_16 : decode cX9_post 16 = .ok (.iload 4, 2) := by decide +kernel
theorem dX9_post_18 : decode cX9_post 18 = .ok (.iconst 0, 1) := by decide +kernel
theorem dX9_post_19 : decode cX9_post 19 = .ok (.sipush 3000, 3) := by decide +kernel
theorem dX9_post_22 : decode cX9_post 22 = .ok (.invokestatic 86, 3) := by decide +kernel
theorem dX9_post_25 : decode cX9_post 25 = .ok (.ifCond .ne 6, 3) := by decide +kernel
theorem dX9_post_28 : decode cX9_post 28 = .ok (.bipush (-2), 2) := by decide +kernel
theorem dX9_post_30 : decode cX9_post 30 = .ok (.ireturn, 1) := by decide +kernel
theorem dX9_post_31 : decode cX9_post 31 = .ok (.iload 5, 2) := by decide +kernel
theorem dX9_post_33 : decode cX9_post 33 = .ok (.bipush (-20), 2) := by decide +kernel
theorem dX9_post_35 : decode cX9_post 35 = .ok (.bipush 20, 2) := by decide +kernel
theorem dX9_post_37 : decode cX9_post 37 = .ok (.invokestatic 86, 3) := by decide +kernel
theorem dX9_post_40 : decode cX9_post 40 = .ok (.ifCond .eq 15, 3) := by decide +kernel
theorem dX9_post_43 : decode cX9_post 43 = .ok (.iload 6, 2) := by decide +kernel
theorem dX9_post_45 : decode cX9_post 45 = .ok (.bipush (-20), 2) := by decide +kernel
theorem dX9_post_47 : decode cX9_post 47 = .ok (.bipush 20, 2) := by decide +kernel
theorem dX9_post_49 : decode cX9_post 49 = .ok (.invokestatic 86, 3) := by decide +kernel
theorem dX9_post_52 : decode cX9_post 52 = .ok (.ifCond .ne 6, 3) := by decide +kernel
theorem dX9_post_55 : decode cX9_post 55 = .ok (.bipush (-2), 2) := by decide +kernel
theorem dX9_post_57 : decode cX9_post 57 = .ok (.ireturn, 1) := by decide +kernel
theorem dX9_post_58 : decode cX9_post 58 = .ok (.aload_n 0, 1) := by decide +kernel
theorem dX9_post_59 : decode cX9_post 59 = .ok (.getfield 12, 3) := by decide +kernel
theorem dX9_post_62 : decode cX9_post 62 = .ok (.getfield 90, 3) := by decide +kernel
theorem dX9_post_65 : decode cX9_post 65 = .ok (.invokevirtual 93, 3) := by decide +kernel
theorem dX9_post_68 : decode cX9_post 68 = .ok (.bipush 12, 2) := by decide +kernel
theorem dX9_post_70 : decode cX9_post 70 = .ok (.if_icmp .lt 6, 3) := by decide +kernel
theorem dX9_post_73 : decode cX9_post 73 = .ok (.bipush (-4), 2) := by decide +kernel
theorem dX9_post_75 : decode cX9_post 75 = .ok (.ireturn, 1) := by decide +kernel
theorem dX9_post_76 : decode cX9_post 76 = .ok (.aload_n 0, 1) := by decide +kernel
theorem dX9_post_77 : decode cX9_post 77 = .ok (.getfield 12, 3) := by decide +kernel
theorem dX9_post_80 : decode cX9_post 80 = .ok (.getfield 90, 3) := by decide +kernel
theorem dX9_post_83 : decode cX9_post 83 = .ok (.new 97, 3) := by decide +kernel
theorem dX9_post_86 : decode cX9_post 86 = .ok (.dup, 1) := by decide +kernel
theorem dX9_post_87 : decode cX9_post 87 = .ok (.iload_n 1, 1) := by decide +kernel
theorem dX9_post_88 : decode cX9_post 88 = .ok (.iload_n 2, 1) := by decide +kernel
theorem dX9_post_89 : decode cX9_post 89 = .ok (.iload_n 3, 1) := by decide +kernel
theorem dX9_post_90 : decode cX9_post 90 = .ok (.iload 4, 2) := by decide +kernel
theorem dX9_post_92 : decode cX9_post 92 = .ok (.iload 5, 2) := by decide +kernel
theorem dX9_post_94 : decode cX9_post 94 = .ok (.iload 6, 2) := by decide +kernel
theorem dX9_post_96 : decode cX9_post 96 = .ok (.invokespecial 99, 3) := by decide +kernel
theorem dX9_post_99 : decode cX9_post 99 = .ok (.invokevirtual 102, 3) := by decide +kernel
theorem dX9_post_102 : decode cX9_post 102 = .ok (.pop, 1) := by decide +kernel
theorem dX9_post_103 : decode cX9_post 103 = .ok (.aload_n 0, 1) := by decide +kernel
theorem dX9_post_104 : decode cX9_post 104 = .ok (.invokevirtual 106, 3) := by decide +kernel
theorem dX9_post_107 : decode cX9_post 107 = .ok (.aload_n 0, 1) := by decide +kernel
theorem dX9_post_108 : decode cX9_post 108 = .ok (.getfield 12, 3) := by decide +kernel
theorem dX9_post_111 : decode cX9_post 111 = .ok (.getfield 90, 3) := by decide +kernel
theorem dX9_post_114 : decode cX9_post 114 = .ok (.invokevirtual 93, 3) := by decide +kernel
theorem dX9_post_117 : decode cX9_post 117 = .ok (.iconst 1, 1) := by decide +kernel
theorem dX9_post_118 : decode cX9_post 118 = .ok (.isub, 1) := by decide +kernel
theorem dX9_post_119 : decode cX9_post 119 = .ok (.ireturn, 1) := by decide +kernel
theorem dX9_about_0 : decode cX9_about 0 = .ok (.aload_n 0, 1) := by decide +kernel
theorem dX9_about_1 : decode cX9_about 1 = .ok (.iload_n 1, 1) := by decide +kernel
theorem dX9_about_2 : decode cX9_about 2 = .ok (.invokevirtual 109, 3) := by decide +kernel
theorem dX9_about_5 : decode cX9_about 5 = .ok (.ifCond .ne 5, 3) := by decide +kernel
theorem dX9_about_8 : decode cX9_about 8 = .ok (.iconst (-1), 1) := by decide +kernel
theorem dX9_about_9 : decode cX9_about 9 = .ok (.ireturn, 1) := by decide +kernel
theorem dX9_about_10 : decode cX9_about 10 = .ok (.aload_n 0, 1) := by decide +kernel
theorem dX9_about_11 : decode cX9_about 11 = .ok (.getfield 12, 3) := by decide +kernel
theorem dX9_about_14 : decode cX9_about 14 = .ok (.getfield 90, 3) := by decide +kernel
theorem dX9_about_17 : decode cX9_about 17 = .ok (.iload_n 1, 1) := by decide +kernel
theorem dX9_about_18 : decode cX9_about 18 = .ok (.invokevirtual 113, 3) := by decide +kernel
theorem dX9_about_21 : decode cX9_about 21 = .ok (.checkcast 97, 3) := by decide +kernel
theorem dX9_about_24 : decode cX9_about 24 = .ok (.astore_n 3, 1) := by decide +kernel
theorem dX9_about_25 : decode cX9_about 25 = .ok (.iload_n 2, 1) := by decide +kernel
theorem dX9_about_26 : decode cX9_about 26 = .ok (.tableswitch 101 0 6 #[42, 47, 52, 57, 62, 71, 81], 42) := by decide +kernel
theorem dX9_about_68 : decode cX9_about 68 = .ok (.aload_n 3, 1) := by decide +kernel
theorem dX9_about_69 : decode cX9_about 69 = .ok (.getfield 117, 3) := by decide +kernel
theorem dX9_about_72 : decode cX9_about 72 = .ok (.ireturn, 1) := by decide +kernel
theorem dX9_about_73 : decode cX9_about 73 = .ok (.aload_n 3, 1) := by decide +kernel
theorem dX9_about_74 : decode cX9_about 74 = .ok (.getfield 120, 3) := by decide +kernel
theorem dX9_about_77 : decode cX9_about 77 = .ok (.ireturn, 1) := by decide +kernel
theorem dX9_about_78 : decode cX9_about 78 = .ok (.aload_n 3, 1) := by decide +kernel
theorem dX9_about_79 : decode cX9_about 79 = .ok (.getfield 123, 3) := by decide +kernel
theorem dX9_about_82 : decode cX9_about 82 = .ok (.ireturn, 1) := by decide +kernel
theorem dX9_about_83 : decode cX9_about 83 = .ok (.aload_n 3, 1) := by decide +kernel
theorem dX9_about_84 : decode cX9_about 84 = .ok (.getfield 126, 3) := by decide +kernel
theorem dX9_about_87 : decode cX9_about 87 = .ok (.ireturn, 1) := by decide +kernel
theorem dX9_about_88 : decode cX9_about 88 = .ok (.aload_n 0, 1) := by decide +kernel
theorem dX9_about_89 : decode cX9_about 89 = .ok (.getfield 12, 3) := by decide +kernel
theorem dX9_about_92 : decode cX9_about 92 = .ok (.iload_n 1, 1) := by decide +kernel
theorem dX9_about_93 : decode cX9_about 93 = .ok (.invokevirtual 129, 3) := by decide +kernel
theorem dX9_about_96 : decode cX9_about 96 = .ok (.ireturn, 1) := by decide +kernel
theorem dX9_about_97 : decode cX9_about 97 = .ok (.aload_n 0, 1) := by decide +kernel
theorem dX9_about_98 : decode cX9_about 98 = .ok (.getfield 12, 3) := by decide +kernel
theorem dX9_about_101 : decode cX9_about 101 = .ok (.getfield 133, 3) := by decide +kernel
theorem dX9_about_104 : decode cX9_about 104 = .ok (.iload_n 1, 1) := by decide +kernel
theorem dX9_about_105 : decode cX9_about 105 = .ok (.iaload, 1) := by decide +kernel
theorem dX9_about_106 : decode cX9_about 106 = .ok (.ireturn, 1) := by decide +kernel
theorem dX9_about_107 : decode cX9_about 107 = .ok (.aload_n 0, 1) := by decide +kernel
theorem dX9_about_108 : decode cX9_about 108 = .ok (.invokevirtual 137, 3) := by decide +kernel
theorem dX9_about_111 : decode cX9_about 111 = .ok (.getfield 141, 3) := by decide +kernel
theorem dX9_about_114 : decode cX9_about 114 = .ok (.iload_n 1, 1) := by decide +kernel
theorem dX9_about_115 : decode cX9_about 115 = .ok (.invokestatic 144, 3) := by decide +kernel
theorem dX9_about_118 : decode cX9_about 118 = .ok (.ifCond .eq 7, 3) := by decide +kernel
theorem dX9_about_121 : decode cX9_about 121 = .ok (.iconst 1, 1) := by decide +kernel
theorem dX9_about_122 : decode cX9_about 122 = .ok (.goto 4, 3) := by decide +kernel
theorem dX9_about_125 : decode cX9_about 125 = .ok (.iconst 0, 1) := by decide +kernel
theorem dX9_about_126 : decode cX9_about 126 = .ok (.ireturn, 1) := by decide +kernel
theorem dX9_about_127 : decode cX9_about 127 = .ok (.bipush (-2), 2) := by decide +kernel
theorem dX9_about_129 : decode cX9_about 129 = .ok (.ireturn, 1) := by decide +kernel
theorem dX9_place_0 : decode cX9_place 0 = .ok (.aload_n 0, 1) := by decide +kernel
theorem dX9_place_1 : decode cX9_place 1 = .ok (.iload_n 1, 1) := by decide +kernel
theorem dX9_place_2 : decode cX9_place 2 = .ok (.invokevirtual 109, 3) := by decide +kernel
theorem dX9_place_5 : decode cX9_place 5 = .ok (.ifCond .ne 5, 3) := by decide +kernel
theorem dX9_place_8 : decode cX9_place 8 = .ok (.iconst (-1), 1) := by decide +kernel
theorem dX9_place_9 : decode cX9_place 9 = .ok (.ireturn, 1) := by decide +kernel
theorem dX9_place_10 : decode cX9_place 10 = .ok (.iload_n 2, 1) := by decide +kernel
theorem dX9_place_11 : decode cX9_place 11 = .ok (.iconst 0, 1) := by decide +kernel
theorem dX9_place_12 : decode cX9_place 12 = .ok (.bipush 99, 2) := by decide +kernel
theorem dX9_place_14 : decode cX9_place 14 = .ok (.invokestatic 86, 3) := by decide +kernel
theorem dX9_place_17 : decode cX9_place 17 = .ok (.ifCond .ne 6, 3) := by decide +kernel
theorem dX9_place_20 : decode cX9_place 20 = .ok (.bipush (-2), 2) := by decide +kernel
theorem dX9_place_22 : decode cX9_place 22 = .ok (.ireturn, 1) := by decide +kernel
theorem dX9_place_23 : decode cX9_place 23 = .ok (.aload_n 0, 1) := by decide +kernel
theorem dX9_place_24 : decode cX9_place 24 = .ok (.getfield 12, 3) := by decide +kernel
theorem dX9_place_27 : decode cX9_place 27 = .ok (.getfield 90, 3) := by decide +kernel
theorem dX9_place_30 : decode cX9_place 30 = .ok (.iload_n 1, 1) := by decide +kernel
theorem dX9_place_31 : decode cX9_place 31 = .ok (.invokevirtual 113, 3) := by decide +kernel
theorem dX9_place_34 : decode cX9_place 34 = .ok (.checkcast 97, 3) := by decide +kernel
theorem dX9_place_37 : decode cX9_place 37 = .ok (.iload_n 2, 1) := by decide +kernel
theorem dX9_place_38 : decode cX9_place 38 = .ok (.invokevirtual 147, 3) := by decide +kernel
theorem dX9_place_41 : decode cX9_place 41 = .ok (.ireturn, 1) := by decide +kernel
theorem dX9_wire_0 : decode cX9_wire 0 = .ok (.aload_n 0, 1) := by decide +kernel
theorem dX9_wire_1 : decode cX9_wire 1 = .ok (.iconst 0, 1) := by decide +kernel
theorem dX9_wire_2 : decode cX9_wire 2 = .ok (.putfield 76, 3) := by decide +kernel
theorem dX9_wire_5 : decode cX9_wire 5 = .ok (.aload_n 0, 1) := by decide +kernel
theorem dX9_wire_6 : decode cX9_wire 6 = .ok (.iload_n 1, 1) := by decide +kernel
theorem dX9_wire_7 : decode cX9_wire 7 = .ok (.invokevirtual 109, 3) := by decide +kernel
theorem dX9_wire_10 : decode cX9_wire 10 = .ok (.ifCond .eq 11, 3) := by decide +kernel
theorem dX9_wire_13 : decode cX9_wire 13 = .ok (.iload 4, 2) := by decide +kernel
theorem dX9_wire_15 : decode cX9_wire 15 = .ok (.invokestatic 150, 3) := by decide +kernel
theorem dX9_wire_18 : decode cX9_wire 18 = .ok (.ifCond .ne 5, 3) := by decide +kernel
theorem dX9_wire_21 : decode cX9_wire 21 = .ok (.iconst (-1), 1) := by decide +kernel
theorem dX9_wire_22 : decode cX9_wire 22 = .ok (.ireturn, 1) := by decide +kernel
theorem dX9_wire_23 : decode cX9_wire 23 = .ok (.iload 5, 2) := by decide +kernel
theorem dX9_wire_25 : decode cX9_wire 25 = .ok (.iconst 3, 1) := by decide +kernel
theorem dX9_wire_26 : decode cX9_wire 26 = .ok (.invokestatic 79, 3) := by decide +kernel
theorem dX9_wire_29 : decode cX9_wire 29 = .ok (.ifCond .eq 23, 3) := by decide +kernel
theorem dX9_wire_32 : decode cX9_wire 32 = .ok (.iload_n 2, 1) := by decide +kernel
theorem dX9_wire_33 : decode cX9_wire 33 = .ok (.iconst 0, 1) := by decide +kernel
theorem dX9_wire_34 : decode cX9_wire 34 = .ok (.bipush 99, 2) := by decide +kernel
theorem dX9_wire_36 : decode cX9_wire 36 = .ok (.invokestatic 86, 3) := by decide +kernel
theorem dX9_wire_39 : decode cX9_wire 39 = .ok (.ifCond .eq 13, 3) := by decide +kernel
theorem dX9_wire_42 : decode cX9_wire 42 = .ok (.iload_n 3, 1) := by decide +kernel
theorem dX9_wire_43 : decode cX9_wire 43 = .ok (.iconst 0, 1) := by decide +kernel
theorem dX9_wire_44 : decode cX9_wire 44 = .ok (.bipush 99, 2) := by decide +kernel
theorem dX9_wire_46 : decode cX9_wire 46 = .ok (.invokestatic 86, 3) := by decide +kernel
theorem dX9_wire_49 : decode cX9_wire 49 = .ok (.ifCond .ne 6, 3) := by decide +kernel
theorem dX9_wire_52 : decode cX9_wire 52 = .ok (.bipush (-2), 2) := by decide +kernel
theorem dX9_wire_54 : decode cX9_wire 54 = .ok (.ireturn, 1) := by decide +kernel
theorem dX9_wire_55 : decode cX9_wire 55 = .ok (.aload_n 0, 1) := by decide +kernel
theorem dX9_wire_56 : decode cX9_wire 56 = .ok (.getfield 67, 3) := by decide +kernel
theorem dX9_wire_59 : decode cX9_wire 59 = .ok (.iload 4, 2) := by decide +kernel
theorem dX9_wire_61 : decode cX9_wire 61 = .ok (.aaload, 1) := by decide +kernel
theorem dX9_wire_62 : decode cX9_wire 62 = .ok (.iload 5, 2) := by decide +kernel
theorem dX9_wire_64 : decode cX9_wire 64 = .ok (.iload 6, 2) := by decide +kernel
theorem dX9_wire_66 : decode cX9_wire 66 = .ok (.ldc2_w 153, 3) := by decide +kernel
theorem dX9_wire_69 : decode cX9_wire 69 = .ok (.invokevirtual 155, 3) := by decide +kernel
theorem dX9_wire_72 : decode cX9_wire 72 = .ok (.istore 7, 2) := by decide +kernel
theorem dX9_wire_74 : decode cX9_wire 74 = .ok (.iload 7, 2) := by decide +kernel
theorem dX9_wire_76 : decode cX9_wire 76 = .ok (.ifCond .eq 10, 3) := by decide +kernel
theorem dX9_wire_79 : decode cX9_wire 79 = .ok (.aload_n 0, 1) := by decide +kernel
theorem dX9_wire_80 : decode cX9_wire 80 = .ok (.iload 7, 2) := by decide +kernel
theorem dX9_wire_82 : decode cX9_wire 82 = .ok (.invokevirtual 159, 3) := by decide +kernel
theorem dX9_wire_85 : decode cX9_wire 85 = .ok (.ireturn, 1) := by decide +kernel
theorem dX9_wire_86 : decode cX9_wire 86 = .ok (.aload_n 0, 1) := by decide +kernel
theorem dX9_wire_87 : decode cX9_wire 87 = .ok (.getfield 67, 3) := by decide +kernel
theorem dX9_wire_90 : decode cX9_wire 90 = .ok (.iload 4, 2) := by decide +kernel
theorem dX9_wire_92 : decode cX9_wire 92 = .ok (.aaload, 1) := by decide +kernel
theorem dX9_wire_93 : decode cX9_wire 93 = .ok (.getfield 162, 3) := by decide +kernel
theorem dX9_wire_96 : decode cX9_wire 96 = .ok (.astore 8, 2) := by decide +kernel
theorem dX9_wire_98 : decode cX9_wire 98 = .ok (.iload 6, 2) := by decide +kernel
theorem dX9_wire_100 : decode cX9_wire 100 = .ok (.istore 9, 2) := by decide +kernel
theorem dX9_wire_102 : decode cX9_wire 102 = .ok (.iload 9, 2) := by decide +kernel
theorem dX9_wire_104 : decode cX9_wire 104 = .ok (.iload 6, 2) := by decide +kernel
theorem dX9_wire_106 : decode cX9_wire 106 = .ok (.bipush 15, 2) := by decide +kernel
theorem dX9_wire_108 : decode cX9_wire 108 = .ok (.iadd, 1) := by decide +kernel
theorem dX9_wire_109 : decode cX9_wire 109 = .ok (.if_icmp .ge 26, 3) := by decide +kernel
theorem dX9_wire_112 : decode cX9_wire 112 = .ok (.aload 8, 2) := by decide +kernel
theorem dX9_wire_114 : decode cX9_wire 114 = .ok (.iload 9, 2) := by decide +kernel
theorem dX9_wire_116 : decode cX9_wire 116 = .ok (.iaload, 1) := by decide +kernel
theorem dX9_wire_117 : decode cX9_wire 117 = .ok (.iconst (-1), 1) := by decide +kernel
theorem dX9_wire_118 : decode cX9_wire 118 = .ok (.bipush 9, 2) := by decide +kernel
theorem dX9_wire_120 : decode cX9_wire 120 = .ok (.invokestatic 86, 3) := by decide +kernel
theorem dX9_wire_123 : decode cX9_wire 123 = .ok (.ifCond .ne 6, 3) := by decide +kernel
theorem dX9_wire_126 : decode cX9_wire 126 = .ok (.bipush (-2), 2) := by decide +kernel
theorem dX9_wire_128 : decode cX9_wire 128 = .ok (.ireturn, 1) := by decide +kernel
theorem dX9_wire_129 : decode cX9_wire 129 = .ok (.iinc 9 1, 3) := by decide +kernel
theorem dX9_wire_132 : decode cX9_wire 132 = .ok (.goto (-30), 3) := by decide +kernel
theorem dX9_wire_135 : decode cX9_wire 135 = .ok (.aload_n 0, 1) := by decide +kernel
theorem dX9_wire_136 : decode cX9_wire 136 = .ok (.getfield 12, 3) := by decide +kernel
theorem dX9_wire_139 : decode cX9_wire 139 = .ok (.getfield 165, 3) := by decide +kernel
theorem dX9_wire_142 : decode cX9_wire 142 = .ok (.invokevirtual 93, 3) := by decide +kernel
theorem dX9_wire_145 : decode cX9_wire 145 = .ok (.bipush 30, 2) := by decide +kernel
theorem dX9_wire_147 : decode cX9_wire 147 = .ok (.if_icmp .lt 6, 3) := by decide +kernel
theorem dX9_wire_150 : decode cX9_wire 150 = .ok (.bipush (-4), 2) := by decide +kernel
theorem dX9_wire_152 : decode cX9_wire 152 = .ok (.ireturn, 1) := by decide +kernel
theorem dX9_wire_153 : decode cX9_wire 153 = .ok (.aload_n 0, 1) := by decide +kernel
theorem dX9_wire_154 : decode cX9_wire 154 = .ok (.getfield 12, 3) := by decide +kernel
theorem dX9_wire_157 : decode cX9_wire 157 = .ok (.getfield 90, 3) := by decide +kernel
theorem dX9_wire_160 : decode cX9_wire 160 = .ok (.iload_n 1, 1) := by decide +kernel
theorem dX9_wire_161 : decode cX9_wire 161 = .ok (.invokevirtual 113, 3) := by decide +kernel
theorem dX9_wire_164 : decode cX9_wire 164 = .ok (.checkcast 97, 3) := by decide +kernel
theorem dX9_wire_167 : decode cX9_wire 167 = .ok (.getfield 126, 3) := by decide +kernel
theorem dX9_wire_170 : decode cX9_wire 170 = .ok (.istore 9, 2) := by decide +kernel
theorem dX9_wire_172 : decode cX9_wire 172 = .ok (.aload_n 0, 1) := by decide +kernel
theorem dX9_wire_173 : decode cX9_wire 173 = .ok (.getfield 12, 3) := by decide +kernel
theorem dX9_wire_176 : decode cX9_wire 176 = .ok (.getfield 165, 3) := by decide +kernel
theorem dX9_wire_179 : decode cX9_wire 179 = .ok (.new 168, 3) := by decide +kernel
theorem dX9_wire_182 : decode cX9_wire 182 = .ok (.dup, 1) := by decide +kernel
theorem dX9_wire_183 : decode cX9_wire 183 = .ok (.iload_n 1, 1) := by decide +kernel
theorem dX9_wire_184 : decode cX9_wire 184 = .ok (.iload 9, 2) := by decide +kernel
theorem dX9_wire_186 : decode cX9_wire 186 = .ok (.iload_n 2, 1) := by decide +kernel
theorem dX9_wire_187 : decode cX9_wire 187 = .ok (.iload_n 3, 1) := by decide +kernel
theorem dX9_wire_188 : decode cX9_wire 188 = .ok (.aload 8, 2) := by decide +kernel
theorem dX9_wire_190 : decode cX9_wire 190 = .ok (.iload 6, 2) := by decide +kernel
theorem dX9_wire_192 : decode cX9_wire 192 = .ok (.iload 6, 2) := by decide +kernel
theorem dX9_wire_194 : decode cX9_wire 194 = .ok (.bipush 15, 2) := by decide +kernel
theorem dX9_wire_196 : decode cX9_wire 196 = .ok (.iadd, 1) := by decide +kernel
theorem dX9_wire_197 : decode cX9_wire 197 = .ok (.invokestatic 170, 3) := by decide +kernel
theorem dX9_wire_200 : decode cX9_wire 200 = .ok (.invokespecial 176, 3) := by decide +kernel
theorem dX9_wire_203 : decode cX9_wire 203 = .ok (.invokevirtual 102, 3) := by decide +kernel
theorem dX9_wire_206 : decode cX9_wire 206 = .ok (.pop, 1) := by decide +kernel
theorem dX9_wire_207 : decode cX9_wire 207 = .ok (.aload_n 0, 1) := by decide +kernel
theorem dX9_wire_208 : decode cX9_wire 208 = .ok (.invokevirtual 106, 3) := by decide +kernel
theorem dX9_wire_211 : decode cX9_wire 211 = .ok (.aload_n 0, 1) := by decide +kernel
theorem dX9_wire_212 : decode cX9_wire 212 = .ok (.getfield 12, 3) := by decide +kernel
theorem dX9_wire_215 : decode cX9_wire 215 = .ok (.getfield 165, 3) := by decide +kernel
theorem dX9_wire_218 : decode cX9_wire 218 = .ok (.invokevirtual 93, 3) := by decide +kernel
theorem dX9_wire_221 : decode cX9_wire 221 = .ok (.iconst 1, 1) := by decide +kernel
theorem dX9_wire_222 : decode cX9_wire 222 = .ok (.isub, 1) := by decide +kernel
theorem dX9_wire_223 : decode cX9_wire 223 = .ok (.ireturn, 1) := by decide +kernel
theorem dX9_told_0 : decode cX9_told 0 = .ok (.aload_n 0, 1) := by decide +kernel
theorem dX9_told_1 : decode cX9_told 1 = .ok (.iload_n 1, 1) := by decide +kernel
theorem dX9_told_2 : decode cX9_told 2 = .ok (.invokevirtual 179, 3) := by decide +kernel
theorem dX9_told_5 : decode cX9_told 5 = .ok (.ifCond .ne 5, 3) := by decide +kernel
theorem dX9_told_8 : decode cX9_told 8 = .ok (.iconst (-1), 1) := by decide +kernel
theorem dX9_told_9 : decode cX9_told 9 = .ok (.ireturn, 1) := by decide +kernel
theorem dX9_told_10 : decode cX9_told 10 = .ok (.aload_n 0, 1) := by decide +kernel
theorem dX9_told_11 : decode cX9_told 11 = .ok (.getfield 12, 3) := by decide +kernel
theorem dX9_told_14 : decode cX9_told 14 = .ok (.getfield 165, 3) := by decide +kernel
theorem dX9_told_17 : decode cX9_told 17 = .ok (.iload_n 1, 1) := by decide +kernel
theorem dX9_told_18 : decode cX9_told 18 = .ok (.invokevirtual 113, 3) := by decide +kernel
theorem dX9_told_21 : decode cX9_told 21 = .ok (.checkcast 168, 3) := by decide +kernel
theorem dX9_told_24 : decode cX9_told 24 = .ok (.astore_n 3, 1) := by decide +kernel
theorem dX9_told_25 : decode cX9_told 25 = .ok (.iload_n 2, 1) := by decide +kernel
theorem dX9_told_26 : decode cX9_told 26 = .ok (.tableswitch 67 0 3 #[30, 35, 40, 45], 30) := by decide +kernel
theorem dX9_told_56 : decode cX9_told 56 = .ok (.aload_n 3, 1) := by decide +kernel
theorem dX9_told_57 : decode cX9_told 57 = .ok (.getfield 182, 3) := by decide +kernel
theorem dX9_told_60 : decode cX9_told 60 = .ok (.ireturn, 1) := by decide +kernel
theorem dX9_told_61 : decode cX9_told 61 = .ok (.aload_n 3, 1) := by decide +kernel
theorem dX9_told_62 : decode cX9_told 62 = .ok (.getfield 185, 3) := by decide +kernel
theorem dX9_told_65 : decode cX9_told 65 = .ok (.ireturn, 1) := by decide +kernel
theorem dX9_told_66 : decode cX9_told 66 = .ok (.aload_n 3, 1) := by decide +kernel
theorem dX9_told_67 : decode cX9_told 67 = .ok (.getfield 188, 3) := by decide +kernel
theorem dX9_told_70 : decode cX9_told 70 = .ok (.ireturn, 1) := by decide +kernel
theorem dX9_told_71 : decode cX9_told 71 = .ok (.aload_n 0, 1) := by decide +kernel
theorem dX9_told_72 : decode cX9_told 72 = .ok (.getfield 12, 3) := by decide +kernel
theorem dX9_told_75 : decode cX9_told 75 = .ok (.getfield 133, 3) := by decide +kernel
theorem dX9_told_78 : decode cX9_told 78 = .ok (.aload_n 3, 1) := by decide +kernel
theorem dX9_told_79 : decode cX9_told 79 = .ok (.getfield 182, 3) := by decide +kernel
theorem dX9_told_82 : decode cX9_told 82 = .ok (.iaload, 1) := by decide +kernel
theorem dX9_told_83 : decode cX9_told 83 = .ok (.iload_n 1, 1) := by decide +kernel
theorem dX9_told_84 : decode cX9_told 84 = .ok (.if_icmp .ne 7, 3) := by decide +kernel
theorem dX9_told_87 : decode cX9_told 87 = .ok (.iconst 1, 1) := by decide +kernel
theorem dX9_told_88 : decode cX9_told 88 = .ok (.goto 4, 3) := by decide +kernel
theorem dX9_told_91 : decode cX9_told 91 = .ok (.iconst 0, 1) := by decide +kernel
theorem dX9_told_92 : decode cX9_told 92 = .ok (.ireturn, 1) := by decide +kernel
theorem dX9_told_93 : decode cX9_told 93 = .ok (.bipush (-2), 2) := by decide +kernel
theorem dX9_told_95 : decode cX9_told 95 = .ok (.ireturn, 1) := by decide +kernel
theorem dX9_digit_0 : decode cX9_digit 0 = .ok (.aload_n 0, 1) := by decide +kernel
theorem dX9_digit_1 : decode cX9_digit 1 = .ok (.iload_n 1, 1) := by decide +kernel
theorem dX9_digit_2 : decode cX9_digit 2 = .ok (.invokevirtual 179, 3) := by decide +kernel
theorem dX9_digit_5 : decode cX9_digit 5 = .ok (.ifCond .ne 5, 3) := by decide +kernel
theorem dX9_digit_8 : decode cX9_digit 8 = .ok (.iconst (-1), 1) := by decide +kernel
theorem dX9_digit_9 : decode cX9_digit 9 = .ok (.ireturn, 1) := by decide +kernel
theorem dX9_digit_10 : decode cX9_digit 10 = .ok (.iload_n 2, 1) := by decide +kernel
theorem dX9_digit_11 : decode cX9_digit 11 = .ok (.iconst 3, 1) := by decide +kernel
theorem dX9_digit_12 : decode cX9_digit 12 = .ok (.invokestatic 79, 3) := by decide +kernel
theorem dX9_digit_15 : decode cX9_digit 15 = .ok (.ifCond .eq 11, 3) := by decide +kernel
theorem dX9_digit_18 : decode cX9_digit 18 = .ok (.iload_n 3, 1) := by decide +kernel
theorem dX9_digit_19 : decode cX9_digit 19 = .ok (.iconst 5, 1) := by decide +kernel
theorem dX9_digit_20 : decode cX9_digit 20 = .ok (.invokestatic 79, 3) := by decide +kernel
theorem dX9_digit_23 : decode cX9_digit 23 = .ok (.ifCond .ne 6, 3) := by decide +kernel
theorem dX9_digit_26 : decode cX9_digit 26 = .ok (.bipush (-2), 2) := by decide +kernel
theorem dX9_digit_28 : decode cX9_digit 28 = .ok (.ireturn, 1) := by decide +kernel
theorem dX9_digit_29 : decode cX9_digit 29 = .ok (.aload_n 0, 1) := by decide +kernel
theorem dX9_digit_30 : decode cX9_digit 30 = .ok (.getfield 12, 3) := by decide +kernel
theorem dX9_digit_33 : decode cX9_digit 33 = .ok (.getfield 165, 3) := by decide +kernel
theorem dX9_digit_36 : decode cX9_digit 36 = .ok (.iload_n 1, 1) := by decide +kernel
theorem dX9_digit_37 : decode cX9_digit 37 = .ok (.invokevirtual 113, 3) := by decide +kernel
theorem dX9_digit_40 : decode cX9_digit 40 = .ok (.checkcast 168, 3) := by decide +kernel
theorem dX9_digit_43 : decode cX9_digit 43 = .ok (.getfield 191, 3) := by decide +kernel
theorem dX9_digit_46 : decode cX9_digit 46 = .ok (.iconst 5, 1) := by decide +kernel
theorem dX9_digit_47 : decode cX9_digit 47 = .ok (.iload_n 2, 1) := by decide +kernel
theorem dX9_digit_48 : decode cX9_digit 48 = .ok (.imul, 1) := by decide +kernel
theorem dX9_digit_49 : decode cX9_digit 49 = .ok (.iload_n 3, 1) := by decide +kernel
theorem dX9_digit_50 : decode cX9_digit 50 = .ok (.iadd, 1) := by decide +kernel
theorem dX9_digit_51 : decode cX9_digit 51 = .ok (.iaload, 1) := by decide +kernel
theorem dX9_digit_52 : decode cX9_digit 52 = .ok (.istore 4, 2) := by decide +kernel
theorem dX9_digit_54 : decode cX9_digit 54 = .ok (.iload 4, 2) := by decide +kernel
theorem dX9_digit_56 : decode cX9_digit 56 = .ok (.ifCond .ge 8, 3) := by decide +kernel
theorem dX9_digit_59 : decode cX9_digit 59 = .ok (.bipush (-9), 2) := by decide +kernel
theorem dX9_digit_61 : decode cX9_digit 61 = .ok (.goto 5, 3) := by decide +kernel
theorem dX9_digit_64 : decode cX9_digit 64 = .ok (.iload 4, 2) := by decide +kernel
theorem dX9_digit_66 : decode cX9_digit 66 = .ok (.ireturn, 1) := by decide +kernel
theorem dX9_readings_0 : decode cX9_readings 0 = .ok (.aload_n 0, 1) := by decide +kernel
theorem dX9_readings_1 : decode cX9_readings 1 = .ok (.iload_n 1, 1) := by decide +kernel
theorem dX9_readings_2 : decode cX9_readings 2 = .ok (.invokevirtual 179, 3) := by decide +kernel
theorem dX9_readings_5 : decode cX9_readings 5 = .ok (.ifCond .ne 5, 3) := by decide +kernel
theorem dX9_readings_8 : decode cX9_readings 8 = .ok (.iconst (-1), 1) := by decide +kernel
theorem dX9_readings_9 : decode cX9_readings 9 = .ok (.ireturn, 1) := by decide +kernel
theorem dX9_readings_10 : decode cX9_readings 10 = .ok (.iload_n 2, 1) := by decide +kernel
theorem dX9_readings_11 : decode cX9_readings 11 = .ok (.iconst 3, 1) := by decide +kernel
theorem dX9_readings_12 : decode cX9_readings 12 = .ok (.invokestatic 79, 3) := by decide +kernel
theorem dX9_readings_15 : decode cX9_readings 15 = .ok (.ifCond .ne 6, 3) := by decide +kernel
theorem dX9_readings_18 : decode cX9_readings 18 = .ok (.bipush (-2), 2) := by decide +kernel
theorem dX9_readings_20 : decode cX9_readings 20 = .ok (.ireturn, 1) := by decide +kernel
theorem dX9_readings_21 : decode cX9_readings 21 = .ok (.aload_n 0, 1) := by decide +kernel
theorem dX9_readings_22 : decode cX9_readings 22 = .ok (.getfield 12, 3) := by decide +kernel
theorem dX9_readings_25 : decode cX9_readings 25 = .ok (.getfield 165, 3) := by decide +kernel
theorem dX9_readings_28 : decode cX9_readings 28 = .ok (.iload_n 1, 1) := by decide +kernel
theorem dX9_readings_29 : decode cX9_readings 29 = .ok (.invokevirtual 113, 3) := by decide +kernel
theorem dX9_readings_32 : decode cX9_readings 32 = .ok (.checkcast 168, 3) := by decide +kernel
theorem dX9_readings_35 : decode cX9_readings 35 = .ok (.getfield 194, 3) := by decide +kernel
theorem dX9_readings_38 : decode cX9_readings 38 = .ok (.iload_n 2, 1) := by decide +kernel
theorem dX9_readings_39 : decode cX9_readings 39 = .ok (.iaload, 1) := by decide +kernel
theorem dX9_readings_40 : decode cX9_readings 40 = .ok (.ireturn, 1) := by decide +kernel
theorem dX9_reading_0 : decode cX9_reading 0 = .ok (.aload_n 0, 1) := by decide +kernel
theorem dX9_reading_1 : decode cX9_reading 1 = .ok (.iload_n 1, 1) := by decide +kernel
theorem dX9_reading_2 : decode cX9_reading 2 = .ok (.invokevirtual 179, 3) := by decide +kernel
theorem dX9_reading_5 : decode cX9_reading 5 = .ok (.ifCond .eq 7, 3) := by decide +kernel
theorem dX9_reading_8 : decode cX9_reading 8 = .ok (.iload_n 3, 1) := by decide +kernel
theorem dX9_reading_9 : decode cX9_reading 9 = .ok (.ifCond .ge 5, 3) := by decide +kernel
theorem dX9_reading_12 : decode cX9_reading 12 = .ok (.iconst (-1), 1) := by decide +kernel
theorem dX9_reading_13 : decode cX9_reading 13 = .ok (.ireturn, 1) := by decide +kernel
theorem dX9_reading_14 : decode cX9_reading 14 = .ok (.iload_n 2, 1) := by decide +kernel
theorem dX9_reading_15 : decode cX9_reading 15 = .ok (.iconst 3, 1) := by decide +kernel
theorem dX9_reading_16 : decode cX9_reading 16 = .ok (.invokestatic 79, 3) := by decide +kernel
theorem dX9_reading_19 : decode cX9_reading 19 = .ok (.ifCond .ne 6, 3) := by decide +kernel
theorem dX9_reading_22 : decode cX9_reading 22 = .ok (.bipush (-2), 2) := by decide +kernel
theorem dX9_reading_24 : decode cX9_reading 24 = .ok (.ireturn, 1) := by decide +kernel
theorem dX9_reading_25 : decode cX9_reading 25 = .ok (.aload_n 0, 1) := by decide +kernel
theorem dX9_reading_26 : decode cX9_reading 26 = .ok (.getfield 12, 3) := by decide +kernel
theorem dX9_reading_29 : decode cX9_reading 29 = .ok (.getfield 165, 3) := by decide +kernel
theorem dX9_reading_32 : decode cX9_reading 32 = .ok (.iload_n 1, 1) := by decide +kernel
theorem dX9_reading_33 : decode cX9_reading 33 = .ok (.invokevirtual 113, 3) := by decide +kernel
theorem dX9_reading_36 : decode cX9_reading 36 = .ok (.checkcast 168, 3) := by decide +kernel
theorem dX9_reading_39 : decode cX9_reading 39 = .ok (.astore 4, 2) := by decide +kernel
theorem dX9_reading_41 : decode cX9_reading 41 = .ok (.iload_n 3, 1) := by decide +kernel
theorem dX9_reading_42 : decode cX9_reading 42 = .ok (.aload 4, 2) := by decide +kernel
theorem dX9_reading_44 : decode cX9_reading 44 = .ok (.getfield 194, 3) := by decide +kernel
theorem dX9_reading_47 : decode cX9_reading 47 = .ok (.iload_n 2, 1) := by decide +kernel
theorem dX9_reading_48 : decode cX9_reading 48 = .ok (.iaload, 1) := by decide +kernel
theorem dX9_reading_49 : decode cX9_reading 49 = .ok (.if_icmp .lt 5, 3) := by decide +kernel
theorem dX9_reading_52 : decode cX9_reading 52 = .ok (.iconst (-1), 1) := by decide +kernel
theorem dX9_reading_53 : decode cX9_reading 53 = .ok (.ireturn, 1) := by decide +kernel
theorem dX9_reading_54 : decode cX9_reading 54 = .ok (.aload 4, 2) := by decide +kernel
theorem dX9_reading_56 : decode cX9_reading 56 = .ok (.iload_n 2, 1) := by decide +kernel
theorem dX9_reading_57 : decode cX9_reading 57 = .ok (.iload_n 3, 1) := by decide +kernel
theorem dX9_reading_58 : decode cX9_reading 58 = .ok (.invokevirtual 197, 3) := by decide +kernel
theorem dX9_reading_61 : decode cX9_reading 61 = .ok (.ireturn, 1) := by decide +kernel
theorem dX9_view_0 : decode cX9_view 0 = .ok (.iload_n 1, 1) := by decide +kernel
theorem dX9_view_1 : decode cX9_view 1 = .ok (.iconst 0, 1) := by decide +kernel
theorem dX9_view_2 : decode cX9_view 2 = .ok (.bipush 99, 2) := by decide +kernel
theorem dX9_view_4 : decode cX9_view 4 = .ok (.invokestatic 86, 3) := by decide +kernel
theorem dX9_view_7 : decode cX9_view 7 = .ok (.ifCond .eq 13, 3) := by decide +kernel
theorem dX9_view_10 : decode cX9_view 10 = .ok (.iload_n 2, 1) := by decide +kernel
theorem dX9_view_11 : decode cX9_view 11 = .ok (.iconst 0, 1) := by decide +kernel
theorem dX9_view_12 : decode cX9_view 12 = .ok (.bipush 99, 2) := by decide +kernel
theorem dX9_view_14 : decode cX9_view 14 = .ok (.invokestatic 86, 3) := by decide +kernel
theorem dX9_view_17 : decode cX9_view 17 = .ok (.ifCond .ne 6, 3) := by decide +kernel
theorem dX9_view_20 : decode cX9_view 20 = .ok (.bipush (-2), 2) := by decide +kernel
theorem dX9_view_22 : decode cX9_view 22 = .ok (.ireturn, 1) := by decide +kernel
theorem dX9_view_23 : decode cX9_view 23 = .ok (.aload_n 0, 1) := by decide +kernel
theorem dX9_view_24 : decode cX9_view 24 = .ok (.getfield 12, 3) := by decide +kernel
theorem dX9_view_27 : decode cX9_view 27 = .ok (.iload_n 1, 1) := by decide +kernel
theorem dX9_view_28 : decode cX9_view 28 = .ok (.putfield 201, 3) := by decide +kernel
theorem dX9_view_31 : decode cX9_view 31 = .ok (.aload_n 0, 1) := by decide +kernel
theorem dX9_view_32 : decode cX9_view 32 = .ok (.getfield 12, 3) := by decide +kernel
theorem dX9_view_35 : decode cX9_view 35 = .ok (.iload_n 2, 1) := by decide +kernel
theorem dX9_view_36 : decode cX9_view 36 = .ok (.putfield 202, 3) := by decide +kernel
theorem dX9_view_39 : decode cX9_view 39 = .ok (.aload_n 0, 1) := by decide +kernel
theorem dX9_view_40 : decode cX9_view 40 = .ok (.invokevirtual 106, 3) := by decide +kernel
theorem dX9_view_43 : decode cX9_view 43 = .ok (.aload_n 0, 1) := by decide +kernel
theorem dX9_view_44 : decode cX9_view 44 = .ok (.getfield 12, 3) := by decide +kernel
theorem dX9_view_47 : decode cX9_view 47 = .ok (.getfield 205, 3) := by decide +kernel
theorem dX9_view_50 : decode cX9_view 50 = .ok (.invokestatic 208, 3) := by decide +kernel
theorem dX9_view_53 : decode cX9_view 53 = .ok (.ireturn, 1) := by decide +kernel
theorem dX9_guess_0 : decode cX9_guess 0 = .ok (.aload_n 0, 1) := by decide +kernel
theorem dX9_guess_1 : decode cX9_guess 1 = .ok (.iload_n 1, 1) := by decide +kernel
theorem dX9_guess_2 : decode cX9_guess 2 = .ok (.invokevirtual 179, 3) := by decide +kernel
theorem dX9_guess_5 : decode cX9_guess 5 = .ok (.ifCond .ne 5, 3) := by decide +kernel
theorem dX9_guess_8 : decode cX9_guess 8 = .ok (.iconst (-1), 1) := by decide +kernel
theorem dX9_guess_9 : decode cX9_guess 9 = .ok (.ireturn, 1) := by decide +kernel
theorem dX9_guess_10 : decode cX9_guess 10 = .ok (.aload_n 0, 1) := by decide +kernel
theorem dX9_guess_11 : decode cX9_guess 11 = .ok (.getfield 12, 3) := by decide +kernel
theorem dX9_guess_14 : decode cX9_guess 14 = .ok (.getfield 165, 3) := by decide +kernel
theorem dX9_guess_17 : decode cX9_guess 17 = .ok (.iload_n 1, 1) := by decide +kernel
theorem dX9_guess_18 : decode cX9_guess 18 = .ok (.invokevirtual 113, 3) := by decide +kernel
theorem dX9_guess_21 : decode cX9_guess 21 = .ok (.checkcast 168, 3) := by decide +kernel
theorem dX9_guess_24 : decode cX9_guess 24 = .ok (.astore_n 2, 1) := by decide +kernel
theorem dX9_guess_25 : decode cX9_guess 25 = .ok (.aload_n 0, 1) := by decide +kernel
theorem dX9_guess_26 : decode cX9_guess 26 = .ok (.getfield 12, 3) := by decide +kernel
theorem dX9_guess_29 : decode cX9_guess 29 = .ok (.getfield 213, 3) := by decide +kernel
theorem dX9_guess_32 : decode cX9_guess 32 = .ok (.aload_n 2, 1) := by decide +kernel
theorem dX9_guess_33 : decode cX9_guess 33 = .ok (.getfield 182, 3) := by decide +kernel
theorem dX9_guess_36 : decode cX9_guess 36 = .ok (.iaload, 1) := by decide +kernel
theorem dX9_guess_37 : decode cX9_guess 37 = .ok (.bipush (-9), 2) := by decide +kernel
theorem dX9_guess_39 : decode cX9_guess 39 = .ok (.if_icmp .ne 6, 3) := by decide +kernel
theorem dX9_guess_42 : decode cX9_guess 42 = .ok (.bipush (-3), 2) := by decide +kernel
theorem dX9_guess_44 : decode cX9_guess 44 = .ok (.ireturn, 1) := by decide +kernel
theorem dX9_guess_45 : decode cX9_guess 45 = .ok (.aload_n 0, 1) := by decide +kernel
theorem dX9_guess_46 : decode cX9_guess 46 = .ok (.getfield 12, 3) := by decide +kernel
theorem dX9_guess_49 : decode cX9_guess 49 = .ok (.aload_n 2, 1) := by decide +kernel
theorem dX9_guess_50 : decode cX9_guess 50 = .ok (.invokevirtual 216, 3) := by decide +kernel
theorem dX9_guess_53 : decode cX9_guess 53 = .ok (.ireturn, 1) := by decide +kernel
theorem dX9_mended_0 : decode cX9_mended 0 = .ok (.aload_n 0, 1) := by decide +kernel
theorem dX9_mended_1 : decode cX9_mended 1 = .ok (.iload_n 1, 1) := by decide +kernel
theorem dX9_mended_2 : decode cX9_mended 2 = .ok (.invokevirtual 179, 3) := by decide +kernel
theorem dX9_mended_5 : decode cX9_mended 5 = .ok (.ifCond .ne 5, 3) := by decide +kernel
theorem dX9_mended_8 : decode cX9_mended 8 = .ok (.iconst (-1), 1) := by decide +kernel
theorem dX9_mended_9 : decode cX9_mended 9 = .ok (.ireturn, 1) := by decide +kernel
theorem dX9_mended_10 : decode cX9_mended 10 = .ok (.aload_n 0, 1) := by decide +kernel
theorem dX9_mended_11 : decode cX9_mended 11 = .ok (.getfield 12, 3) := by decide +kernel
theorem dX9_mended_14 : decode cX9_mended 14 = .ok (.getfield 165, 3) := by decide +kernel
theorem dX9_mended_17 : decode cX9_mended 17 = .ok (.iload_n 1, 1) := by decide +kernel
theorem dX9_mended_18 : decode cX9_mended 18 = .ok (.invokevirtual 113, 3) := by decide +kernel
theorem dX9_mended_21 : decode cX9_mended 21 = .ok (.checkcast 168, 3) := by decide +kernel
theorem dX9_mended_24 : decode cX9_mended 24 = .ok (.astore_n 2, 1) := by decide +kernel
theorem dX9_mended_25 : decode cX9_mended 25 = .ok (.aload_n 0, 1) := by decide +kernel
theorem dX9_mended_26 : decode cX9_mended 26 = .ok (.getfield 12, 3) := by decide +kernel
theorem dX9_mended_29 : decode cX9_mended 29 = .ok (.getfield 213, 3) := by decide +kernel
theorem dX9_mended_32 : decode cX9_mended 32 = .ok (.aload_n 2, 1) := by decide +kernel
theorem dX9_mended_33 : decode cX9_mended 33 = .ok (.getfield 182, 3) := by decide +kernel
theorem dX9_mended_36 : decode cX9_mended 36 = .ok (.iaload, 1) := by decide +kernel
theorem dX9_mended_37 : decode cX9_mended 37 = .ok (.bipush (-9), 2) := by decide +kernel
theorem dX9_mended_39 : decode cX9_mended 39 = .ok (.if_icmp .eq 12, 3) := by decide +kernel
theorem dX9_mended_42 : decode cX9_mended 42 = .ok (.aload_n 2, 1) := by decide +kernel
theorem dX9_mended_43 : decode cX9_mended 43 = .ok (.getfield 194, 3) := by decide +kernel
theorem dX9_mended_46 : decode cX9_mended 46 = .ok (.iconst 1, 1) := by decide +kernel
theorem dX9_mended_47 : decode cX9_mended 47 = .ok (.iaload, 1) := by decide +kernel
theorem dX9_mended_48 : decode cX9_mended 48 = .ok (.ifCond .ne 6, 3) := by decide +kernel
theorem dX9_mended_51 : decode cX9_mended 51 = .ok (.bipush (-3), 2) := by decide +kernel
theorem dX9_mended_53 : decode cX9_mended 53 = .ok (.ireturn, 1) := by decide +kernel
theorem dX9_mended_54 : decode cX9_mended 54 = .ok (.aload_n 0, 1) := by decide +kernel
theorem dX9_mended_55 : decode cX9_mended 55 = .ok (.getfield 12, 3) := by decide +kernel
theorem dX9_mended_58 : decode cX9_mended 58 = .ok (.aload_n 2, 1) := by decide +kernel
theorem dX9_mended_59 : decode cX9_mended 59 = .ok (.invokevirtual 220, 3) := by decide +kernel
theorem dX9_mended_62 : decode cX9_mended 62 = .ok (.ireturn, 1) := by decide +kernel
theorem dX9_level_0 : decode cX9_level 0 = .ok (.aload_n 0, 1) := by decide +kernel
theorem dX9_level_1 : decode cX9_level 1 = .ok (.iload_n 1, 1) := by decide +kernel
theorem dX9_level_2 : decode cX9_level 2 = .ok (.invokevirtual 179, 3) := by decide +kernel
theorem dX9_level_5 : decode cX9_level 5 = .ok (.ifCond .ne 5, 3) := by decide +kernel
theorem dX9_level_8 : decode cX9_level 8 = .ok (.iconst (-1), 1) := by decide +kernel
theorem dX9_level_9 : decode cX9_level 9 = .ok (.ireturn, 1) := by decide +kernel
theorem dX9_level_10 : decode cX9_level 10 = .ok (.aload_n 0, 1) := by decide +kernel
theorem dX9_level_11 : decode cX9_level 11 = .ok (.getfield 12, 3) := by decide +kernel
theorem dX9_level_14 : decode cX9_level 14 = .ok (.getfield 165, 3) := by decide +kernel
theorem dX9_level_17 : decode cX9_level 17 = .ok (.iload_n 1, 1) := by decide +kernel
theorem dX9_level_18 : decode cX9_level 18 = .ok (.invokevirtual 113, 3) := by decide +kernel
theorem dX9_level_21 : decode cX9_level 21 = .ok (.checkcast 168, 3) := by decide +kernel
theorem dX9_level_24 : decode cX9_level 24 = .ok (.astore_n 2, 1) := by decide +kernel
theorem dX9_level_25 : decode cX9_level 25 = .ok (.aload_n 0, 1) := by decide +kernel
theorem dX9_level_26 : decode cX9_level 26 = .ok (.getfield 12, 3) := by decide +kernel
theorem dX9_level_29 : decode cX9_level 29 = .ok (.getfield 213, 3) := by decide +kernel
theorem dX9_level_32 : decode cX9_level 32 = .ok (.aload_n 2, 1) := by decide +kernel
theorem dX9_level_33 : decode cX9_level 33 = .ok (.getfield 182, 3) := by decide +kernel
theorem dX9_level_36 : decode cX9_level 36 = .ok (.iaload, 1) := by decide +kernel
theorem dX9_level_37 : decode cX9_level 37 = .ok (.bipush (-9), 2) := by decide +kernel
theorem dX9_level_39 : decode cX9_level 39 = .ok (.if_icmp .eq 12, 3) := by decide +kernel
theorem dX9_level_42 : decode cX9_level 42 = .ok (.aload_n 2, 1) := by decide +kernel
theorem dX9_level_43 : decode cX9_level 43 = .ok (.getfield 194, 3) := by decide +kernel
theorem dX9_level_46 : decode cX9_level 46 = .ok (.iconst 1, 1) := by decide +kernel
theorem dX9_level_47 : decode cX9_level 47 = .ok (.iaload, 1) := by decide +kernel
theorem dX9_level_48 : decode cX9_level 48 = .ok (.ifCond .ne 6, 3) := by decide +kernel
theorem dX9_level_51 : decode cX9_level 51 = .ok (.bipush (-3), 2) := by decide +kernel
theorem dX9_level_53 : decode cX9_level 53 = .ok (.ireturn, 1) := by decide +kernel
theorem dX9_level_54 : decode cX9_level 54 = .ok (.aload_n 0, 1) := by decide +kernel
theorem dX9_level_55 : decode cX9_level 55 = .ok (.getfield 12, 3) := by decide +kernel
theorem dX9_level_58 : decode cX9_level 58 = .ok (.aload_n 2, 1) := by decide +kernel
theorem dX9_level_59 : decode cX9_level 59 = .ok (.invokevirtual 223, 3) := by decide +kernel
theorem dX9_level_62 : decode cX9_level 62 = .ok (.ireturn, 1) := by decide +kernel
theorem dX9_steep_0 : decode cX9_steep 0 = .ok (.iload_n 1, 1) := by decide +kernel
theorem dX9_steep_1 : decode cX9_steep 1 = .ok (.iconst 1, 1) := by decide +kernel
theorem dX9_steep_2 : decode cX9_steep 2 = .ok (.sipush 500, 3) := by decide +kernel
theorem dX9_steep_5 : decode cX9_steep 5 = .ok (.invokestatic 86, 3) := by decide +kernel
theorem dX9_steep_8 : decode cX9_steep 8 = .ok (.ifCond .ne 6, 3) := by decide +kernel
theorem dX9_steep_11 : decode cX9_steep 11 = .ok (.bipush (-2), 2) := by decide +kernel
theorem dX9_steep_13 : decode cX9_steep 13 = .ok (.ireturn, 1) := by decide +kernel
theorem dX9_steep_14 : decode cX9_steep 14 = .ok (.aload_n 0, 1) := by decide +kernel
theorem dX9_steep_15 : decode cX9_steep 15 = .ok (.getfield 21, 3) := by decide +kernel
theorem dX9_steep_18 : decode cX9_steep 18 = .ok (.getfield 226, 3) := by decide +kernel
theorem dX9_steep_21 : decode cX9_steep 21 = .ok (.istore_n 2, 1) := by decide +kernel
theorem dX9_steep_22 : decode cX9_steep 22 = .ok (.aload_n 0, 1) := by decide +kernel
theorem dX9_steep_23 : decode cX9_steep 23 = .ok (.getfield 21, 3) := by decide +kernel
theorem dX9_steep_26 : decode cX9_steep 26 = .ok (.iload_n 1, 1) := by decide +kernel
theorem dX9_steep_27 : decode cX9_steep 27 = .ok (.putfield 226, 3) := by decide +kernel
theorem dX9_steep_30 : decode cX9_steep 30 = .ok (.aload_n 0, 1) := by decide +kernel
theorem dX9_steep_31 : decode cX9_steep 31 = .ok (.iconst 1, 1) := by decide +kernel
theorem dX9_steep_32 : decode cX9_steep 32 = .ok (.putfield 25, 3) := by decide +kernel
theorem dX9_steep_35 : decode cX9_steep 35 = .ok (.iload_n 2, 1) := by decide +kernel
theorem dX9_steep_36 : decode cX9_steep 36 = .ok (.ireturn, 1) := by decide +kernel
theorem dX9_quarrel_0 : decode cX9_quarrel 0 = .ok (.aload_n 0, 1) := by decide +kernel
theorem dX9_quarrel_1 : decode cX9_quarrel 1 = .ok (.iload_n 1, 1) := by decide +kernel
theorem dX9_quarrel_2 : decode cX9_quarrel 2 = .ok (.invokevirtual 109, 3) := by decide +kernel
theorem dX9_quarrel_5 : decode cX9_quarrel 5 = .ok (.ifCond .eq 11, 3) := by decide +kernel
theorem dX9_quarrel_8 : decode cX9_quarrel 8 = .ok (.aload_n 0, 1) := by decide +kernel
theorem dX9_quarrel_9 : decode cX9_quarrel 9 = .ok (.iload_n 2, 1) := by decide +kernel
theorem dX9_quarrel_10 : decode cX9_quarrel 10 = .ok (.invokevirtual 109, 3) := by decide +kernel
theorem dX9_quarrel_13 : decode cX9_quarrel 13 = .ok (.ifCond .ne 5, 3) := by decide +kernel
theorem dX9_quarrel_16 : decode cX9_quarrel 16 = .ok (.iconst (-1), 1) := by decide +kernel
theorem dX9_quarrel_17 : decode cX9_quarrel 17 = .ok (.ireturn, 1) := by decide +kernel
theorem dX9_quarrel_18 : decode cX9_quarrel 18 = .ok (.iload_n 1, 1) := by decide +kernel
theorem dX9_quarrel_19 : decode cX9_quarrel 19 = .ok (.iload_n 2, 1) := by decide +kernel
theorem dX9_quarrel_20 : decode cX9_quarrel 20 = .ok (.if_icmp .eq 31, 3) := by decide +kernel
theorem dX9_quarrel_23 : decode cX9_quarrel 23 = .ok (.aload_n 0, 1) := by decide +kernel
theorem dX9_quarrel_24 : decode cX9_quarrel 24 = .ok (.getfield 12, 3) := by decide +kernel
theorem dX9_quarrel_27 : decode cX9_quarrel 27 = .ok (.getfield 205, 3) := by decide +kernel
theorem dX9_quarrel_30 : decode cX9_quarrel 30 = .ok (.iload_n 1, 1) := by decide +kernel
theorem dX9_quarrel_31 : decode cX9_quarrel 31 = .ok (.invokestatic 144, 3) := by decide +kernel
theorem dX9_quarrel_34 : decode cX9_quarrel 34 = .ok (.ifCond .eq 17, 3) := by decide +kernel
theorem dX9_quarrel_37 : decode cX9_quarrel 37 = .ok (.aload_n 0, 1) := by decide +kernel
theorem dX9_quarrel_38 : decode cX9_quarrel 38 = .ok (.getfield 12, 3) := by decide +kernel
theorem dX9_quarrel_41 : decode cX9_quarrel 41 = .ok (.getfield 205, 3) := by decide +kernel
theorem dX9_quarrel_44 : decode cX9_quarrel 44 = .ok (.iload_n 2, 1) := by decide +kernel
theorem dX9_quarrel_45 : decode cX9_quarrel 45 = .ok (.invokestatic 144, 3) := by decide +kernel
theorem dX9_quarrel_48 : decode cX9_quarrel 48 = .ok (.ifCond .ne 6, 3) := by decide +kernel
theorem dX9_quarrel_51 : decode cX9_quarrel 51 = .ok (.bipush (-3), 2) := by decide +kernel
theorem dX9_quarrel_53 : decode cX9_quarrel 53 = .ok (.ireturn, 1) := by decide +kernel
theorem dX9_quarrel_54 : decode cX9_quarrel 54 = .ok (.aload_n 0, 1) := by decide +kernel
theorem dX9_quarrel_55 : decode cX9_quarrel 55 = .ok (.invokevirtual 137, 3) := by decide +kernel
theorem dX9_quarrel_58 : decode cX9_quarrel 58 = .ok (.getfield 229, 3) := by decide +kernel
theorem dX9_quarrel_61 : decode cX9_quarrel 61 = .ok (.iload_n 1, 1) := by decide +kernel
theorem dX9_quarrel_62 : decode cX9_quarrel 62 = .ok (.iaload, 1) := by decide +kernel
theorem dX9_quarrel_63 : decode cX9_quarrel 63 = .ok (.iload_n 2, 1) := by decide +kernel
theorem dX9_quarrel_64 : decode cX9_quarrel 64 = .ok (.invokestatic 144, 3) := by decide +kernel
theorem dX9_quarrel_67 : decode cX9_quarrel 67 = .ok (.ifCond .eq 7, 3) := by decide +kernel
theorem dX9_quarrel_70 : decode cX9_quarrel 70 = .ok (.iconst 1, 1) := by decide +kernel
theorem dX9_quarrel_71 : decode cX9_quarrel 71 = .ok (.goto 4, 3) := by decide +kernel
theorem dX9_quarrel_74 : decode cX9_quarrel 74 = .ok (.iconst 0, 1) := by decide +kernel
theorem dX9_quarrel_75 : decode cX9_quarrel 75 = .ok (.ireturn, 1) := by decide +kernel
theorem dX9_doubted_0 : decode cX9_doubted 0 = .ok (.aload_n 0, 1) := by decide +kernel
theorem dX9_doubted_1 : decode cX9_doubted 1 = .ok (.invokevirtual 137, 3) := by decide +kernel
theorem dX9_doubted_4 : decode cX9_doubted 4 = .ok (.getfield 141, 3) := by decide +kernel
theorem dX9_doubted_7 : decode cX9_doubted 7 = .ok (.ireturn, 1) := by decide +kernel
theorem dX9_value_0 : decode cX9_value 0 = .ok (.iload_n 1, 1) := by decide +kernel
theorem dX9_value_1 : decode cX9_value 1 = .ok (.iload_n 2, 1) := by decide +kernel
theorem dX9_value_2 : decode cX9_value 2 = .ok (.invokestatic 83, 3) := by decide +kernel
theorem dX9_value_5 : decode cX9_value 5 = .ok (.ifCond .ne 5, 3) := by decide +kernel
theorem dX9_value_8 : decode cX9_value 8 = .ok (.iconst (-1), 1) := by decide +kernel
theorem dX9_value_9 : decode cX9_value 9 = .ok (.ireturn, 1) := by decide +kernel
theorem dX9_value_10 : decode cX9_value 10 = .ok (.aload_n 0, 1) := by decide +kernel
theorem dX9_value_11 : decode cX9_value 11 = .ok (.invokevirtual 137, 3) := by decide +kernel
theorem dX9_value_14 : decode cX9_value 14 = .ok (.getfield 232, 3) := by decide +kernel
theorem dX9_value_17 : decode cX9_value 17 = .ok (.bipush 12, 2) := by decide +kernel
theorem dX9_value_19 : decode cX9_value 19 = .ok (.iload_n 2, 1) := by decide +kernel
theorem dX9_value_20 : decode cX9_value 20 = .ok (.imul, 1) := by decide +kernel
theorem dX9_value_21 : decode cX9_value 21 = .ok (.iload_n 1, 1) := by decide +kernel
theorem dX9_value_22 : decode cX9_value 22 = .ok (.iadd, 1) := by decide +kernel
theorem dX9_value_23 : decode cX9_value 23 = .ok (.iaload, 1) := by decide +kernel
theorem dX9_value_24 : decode cX9_value 24 = .ok (.ireturn, 1) := by decide +kernel
theorem dX9_line_0 : decode cX9_line 0 = .ok (.iload_n 1, 1) := by decide +kernel
theorem dX9_line_1 : decode cX9_line 1 = .ok (.iconst 0, 1) := by decide +kernel
theorem dX9_line_2 : decode cX9_line 2 = .ok (.sipush 20000, 3) := by decide +kernel
theorem dX9_line_5 : decode cX9_line 5 = .ok (.invokestatic 86, 3) := by decide +kernel
theorem dX9_line_8 : decode cX9_line 8 = .ok (.ifCond .eq 12, 3) := by decide +kernel
theorem dX9_line_11 : decode cX9_line 11 = .ok (.iload_n 2, 1) := by decide +kernel
theorem dX9_line_12 : decode cX9_line 12 = .ok (.iconst 0, 1) := by decide +kernel
theorem dX9_line_13 : decode cX9_line 13 = .ok (.iconst 4, 1) := by decide +kernel
theorem dX9_line_14 : decode cX9_line 14 = .ok (.invokestatic 86, 3) := by decide +kernel
theorem dX9_line_17 : decode cX9_line 17 = .ok (.ifCond .ne 6, 3) := by decide +kernel
theorem dX9_line_20 : decode cX9_line 20 = .ok (.bipush (-2), 2) := by decide +kernel
theorem dX9_line_22 : decode cX9_line 22 = .ok (.ireturn, 1) := by decide +kernel
theorem dX9_line_23 : decode cX9_line 23 = .ok (.aload_n 0, 1) := by decide +kernel
theorem dX9_line_24 : decode cX9_line 24 = .ok (.invokevirtual 137, 3) := by decide +kernel
theorem dX9_line_27 : decode cX9_line 27 = .ok (.astore_n 3, 1) := by decide +kernel
theorem dX9_line_28 : decode cX9_line 28 = .ok (.aload_n 3, 1) := by decide +kernel
theorem dX9_line_29 : decode cX9_line 29 = .ok (.invokevirtual 235, 3) := by decide +kernel
theorem dX9_line_32 : decode cX9_line 32 = .ok (.ifCond .ne 6, 3) := by decide +kernel
theorem dX9_line_35 : decode cX9_line 35 = .ok (.bipush (-3), 2) := by decide +kernel
theorem dX9_line_37 : decode cX9_line 37 = .ok (.ireturn, 1) := by decide +kernel
theorem dX9_line_38 : decode cX9_line 38 = .ok (.iload_n 2, 1) := by decide +kernel
theorem dX9_line_39 : decode cX9_line 39 = .ok (.tableswitch 55 0 3 #[29, 35, 42, 49], 29) := by decide +kernel
theorem dX9_line_68 : decode cX9_line 68 = .ok (.aload_n 3, 1) := by decide +kernel
theorem dX9_line_69 : decode cX9_line 69 = .ok (.iload_n 1, 1) := by decide +kernel
theorem dX9_line_70 : decode cX9_line 70 = .ok (.invokevirtual 238, 3) := by decide +kernel
theorem dX9_line_73 : decode cX9_line 73 = .ok (.ireturn, 1) := by decide +kernel
theorem dX9_line_74 : decode cX9_line 74 = .ok (.aload_n 3, 1) := by decide +kernel
theorem dX9_line_75 : decode cX9_line 75 = .ok (.iload_n 1, 1) := by decide +kernel
theorem dX9_line_76 : decode cX9_line 76 = .ok (.iconst 1, 1) := by decide +kernel
theorem dX9_line_77 : decode cX9_line 77 = .ok (.invokevirtual 241, 3) := by decide +kernel
theorem dX9_line_80 : decode cX9_line 80 = .ok (.ireturn, 1) := by decide +kernel
theorem dX9_line_81 : decode cX9_line 81 = .ok (.aload_n 3, 1) := by decide +kernel
theorem dX9_line_82 : decode cX9_line 82 = .ok (.iload_n 1, 1) := by decide +kernel
theorem dX9_line_83 : decode cX9_line 83 = .ok (.iconst 0, 1) := by decide +kernel
theorem dX9_line_84 : decode cX9_line 84 = .ok (.invokevirtual 241, 3) := by decide +kernel
theorem dX9_line_87 : decode cX9_line 87 = .ok (.ireturn, 1) := by decide +kernel
theorem dX9_line_88 : decode cX9_line 88 = .ok (.aload_n 3, 1) := by decide +kernel
theorem dX9_line_89 : decode cX9_line 89 = .ok (.iload_n 1, 1) := by decide +kernel
theorem dX9_line_90 : decode cX9_line 90 = .ok (.invokevirtual 245, 3) := by decide +kernel
theorem dX9_line_93 : decode cX9_line 93 = .ok (.ireturn, 1) := by decide +kernel
theorem dX9_line_94 : decode cX9_line 94 = .ok (.aload_n 3, 1) := by decide +kernel
theorem dX9_line_95 : decode cX9_line 95 = .ok (.aload_n 0, 1) := by decide +kernel
theorem dX9_line_96 : decode cX9_line 96 = .ok (.getfield 12, 3) := by decide +kernel
theorem dX9_line_99 : decode cX9_line 99 = .ok (.iload_n 1, 1) := by decide +kernel
theorem dX9_line_100 : decode cX9_line 100 = .ok (.invokevirtual 248, 3) := by decide +kernel
theorem dX9_line_103 : decode cX9_line 103 = .ok (.ireturn, 1) := by decide +kernel
theorem dX9_draw_0 : decode cX9_draw 0 = .ok (.aload_n 0, 1) := by decide +kernel
theorem dX9_draw_1 : decode cX9_draw 1 = .ok (.iconst 0, 1) := by decide +kernel
theorem dX9_draw_2 : decode cX9_draw 2 = .ok (.putfield 76, 3) := by decide +kernel
theorem dX9_draw_5 : decode cX9_draw 5 = .ok (.iload 5, 2) := by decide +kernel
theorem dX9_draw_7 : decode cX9_draw 7 = .ok (.invokestatic 150, 3) := by decide +kernel
theorem dX9_draw_10 : decode cX9_draw 10 = .ok (.ifCond .ne 5, 3) := by decide +kernel
theorem dX9_draw_13 : decode cX9_draw 13 = .ok (.iconst (-1), 1) := by decide +kernel
theorem dX9_draw_14 : decode cX9_draw 14 = .ok (.ireturn, 1) := by decide +kernel
theorem dX9_draw_15 : decode cX9_draw 15 = .ok (.iload 6, 2) := by decide +kernel
theorem dX9_draw_17 : decode cX9_draw 17 = .ok (.iconst 3, 1) := by decide +kernel
theorem dX9_draw_18 : decode cX9_draw 18 = .ok (.invokestatic 79, 3) := by decide +kernel
theorem dX9_draw_21 : decode cX9_draw 21 = .ok (.ifCond .eq 19, 3) := by decide +kernel
theorem dX9_draw_24 : decode cX9_draw 24 = .ok (.iload_n 1, 1) := by decide +kernel
theorem dX9_draw_25 : decode cX9_draw 25 = .ok (.iconst 2, 1) := by decide +kernel
theorem dX9_draw_26 : decode cX9_draw 26 = .ok (.invokestatic 79, 3) := by decide +kernel
theorem dX9_draw_29 : decode cX9_draw 29 = .ok (.ifCond .eq 11, 3) := by decide +kernel
theorem dX9_draw_32 : decode cX9_draw 32 = .ok (.iload_n 2, 1) := by decide +kernel
theorem dX9_draw_33 : decode cX9_draw 33 = .ok (.iconst 3, 1) := by decide +kernel
theorem dX9_draw_34 : decode cX9_draw 34 = .ok (.invokestatic 79, 3) := by decide +kernel
theorem dX9_draw_37 : decode cX9_draw 37 = .ok (.ifCond .ne 6, 3) := by decide +kernel
theorem dX9_draw_40 : decode cX9_draw 40 = .ok (.bipush (-2), 2) := by decide +kernel
theorem dX9_draw_42 : decode cX9_draw 42 = .ok (.ireturn, 1) := by decide +kernel
theorem dX9_draw_43 : decode cX9_draw 43 = .ok (.iload_n 3, 1) := by decide +kernel
theorem dX9_draw_44 : decode cX9_draw 44 = .ok (.ifCond .lt 16, 3) := by decide +kernel
theorem dX9_draw_47 : decode cX9_draw 47 = .ok (.iload_n 3, 1) := by decide +kernel
theorem dX9_draw_48 : decode cX9_draw 48 = .ok (.iload 4, 2) := by decide +kernel
theorem dX9_draw_50 : decode cX9_draw 50 = .ok (.if_icmp .ge 10, 3) := by decide +kernel
theorem dX9_draw_53 : decode cX9_draw 53 = .ok (.iload 4, 2) := by decide +kernel
theorem dX9_draw_55 : decode cX9_draw 55 = .ok (.bipush 12, 2) := by decide +kernel
theorem dX9_draw_57 : decode cX9_draw 57 = .ok (.if_icmp .lt 6, 3) := by decide +kernel
theorem dX9_draw_60 : decode cX9_draw 60 = .ok (.bipush (-2), 2) := by decide +kernel
theorem dX9_draw_62 : decode cX9_draw 62 = .ok (.ireturn, 1) := by decide +kernel
theorem dX9_draw_63 : decode cX9_draw 63 = .ok (.aload_n 0, 1) := by decide +kernel
theorem dX9_draw_64 : decode cX9_draw 64 = .ok (.getfield 67, 3) := by decide +kernel
theorem dX9_draw_67 : decode cX9_draw 67 = .ok (.iload 5, 2) := by decide +kernel
theorem dX9_draw_69 : decode cX9_draw 69 = .ok (.aaload, 1) := by decide +kernel
theorem dX9_draw_70 : decode cX9_draw 70 = .ok (.iload 6, 2) := by decide +kernel
theorem dX9_draw_72 : decode cX9_draw 72 = .ok (.iload 7, 2) := by decide +kernel
theorem dX9_draw_74 : decode cX9_draw 74 = .ok (.ldc2_w 252, 3) := by decide +kernel
theorem dX9_draw_77 : decode cX9_draw 77 = .ok (.iload 8, 2) := by decide +kernel
theorem dX9_draw_79 : decode cX9_draw 79 = .ok (.i2l, 1) := by decide +kernel
theorem dX9_draw_80 : decode cX9_draw 80 = .ok (.lmul, 1) := by decide +kernel
theorem dX9_draw_81 : decode cX9_draw 81 = .ok (.invokevirtual 155, 3) := by decide +kernel
theorem dX9_draw_84 : decode cX9_draw 84 = .ok (.istore 9, 2) := by decide +kernel
theorem dX9_draw_86 : decode cX9_draw 86 = .ok (.iload 9, 2) := by decide +kernel
theorem dX9_draw_88 : decode cX9_draw 88 = .ok (.ifCond .eq 10, 3) := by decide +kernel
theorem dX9_draw_91 : decode cX9_draw 91 = .ok (.aload_n 0, 1) := by decide +kernel
theorem dX9_draw_92 : decode cX9_draw 92 = .ok (.iload 9, 2) := by decide +kernel
theorem dX9_draw_94 : decode cX9_draw 94 = .ok (.invokevirtual 159, 3) := by decide +kernel
theorem dX9_draw_97 : decode cX9_draw 97 = .ok (.ireturn, 1) := by decide +kernel
theorem dX9_draw_98 : decode cX9_draw 98 = .ok (.aload_n 0, 1) := by decide +kernel
theorem dX9_draw_99 : decode cX9_draw 99 = .ok (.getfield 42, 3) := by decide +kernel
theorem dX9_draw_102 : decode cX9_draw 102 = .ok (.aload_n 0, 1) := by decide +kernel
theorem dX9_draw_103 : decode cX9_draw 103 = .ok (.getfield 67, 3) := by decide +kernel
theorem dX9_draw_106 : decode cX9_draw 106 = .ok (.iload 5, 2) := by decide +kernel
theorem dX9_draw_108 : decode cX9_draw 108 = .ok (.aaload, 1) := by decide +kernel
theorem dX9_draw_109 : decode cX9_draw 109 = .ok (.getfield 162, 3) := by decide +kernel
theorem dX9_draw_112 : decode cX9_draw 112 = .ok (.iload 7, 2) := by decide +kernel
theorem dX9_draw_114 : decode cX9_draw 114 = .ok (.iload 8, 2) := by decide +kernel
theorem dX9_draw_116 : decode cX9_draw 116 = .ok (.invokevirtual 254, 3) := by decide +kernel
theorem dX9_draw_119 : decode cX9_draw 119 = .ok (.ifCond .ne 6, 3) := by decide +kernel
theorem dX9_draw_122 : decode cX9_draw 122 = .ok (.bipush (-2), 2) := by decide +kernel
theorem dX9_draw_124 : decode cX9_draw 124 = .ok (.ireturn, 1) := by decide +kernel
theorem dX9_draw_125 : decode cX9_draw 125 = .ok (.aload_n 0, 1) := by decide +kernel
theorem dX9_draw_126 : decode cX9_draw 126 = .ok (.getfield 42, 3) := by decide +kernel
theorem dX9_draw_129 : decode cX9_draw 129 = .ok (.iload_n 3, 1) := by decide +kernel
theorem dX9_draw_130 : decode cX9_draw 130 = .ok (.iload 4, 2) := by decide +kernel
theorem dX9_draw_132 : decode cX9_draw 132 = .ok (.invokevirtual 258, 3) := by decide +kernel
theorem dX9_draw_135 : decode cX9_draw 135 = .ok (.istore 10, 2) := by decide +kernel
theorem dX9_draw_137 : decode cX9_draw 137 = .ok (.iload 10, 2) := by decide +kernel
theorem dX9_draw_139 : decode cX9_draw 139 = .ok (.bipush (-9), 2) := by decide +kernel
theorem dX9_draw_141 : decode cX9_draw 141 = .ok (.if_icmp .ne 6, 3) := by decide +kernel
theorem dX9_draw_144 : decode cX9_draw 144 = .ok (.bipush (-3), 2) := by decide +kernel
theorem dX9_draw_146 : decode cX9_draw 146 = .ok (.ireturn, 1) := by decide +kernel
theorem dX9_draw_147 : decode cX9_draw 147 = .ok (.aload_n 0, 1) := by decide +kernel
theorem dX9_draw_148 : decode cX9_draw 148 = .ok (.iload_n 1, 1) := by decide +kernel
theorem dX9_draw_149 : decode cX9_draw 149 = .ok (.invokevirtual 261, 3) := by decide +kernel
theorem dX9_draw_152 : decode cX9_draw 152 = .ok (.astore 11, 2) := by decide +kernel
theorem dX9_draw_154 : decode cX9_draw 154 = .ok (.aload 11, 2) := by decide +kernel
theorem dX9_draw_156 : decode cX9_draw 156 = .ok (.invokevirtual 93, 3) := by decide +kernel
theorem dX9_draw_159 : decode cX9_draw 159 = .ok (.iconst 5, 1) := by decide +kernel
theorem dX9_draw_160 : decode cX9_draw 160 = .ok (.if_icmp .lt 6, 3) := by decide +kernel
theorem dX9_draw_163 : decode cX9_draw 163 = .ok (.bipush (-4), 2) := by decide +kernel
theorem dX9_draw_165 : decode cX9_draw 165 = .ok (.ireturn, 1) := by decide +kernel
theorem dX9_draw_166 : decode cX9_draw 166 = .ok (.aload 11, 2) := by decide +kernel
theorem dX9_draw_168 : decode cX9_draw 168 = .ok (.aload_n 0, 1) := by decide +kernel
theorem dX9_draw_169 : decode cX9_draw 169 = .ok (.getfield 42, 3) := by decide +kernel
theorem dX9_draw_172 : decode cX9_draw 172 = .ok (.iload_n 2, 1) := by decide +kernel
theorem dX9_draw_173 : decode cX9_draw 173 = .ok (.iload_n 3, 1) := by decide +kernel
theorem dX9_draw_174 : decode cX9_draw 174 = .ok (.iload 4, 2) := by decide +kernel
theorem dX9_draw_176 : decode cX9_draw 176 = .ok (.iload 10, 2) := by decide +kernel
theorem dX9_draw_178 : decode cX9_draw 178 = .ok (.invokevirtual 265, 3) := by decide +kernel
theorem dX9_draw_181 : decode cX9_draw 181 = .ok (.invokevirtual 102, 3) := by decide +kernel
theorem dX9_draw_184 : decode cX9_draw 184 = .ok (.pop, 1) := by decide +kernel
theorem dX9_draw_185 : decode cX9_draw 185 = .ok (.aload 11, 2) := by decide +kernel
theorem dX9_draw_187 : decode cX9_draw 187 = .ok (.invokevirtual 93, 3) := by decide +kernel
theorem dX9_draw_190 : decode cX9_draw 190 = .ok (.iconst 1, 1) := by decide +kernel
theorem dX9_draw_191 : decode cX9_draw 191 = .ok (.isub, 1) := by decide +kernel
theorem dX9_draw_192 : decode cX9_draw 192 = .ok (.ireturn, 1) := by decide +kernel
theorem dX9_front_0 : decode cX9_front 0 = .ok (.iload_n 1, 1) := by decide +kernel
theorem dX9_front_1 : decode cX9_front 1 = .ok (.iconst 2, 1) := by decide +kernel
theorem dX9_front_2 : decode cX9_front 2 = .ok (.invokestatic 79, 3) := by decide +kernel
theorem dX9_front_5 : decode cX9_front 5 = .ok (.ifCond .ne 6, 3) := by decide +kernel
theorem dX9_front_8 : decode cX9_front 8 = .ok (.bipush (-2), 2) := by decide +kernel
theorem dX9_front_10 : decode cX9_front 10 = .ok (.ireturn, 1) := by decide +kernel
theorem dX9_front_11 : decode cX9_front 11 = .ok (.iload_n 2, 1) := by decide +kernel
theorem dX9_front_12 : decode cX9_front 12 = .ok (.aload_n 0, 1) := by decide +kernel
theorem dX9_front_13 : decode cX9_front 13 = .ok (.iload_n 1, 1) := by decide +kernel
theorem dX9_front_14 : decode cX9_front 14 = .ok (.invokevirtual 261, 3) := by decide +kernel
theorem dX9_front_17 : decode cX9_front 17 = .ok (.invokevirtual 93, 3) := by decide +kernel
theorem dX9_front_20 : decode cX9_front 20 = .ok (.invokestatic 79, 3) := by decide +kernel
theorem dX9_front_23 : decode cX9_front 23 = .ok (.ifCond .ne 5, 3) := by decide +kernel
theorem dX9_front_26 : decode cX9_front 26 = .ok (.iconst (-1), 1) := by decide +kernel
theorem dX9_front_27 : decode cX9_front 27 = .ok (.ireturn, 1) := by decide +kernel
theorem dX9_front_28 : decode cX9_front 28 = .ok (.aload_n 0, 1) := by decide +kernel
theorem dX9_front_29 : decode cX9_front 29 = .ok (.iload_n 1, 1) := by decide +kernel
theorem dX9_front_30 : decode cX9_front 30 = .ok (.invokevirtual 261, 3) := by decide +kernel
theorem dX9_front_33 : decode cX9_front 33 = .ok (.iload_n 2, 1) := by decide +kernel
theorem dX9_front_34 : decode cX9_front 34 = .ok (.invokevirtual 113, 3) := by decide +kernel
theorem dX9_front_37 : decode cX9_front 37 = .ok (.checkcast 269, 3) := by decide +kernel
theorem dX9_front_40 : decode cX9_front 40 = .ok (.astore 4, 2) := by decide +kernel
theorem dX9_front_42 : decode cX9_front 42 = .ok (.iload_n 3, 1) := by decide +kernel
theorem dX9_front_43 : decode cX9_front 43 = .ok (.tableswitch 64 0 4 #[33, 39, 45, 51, 57], 33) := by decide +kernel
theorem dX9_front_76 : decode cX9_front 76 = .ok (.aload 4, 2) := by decide +kernel
theorem dX9_front_78 : decode cX9_front 78 = .ok (.getfield 271, 3) := by decide +kernel
theorem dX9_front_81 : decode cX9_front 81 = .ok (.ireturn, 1) := by decide +kernel
theorem dX9_front_82 : decode cX9_front 82 = .ok (.aload 4, 2) := by decide +kernel
theorem dX9_front_84 : decode cX9_front 84 = .ok (.getfield 272, 3) := by decide +kernel
theorem dX9_front_87 : decode cX9_front 87 = .ok (.ireturn, 1) := by decide +kernel
theorem dX9_front_88 : decode cX9_front 88 = .ok (.aload 4, 2) := by decide +kernel
theorem dX9_front_90 : decode cX9_front 90 = .ok (.getfield 275, 3) := by decide +kernel
theorem dX9_front_93 : decode cX9_front 93 = .ok (.ireturn, 1) := by decide +kernel
theorem dX9_front_94 : decode cX9_front 94 = .ok (.aload 4, 2) := by decide +kernel
theorem dX9_front_96 : decode cX9_front 96 = .ok (.getfield 278, 3) := by decide +kernel
theorem dX9_front_99 : decode cX9_front 99 = .ok (.ireturn, 1) := by decide +kernel
theorem dX9_front_100 : decode cX9_front 100 = .ok (.aload_n 0, 1) := by decide +kernel
theorem dX9_front_101 : decode cX9_front 101 = .ok (.iload_n 1, 1) := by decide +kernel
theorem dX9_front_102 : decode cX9_front 102 = .ok (.iload_n 2, 1) := by decide +kernel
theorem dX9_front_103 : decode cX9_front 103 = .ok (.invokevirtual 281, 3) := by decide +kernel
theorem dX9_front_106 : decode cX9_front 106 = .ok (.ireturn, 1) := by decide +kernel
theorem dX9_front_107 : decode cX9_front 107 = .ok (.bipush (-2), 2) := by decide +kernel
theorem dX9_front_109 : decode cX9_front 109 = .ok (.ireturn, 1) := by decide +kernel
theorem dX9_yOf_0 : decode cX9_yOf 0 = .ok (.iload_n 1, 1) := by decide +kernel
theorem dX9_yOf_1 : decode cX9_yOf 1 = .ok (.iconst 2, 1) := by decide +kernel
theorem dX9_yOf_2 : decode cX9_yOf 2 = .ok (.invokestatic 79, 3) := by decide +kernel
theorem dX9_yOf_5 : decode cX9_yOf 5 = .ok (.ifCond .ne 6, 3) := by decide +kernel
theorem dX9_yOf_8 : decode cX9_yOf 8 = .ok (.bipush (-2), 2) := by decide +kernel
theorem dX9_yOf_10 : decode cX9_yOf 10 = .ok (.ireturn, 1) := by decide +kernel
theorem dX9_yOf_11 : decode cX9_yOf 11 = .ok (.iload_n 2, 1) := by decide +kernel
theorem dX9_yOf_12 : decode cX9_yOf 12 = .ok (.aload_n 0, 1) := by decide +kernel
theorem dX9_yOf_13 : decode cX9_yOf 13 = .ok (.iload_n 1, 1) := by decide +kernel
theorem dX9_yOf_14 : decode cX9_yOf 14 = .ok (.invokevirtual 261, 3) := by decide +kernel
theorem dX9_yOf_17 : decode cX9_yOf 17 = .ok (.invokevirtual 93, 3) := by decide +kernel
theorem dX9_yOf_20 : decode cX9_yOf 20 = .ok (.invokestatic 79, 3) := by decide +kernel
theorem dX9_yOf_23 : decode cX9_yOf 23 = .ok (.ifCond .ne 5, 3) := by decide +kernel
theorem dX9_yOf_26 : decode cX9_yOf 26 = .ok (.iconst (-1), 1) := by decide +kernel
theorem dX9_yOf_27 : decode cX9_yOf 27 = .ok (.ireturn, 1) := by decide +kernel
theorem dX9_yOf_28 : decode cX9_yOf 28 = .ok (.aload_n 0, 1) := by decide +kernel
theorem dX9_yOf_29 : decode cX9_yOf 29 = .ok (.iload_n 1, 1) := by decide +kernel
theorem dX9_yOf_30 : decode cX9_yOf 30 = .ok (.invokevirtual 261, 3) := by decide +kernel
theorem dX9_yOf_33 : decode cX9_yOf 33 = .ok (.iload_n 2, 1) := by decide +kernel
theorem dX9_yOf_34 : decode cX9_yOf 34 = .ok (.invokevirtual 113, 3) := by decide +kernel
theorem dX9_yOf_37 : decode cX9_yOf 37 = .ok (.checkcast 269, 3) := by decide +kernel
theorem dX9_yOf_40 : decode cX9_yOf 40 = .ok (.astore 4, 2) := by decide +kernel
theorem dX9_yOf_42 : decode cX9_yOf 42 = .ok (.iload_n 3, 1) := by decide +kernel
theorem dX9_yOf_43 : decode cX9_yOf 43 = .ok (.aload 4, 2) := by decide +kernel
theorem dX9_yOf_45 : decode cX9_yOf 45 = .ok (.getfield 272, 3) := by decide +kernel
theorem dX9_yOf_48 : decode cX9_yOf 48 = .ok (.aload 4, 2) := by decide +kernel
theorem dX9_yOf_50 : decode cX9_yOf 50 = .ok (.getfield 275, 3) := by decide +kernel
theorem dX9_yOf_53 : decode cX9_yOf 53 = .ok (.invokestatic 86, 3) := by decide +kernel
theorem dX9_yOf_56 : decode cX9_yOf 56 = .ok (.ifCond .ne 5, 3) := by decide +kernel
theorem dX9_yOf_59 : decode cX9_yOf 59 = .ok (.iconst (-1), 1) := by decide +kernel
theorem dX9_yOf_60 : decode cX9_yOf 60 = .ok (.ireturn, 1) := by decide +kernel
theorem dX9_yOf_61 : decode cX9_yOf 61 = .ok (.aload 4, 2) := by decide +kernel
theorem dX9_yOf_63 : decode cX9_yOf 63 = .ok (.getfield 284, 3) := by decide +kernel
theorem dX9_yOf_66 : decode cX9_yOf 66 = .ok (.iload_n 3, 1) := by decide +kernel
theorem dX9_yOf_67 : decode cX9_yOf 67 = .ok (.iaload, 1) := by decide +kernel
theorem dX9_yOf_68 : decode cX9_yOf 68 = .ok (.ireturn, 1) := by decide +kernel
theorem dX9_joining_0 : decode cX9_joining 0 = .ok (.aload_n 0, 1) := by decide +kernel
theorem dX9_joining_1 : decode cX9_joining 1 = .ok (.getfield 49, 3) := by decide +kernel
theorem dX9_joining_4 : decode cX9_joining 4 = .ok (.aload_n 0, 1) := by decide +kernel
theorem dX9_joining_5 : decode cX9_joining 5 = .ok (.getfield 32, 3) := by decide +kernel
theorem dX9_joining_8 : decode cX9_joining 8 = .ok (.aload_n 0, 1) := by decide +kernel
theorem dX9_joining_9 : decode cX9_joining 9 = .ok (.getfield 36, 3) := by decide +kernel
theorem dX9_joining_12 : decode cX9_joining 12 = .ok (.invokevirtual 287, 3) := by decide +kernel
theorem dX9_joining_15 : decode cX9_joining 15 = .ok (.ireturn, 1) := by decide +kernel
theorem dX9_night_0 : decode cX9_night 0 = .ok (.aload_n 0, 1) := by decide +kernel
theorem dX9_night_1 : decode cX9_night 1 = .ok (.getfield 32, 3) := by decide +kernel
theorem dX9_night_4 : decode cX9_night 4 = .ok (.astore_n 1, 1) := by decide +kernel
theorem dX9_night_5 : decode cX9_night 5 = .ok (.aload_n 0, 1) := by decide +kernel
theorem dX9_night_6 : decode cX9_night 6 = .ok (.aload_n 0, 1) := by decide +kernel
theorem dX9_night_7 : decode cX9_night 7 = .ok (.getfield 36, 3) := by decide +kernel
theorem dX9_night_10 : decode cX9_night 10 = .ok (.putfield 32, 3) := by decide +kernel
theorem dX9_night_13 : decode cX9_night 13 = .ok (.aload_n 1, 1) := by decide +kernel
theorem dX9_night_14 : decode cX9_night 14 = .ok (.invokevirtual 291, 3) := by decide +kernel
theorem dX9_night_17 : decode cX9_night 17 = .ok (.aload_n 0, 1) := by decide +kernel
theorem dX9_night_18 : decode cX9_night 18 = .ok (.aload_n 1, 1) := by decide +kernel
theorem dX9_night_19 : decode cX9_night 19 = .ok (.putfield 36, 3) := by decide +kernel
theorem dX9_night_22 : decode cX9_night 22 = .ok (.aload_n 0, 1) := by decide +kernel
theorem dX9_night_23 : decode cX9_night 23 = .ok (.getfield 32, 3) := by decide +kernel
theorem dX9_night_26 : decode cX9_night 26 = .ok (.invokevirtual 93, 3) := by decide +kernel
theorem dX9_night_29 : decode cX9_night 29 = .ok (.ireturn, 1) := by decide +kernel
theorem dX9_prognosis_0 : decode cX9_prognosis 0 = .ok (.iload_n 1, 1) := by decide +kernel
theorem dX9_prognosis_1 : decode cX9_prognosis 1 = .ok (.bipush (-11), 2) := by decide +kernel
theorem dX9_prognosis_3 : decode cX9_prognosis 3 = .ok (.bipush 11, 2) := by decide +kernel
theorem dX9_prognosis_5 : decode cX9_prognosis 5 = .ok (.invokestatic 86, 3) := by decide +kernel
theorem dX9_prognosis_8 : decode cX9_prognosis 8 = .ok (.ifCond .eq 14, 3) := by decide +kernel
theorem dX9_prognosis_11 : decode cX9_prognosis 11 = .ok (.iload_n 2, 1) := by decide +kernel
theorem dX9_prognosis_12 : decode cX9_prognosis 12 = .ok (.bipush (-11), 2) := by decide +kernel
theorem dX9_prognosis_14 : decode cX9_prognosis 14 = .ok (.bipush 11, 2) := by decide +kernel
theorem dX9_prognosis_16 : decode cX9_prognosis 16 = .ok (.invokestatic 86, 3) := by decide +kernel
theorem dX9_prognosis_19 : decode cX9_prognosis 19 = .ok (.ifCond .ne 6, 3) := by decide +kernel
theorem dX9_prognosis_22 : decode cX9_prognosis 22 = .ok (.bipush (-2), 2) := by decide +kernel
theorem dX9_prognosis_24 : decode cX9_prognosis 24 = .ok (.ireturn, 1) := by decide +kernel
theorem dX9_prognosis_25 : decode cX9_prognosis 25 = .ok (.iload_n 3, 1) := by decide +kernel
theorem dX9_prognosis_26 : decode cX9_prognosis 26 = .ok (.iload 4, 2) := by decide +kernel
theorem dX9_prognosis_28 : decode cX9_prognosis 28 = .ok (.invokestatic 83, 3) := by decide +kernel
theorem dX9_prognosis_31 : decode cX9_prognosis 31 = .ok (.ifCond .ne 5, 3) := by decide +kernel
theorem dX9_prognosis_34 : decode cX9_prognosis 34 = .ok (.iconst (-1), 1) := by decide +kernel
theorem dX9_prognosis_35 : decode cX9_prognosis 35 = .ok (.ireturn, 1) := by decide +kernel
theorem dX9_prognosis_36 : decode cX9_prognosis 36 = .ok (.aload_n 0, 1) := by decide +kernel
theorem dX9_prognosis_37 : decode cX9_prognosis 37 = .ok (.invokevirtual 137, 3) := by decide +kernel
theorem dX9_prognosis_40 : decode cX9_prognosis 40 = .ok (.iload_n 1, 1) := by decide +kernel
theorem dX9_prognosis_41 : decode cX9_prognosis 41 = .ok (.iload_n 2, 1) := by decide +kernel
theorem dX9_prognosis_42 : decode cX9_prognosis 42 = .ok (.iload_n 3, 1) := by decide +kernel
theorem dX9_prognosis_43 : decode cX9_prognosis 43 = .ok (.iload 4, 2) := by decide +kernel
theorem dX9_prognosis_45 : decode cX9_prognosis 45 = .ok (.invokevirtual 294, 3) := by decide +kernel
theorem dX9_prognosis_48 : decode cX9_prognosis 48 = .ok (.ireturn, 1) := by decide +kernel
theorem dX9_keep_0 : decode cX9_keep 0 = .ok (.iload_n 1, 1) := by decide +kernel
theorem dX9_keep_1 : decode cX9_keep 1 = .ok (.iconst 4, 1) := by decide +kernel
theorem dX9_keep_2 : decode cX9_keep 2 = .ok (.invokestatic 79, 3) := by decide +kernel
theorem dX9_keep_5 : decode cX9_keep 5 = .ok (.ifCond .ne 5, 3) := by decide +kernel
theorem dX9_keep_8 : decode cX9_keep 8 = .ok (.iconst (-1), 1) := by decide +kernel
theorem dX9_keep_9 : decode cX9_keep 9 = .ok (.ireturn, 1) := by decide +kernel
theorem dX9_keep_10 : decode cX9_keep 10 = .ok (.aload_n 0, 1) := by decide +kernel
theorem dX9_keep_11 : decode cX9_keep 11 = .ok (.invokevirtual 137, 3) := by decide +kernel
theorem dX9_keep_14 : decode cX9_keep 14 = .ok (.astore_n 2, 1) := by decide +kernel
theorem dX9_keep_15 : decode cX9_keep 15 = .ok (.aload_n 2, 1) := by decide +kernel
theorem dX9_keep_16 : decode cX9_keep 16 = .ok (.getfield 232, 3) := by decide +kernel
theorem dX9_keep_19 : decode cX9_keep 19 = .ok (.iconst 0, 1) := by decide +kernel
theorem dX9_keep_20 : decode cX9_keep 20 = .ok (.aload_n 0, 1) := by decide +kernel
theorem dX9_keep_21 : decode cX9_keep 21 = .ok (.getfield 55, 3) := by decide +kernel
theorem dX9_keep_24 : decode cX9_keep 24 = .ok (.iload_n 1, 1) := by decide +kernel
theorem dX9_keep_25 : decode cX9_keep 25 = .ok (.aaload, 1) := by decide +kernel
theorem dX9_keep_26 : decode cX9_keep 26 = .ok (.iconst 0, 1) := by decide +kernel
theorem dX9_keep_27 : decode cX9_keep 27 = .ok (.sipush 144, 3) := by decide +kernel
theorem dX9_keep_30 : decode cX9_keep 30 = .ok (.invokestatic 298, 3) := by decide +kernel
theorem dX9_keep_33 : decode cX9_keep 33 = .ok (.aload_n 0, 1) := by decide +kernel
theorem dX9_keep_34 : decode cX9_keep 34 = .ok (.getfield 58, 3) := by decide +kernel
theorem dX9_keep_37 : decode cX9_keep 37 = .ok (.iload_n 1, 1) := by decide +kernel
theorem dX9_keep_38 : decode cX9_keep 38 = .ok (.iconst 1, 1) := by decide +kernel
theorem dX9_keep_39 : decode cX9_keep 39 = .ok (.bastore, 1) := by decide +kernel
theorem dX9_keep_40 : decode cX9_keep 40 = .ok (.aload_n 2, 1) := by decide +kernel
theorem dX9_keep_41 : decode cX9_keep 41 = .ok (.invokevirtual 235, 3) := by decide +kernel
theorem dX9_keep_44 : decode cX9_keep 44 = .ok (.ireturn, 1) := by decide +kernel
theorem dX9_beside_0 : decode cX9_beside 0 = .ok (.iload_n 1, 1) := by decide +kernel
theorem dX9_beside_1 : decode cX9_beside 1 = .ok (.bipush (-11), 2) := by decide +kernel
theorem dX9_beside_3 : decode cX9_beside 3 = .ok (.bipush 11, 2) := by decide +kernel
theorem dX9_beside_5 : decode cX9_beside 5 = .ok (.invokestatic 86, 3) := by decide +kernel
theorem dX9_beside_8 : decode cX9_beside 8 = .ok (.ifCond .eq 14, 3) := by decide +kernel
theorem dX9_beside_11 : decode cX9_beside 11 = .ok (.iload_n 2, 1) := by decide +kernel
theorem dX9_beside_12 : decode cX9_beside 12 = .ok (.bipush (-11), 2) := by decide +kernel
theorem dX9_beside_14 : decode cX9_beside 14 = .ok (.bipush 11, 2) := by decide +kernel
theorem dX9_beside_16 : decode cX9_beside 16 = .ok (.invokestatic 86, 3) := by decide +kernel
theorem dX9_beside_19 : decode cX9_beside 19 = .ok (.ifCond .ne 7, 3) := by decide +kernel
theorem dX9_beside_22 : decode cX9_beside 22 = .ok (.ldc2_w 304, 3) := by decide +kernel
theorem dX9_beside_25 : decode cX9_beside 25 = .ok (.lreturn, 1) := by decide +kernel
theorem dX9_beside_26 : decode cX9_beside 26 = .ok (.iload 4, 2) := by decide +kernel
theorem dX9_beside_28 : decode cX9_beside 28 = .ok (.iconst 0, 1) := by decide +kernel
theorem dX9_beside_29 : decode cX9_beside 29 = .ok (.iconst 2, 1) := by decide +kernel
theorem dX9_beside_30 : decode cX9_beside 30 = .ok (.invokestatic 86, 3) := by decide +kernel
theorem dX9_beside_33 : decode cX9_beside 33 = .ok (.ifCond .eq 20, 3) := by decide +kernel
theorem dX9_beside_36 : decode cX9_beside 36 = .ok (.iload_n 3, 1) := by decide +kernel
theorem dX9_beside_37 : decode cX9_beside 37 = .ok (.iconst 4, 1) := by decide +kernel
theorem dX9_beside_38 : decode cX9_beside 38 = .ok (.invokestatic 79, 3) := by decide +kernel
theorem dX9_beside_41 : decode cX9_beside 41 = .ok (.ifCond .eq 12, 3) := by decide +kernel
theorem dX9_beside_44 : decode cX9_beside 44 = .ok (.aload_n 0, 1) := by decide +kernel
theorem dX9_beside_45 : decode cX9_beside 45 = .ok (.getfield 58, 3) := by decide +kernel
theorem dX9_beside_48 : decode cX9_beside 48 = .ok (.iload_n 3, 1) := by decide +kernel
theorem dX9_beside_49 : decode cX9_beside 49 = .ok (.baload, 1) := by decide +kernel
theorem dX9_beside_50 : decode cX9_beside 50 = .ok (.ifCond .ne 7, 3) := by decide +kernel
theorem dX9_beside_53 : decode cX9_beside 53 = .ok (.ldc2_w 304, 3) := by decide +kernel
theorem dX9_beside_56 : decode cX9_beside 56 = .ok (.lreturn, 1) := by decide +kernel
theorem dX9_beside_57 : decode cX9_beside 57 = .ok (.aload_n 0, 1) := by decide +kernel
theorem dX9_beside_58 : decode cX9_beside 58 = .ok (.invokevirtual 137, 3) := by decide +kernel
theorem dX9_beside_61 : decode cX9_beside 61 = .ok (.astore 5, 2) := by decide +kernel
theorem dX9_beside_63 : decode cX9_beside 63 = .ok (.aload 5, 2) := by decide +kernel
theorem dX9_beside_65 : decode cX9_beside 65 = .ok (.iload_n 1, 1) := by decide +kernel
theorem dX9_beside_66 : decode cX9_beside 66 = .ok (.iload_n 2, 1) := by decide +kernel
theorem dX9_beside_67 : decode cX9_beside 67 = .ok (.aload_n 0, 1) := by decide +kernel
theorem dX9_beside_68 : decode cX9_beside 68 = .ok (.getfield 55, 3) := by decide +kernel
theorem dX9_beside_71 : decode cX9_beside 71 = .ok (.iload_n 3, 1) := by decide +kernel
theorem dX9_beside_72 : decode cX9_beside 72 = .ok (.aaload, 1) := by decide +kernel
theorem dX9_beside_73 : decode cX9_beside 73 = .ok (.invokevirtual 306, 3) := by decide +kernel
theorem dX9_beside_76 : decode cX9_beside 76 = .ok (.iload 4, 2) := by decide +kernel
theorem dX9_beside_78 : decode cX9_beside 78 = .ok (.lookupswitch 40 #[(0, 26), (1, 33)], 26) := by decide +kernel
theorem dX9_beside_104 : decode cX9_beside 104 = .ok (.aload 5, 2) := by decide +kernel
theorem dX9_beside_106 : decode cX9_beside 106 = .ok (.getfield 310, 3) := by decide +kernel
theorem dX9_beside_109 : decode cX9_beside 109 = .ok (.i2l, 1) := by decide +kernel
theorem dX9_beside_110 : decode cX9_beside 110 = .ok (.lreturn, 1) := by decide +kernel
theorem dX9_beside_111 : decode cX9_beside 111 = .ok (.aload 5, 2) := by decide +kernel
theorem dX9_beside_113 : decode cX9_beside 113 = .ok (.getfield 313, 3) := by decide +kernel
theorem dX9_beside_116 : decode cX9_beside 116 = .ok (.i2l, 1) := by decide +kernel
theorem dX9_beside_117 : decode cX9_beside 117 = .ok (.lreturn, 1) := by decide +kernel
theorem dX9_beside_118 : decode cX9_beside 118 = .ok (.aload 5, 2) := by decide +kernel
theorem dX9_beside_120 : decode cX9_beside 120 = .ok (.getfield 316, 3) := by decide +kernel
theorem dX9_beside_123 : decode cX9_beside 123 = .ok (.i2l, 1) := by decide +kernel
theorem dX9_beside_124 : decode cX9_beside 124 = .ok (.lreturn, 1) := by decide +kernel
theorem dX9_drift_0 : decode cX9_drift 0 = .ok (.iload_n 1, 1) := by decide +kernel
theorem dX9_drift_1 : decode cX9_drift 1 = .ok (.iconst 4, 1) := by decide +kernel
theorem dX9_drift_2 : decode cX9_drift 2 = .ok (.invokestatic 79, 3) := by decide +kernel
theorem dX9_drift_5 : decode cX9_drift 5 = .ok (.ifCond .ne 5, 3) := by decide +kernel
theorem dX9_drift_8 : decode cX9_drift 8 = .ok (.iconst (-1), 1) := by decide +kernel
theorem dX9_drift_9 : decode cX9_drift 9 = .ok (.ireturn, 1) := by decide +kernel
theorem dX9_drift_10 : decode cX9_drift 10 = .ok (.iload_n 2, 1) := by decide +kernel
theorem dX9_drift_11 : decode cX9_drift 11 = .ok (.iconst 0, 1) := by decide +kernel
theorem dX9_drift_12 : decode cX9_drift 12 = .ok (.iconst 4, 1) := by decide +kernel
theorem dX9_drift_13 : decode cX9_drift 13 = .ok (.invokestatic 86, 3) := by decide +kernel
theorem dX9_drift_16 : decode cX9_drift 16 = .ok (.ifCond .ne 6, 3) := by decide +kernel
theorem dX9_drift_19 : decode cX9_drift 19 = .ok (.bipush (-2), 2) := by decide +kernel
theorem dX9_drift_21 : decode cX9_drift 21 = .ok (.ireturn, 1) := by decide +kernel
theorem dX9_drift_22 : decode cX9_drift 22 = .ok (.aload_n 0, 1) := by decide +kernel
theorem dX9_drift_23 : decode cX9_drift 23 = .ok (.getfield 58, 3) := by decide +kernel
theorem dX9_drift_26 : decode cX9_drift 26 = .ok (.iload_n 1, 1) := by decide +kernel
theorem dX9_drift_27 : decode cX9_drift 27 = .ok (.baload, 1) := by decide +kernel
theorem dX9_drift_28 : decode cX9_drift 28 = .ok (.ifCond .ne 6, 3) := by decide +kernel
theorem dX9_drift_31 : decode cX9_drift 31 = .ok (.bipush (-3), 2) := by decide +kernel
theorem dX9_drift_33 : decode cX9_drift 33 = .ok (.ireturn, 1) := by decide +kernel
theorem dX9_drift_34 : decode cX9_drift 34 = .ok (.aload_n 0, 1) := by decide +kernel
theorem dX9_drift_35 : decode cX9_drift 35 = .ok (.invokevirtual 137, 3) := by decide +kernel
theorem dX9_drift_38 : decode cX9_drift 38 = .ok (.aload_n 0, 1) := by decide +kernel
theorem dX9_drift_39 : decode cX9_drift 39 = .ok (.getfield 55, 3) := by decide +kernel
theorem dX9_drift_42 : decode cX9_drift 42 = .ok (.iload_n 1, 1) := by decide +kernel
theorem dX9_drift_43 : decode cX9_drift 43 = .ok (.aaload, 1) := by decide +kernel
theorem dX9_drift_44 : decode cX9_drift 44 = .ok (.iload_n 2, 1) := by decide +kernel
theorem dX9_drift_45 : decode cX9_drift 45 = .ok (.invokevirtual 319, 3) := by decide +kernel
theorem dX9_drift_48 : decode cX9_drift 48 = .ok (.istore_n 3, 1) := by decide +kernel
theorem dX9_drift_49 : decode cX9_drift 49 = .ok (.iload_n 3, 1) := by decide +kernel
theorem dX9_drift_50 : decode cX9_drift 50 = .ok (.bipush (-9), 2) := by decide +kernel
theorem dX9_drift_52 : decode cX9_drift 52 = .ok (.if_icmp .ne 8, 3) := by decide +kernel
theorem dX9_drift_55 : decode cX9_drift 55 = .ok (.bipush (-3), 2) := by decide +kernel
theorem dX9_drift_57 : decode cX9_drift 57 = .ok (.goto 4, 3) := by decide +kernel
theorem dX9_drift_60 : decode cX9_drift 60 = .ok (.iload_n 3, 1) := by decide +kernel
theorem dX9_drift_61 : decode cX9_drift 61 = .ok (.ireturn, 1) := by decide +kernel
theorem dX9_forecast_0 : decode cX9_forecast 0 = .ok (.aload_n 0, 1) := by decide +kernel
theorem dX9_forecast_1 : decode cX9_forecast 1 = .ok (.iconst 0, 1) := by decide +kernel
theorem dX9_forecast_2 : decode cX9_forecast 2 = .ok (.putfield 76, 3) := by decide +kernel
theorem dX9_forecast_5 : decode cX9_forecast 5 = .ok (.iload_n 1, 1) := by decide +kernel
theorem dX9_forecast_6 : decode cX9_forecast 6 = .ok (.invokestatic 150, 3) := by decide +kernel
theorem dX9_forecast_9 : decode cX9_forecast 9 = .ok (.ifCond .ne 5, 3) := by decide +kernel
theorem dX9_forecast_12 : decode cX9_forecast 12 = .ok (.iconst (-1), 1) := by decide +kernel
theorem dX9_forecast_13 : decode cX9_forecast 13 = .ok (.ireturn, 1) := by decide +kernel
theorem dX9_forecast_14 : decode cX9_forecast 14 = .ok (.iload_n 2, 1) := by decide +kernel
theorem dX9_forecast_15 : decode cX9_forecast 15 = .ok (.iconst 3, 1) := by decide +kernel
theorem dX9_forecast_16 : decode cX9_forecast 16 = .ok (.invokestatic 79, 3) := by decide +kernel
theorem dX9_forecast_19 : decode cX9_forecast 19 = .ok (.ifCond .ne 6, 3) := by decide +kernel
theorem dX9_forecast_22 : decode cX9_forecast 22 = .ok (.bipush (-2), 2) := by decide +kernel
theorem dX9_forecast_24 : decode cX9_forecast 24 = .ok (.ireturn, 1) := by decide +kernel
theorem dX9_forecast_25 : decode cX9_forecast 25 = .ok (.aload_n 0, 1) := by decide +kernel
theorem dX9_forecast_26 : decode cX9_forecast 26 = .ok (.getfield 67, 3) := by decide +kernel
theorem dX9_forecast_29 : decode cX9_forecast 29 = .ok (.iload_n 1, 1) := by decide +kernel
theorem dX9_forecast_30 : decode cX9_forecast 30 = .ok (.aaload, 1) := by decide +kernel
theorem dX9_forecast_31 : decode cX9_forecast 31 = .ok (.iload_n 2, 1) := by decide +kernel
theorem dX9_forecast_32 : decode cX9_forecast 32 = .ok (.iload_n 3, 1) := by decide +kernel
theorem dX9_forecast_33 : decode cX9_forecast 33 = .ok (.iload 4, 2) := by decide +kernel
theorem dX9_forecast_35 : decode cX9_forecast 35 = .ok (.i2l, 1) := by decide +kernel
theorem dX9_forecast_36 : decode cX9_forecast 36 = .ok (.invokevirtual 155, 3) := by decide +kernel
theorem dX9_forecast_39 : decode cX9_forecast 39 = .ok (.istore 5, 2) := by decide +kernel
theorem dX9_forecast_41 : decode cX9_forecast 41 = .ok (.iload 5, 2) := by decide +kernel
theorem dX9_forecast_43 : decode cX9_forecast 43 = .ok (.ifCond .eq 10, 3) := by decide +kernel
theorem dX9_forecast_46 : decode cX9_forecast 46 = .ok (.aload_n 0, 1) := by decide +kernel
theorem dX9_forecast_47 : decode cX9_forecast 47 = .ok (.iload 5, 2) := by decide +kernel
theorem dX9_forecast_49 : decode cX9_forecast 49 = .ok (.invokevirtual 159, 3) := by decide +kernel
theorem dX9_forecast_52 : decode cX9_forecast 52 = .ok (.ireturn, 1) := by decide +kernel
theorem dX9_forecast_53 : decode cX9_forecast 53 = .ok (.new 323, 3) := by decide +kernel
theorem dX9_forecast_56 : decode cX9_forecast 56 = .ok (.dup, 1) := by decide +kernel
theorem dX9_forecast_57 : decode cX9_forecast 57 = .ok (.invokespecial 325, 3) := by decide +kernel
theorem dX9_forecast_60 : decode cX9_forecast 60 = .ok (.astore 6, 2) := by decide +kernel
theorem dX9_forecast_62 : decode cX9_forecast 62 = .ok (.aload 6, 2) := by decide +kernel
theorem dX9_forecast_64 : decode cX9_forecast 64 = .ok (.aload_n 0, 1) := by decide +kernel
theorem dX9_forecast_65 : decode cX9_forecast 65 = .ok (.getfield 67, 3) := by decide +kernel
theorem dX9_forecast_68 : decode cX9_forecast 68 = .ok (.iload_n 1, 1) := by decide +kernel
theorem dX9_forecast_69 : decode cX9_forecast 69 = .ok (.aaload, 1) := by decide +kernel
theorem dX9_forecast_70 : decode cX9_forecast 70 = .ok (.getfield 162, 3) := by decide +kernel
theorem dX9_forecast_73 : decode cX9_forecast 73 = .ok (.iload_n 3, 1) := by decide +kernel
theorem dX9_forecast_74 : decode cX9_forecast 74 = .ok (.iload 4, 2) := by decide +kernel
theorem dX9_forecast_76 : decode cX9_forecast 76 = .ok (.invokevirtual 326, 3) := by decide +kernel
theorem dX9_forecast_79 : decode cX9_forecast 79 = .ok (.istore 7, 2) := by decide +kernel
theorem dX9_forecast_81 : decode cX9_forecast 81 = .ok (.iload 7, 2) := by decide +kernel
theorem dX9_forecast_83 : decode cX9_forecast 83 = .ok (.bipush (-9), 2) := by decide +kernel
theorem dX9_forecast_85 : decode cX9_forecast 85 = .ok (.if_icmp .eq 9, 3) := by decide +kernel
theorem dX9_forecast_88 : decode cX9_forecast 88 = .ok (.bipush (-100), 2) := by decide +kernel
theorem dX9_forecast_90 : decode cX9_forecast 90 = .ok (.iload 7, 2) := by decide +kernel
theorem dX9_forecast_92 : decode cX9_forecast 92 = .ok (.isub, 1) := by decide +kernel
theorem dX9_forecast_93 : decode cX9_forecast 93 = .ok (.ireturn, 1) := by decide +kernel
theorem dX9_forecast_94 : decode cX9_forecast 94 = .ok (.aload_n 0, 1) := by decide +kernel
theorem dX9_forecast_95 : decode cX9_forecast 95 = .ok (.getfield 62, 3) := by decide +kernel
theorem dX9_forecast_98 : decode cX9_forecast 98 = .ok (.invokevirtual 93, 3) := by decide +kernel
theorem dX9_forecast_101 : decode cX9_forecast 101 = .ok (.bipush 8, 2) := by decide +kernel
theorem dX9_forecast_103 : decode cX9_forecast 103 = .ok (.if_icmp .lt 6, 3) := by decide +kernel
theorem dX9_forecast_106 : decode cX9_forecast 106 = .ok (.bipush (-4), 2) := by decide +kernel
theorem dX9_forecast_108 : decode cX9_forecast 108 = .ok (.ireturn, 1) := by decide +kernel
theorem dX9_forecast_109 : decode cX9_forecast 109 = .ok (.aload_n 0, 1) := by decide +kernel
theorem dX9_forecast_110 : decode cX9_forecast 110 = .ok (.getfield 62, 3) := by decide +kernel
theorem dX9_forecast_113 : decode cX9_forecast 113 = .ok (.aload 6, 2) := by decide +kernel
theorem dX9_forecast_115 : decode cX9_forecast 115 = .ok (.invokevirtual 102, 3) := by decide +kernel
theorem dX9_forecast_118 : decode cX9_forecast 118 = .ok (.pop, 1) := by decide +kernel
theorem dX9_forecast_119 : decode cX9_forecast 119 = .ok (.aload_n 0, 1) := by decide +kernel
theorem dX9_forecast_120 : decode cX9_forecast 120 = .ok (.getfield 62, 3) := by decide +kernel
theorem dX9_forecast_123 : decode cX9_forecast 123 = .ok (.invokevirtual 93, 3) := by decide +kernel
theorem dX9_forecast_126 : decode cX9_forecast 126 = .ok (.iconst 1, 1) := by decide +kernel
theorem dX9_forecast_127 : decode cX9_forecast 127 = .ok (.isub, 1) := by decide +kernel
theorem dX9_forecast_128 : decode cX9_forecast 128 = .ok (.ireturn, 1) := by decide +kernel
theorem dX9_verified_0 : decode cX9_verified 0 = .ok (.iload_n 1, 1) := by decide +kernel
theorem dX9_verified_1 : decode cX9_verified 1 = .ok (.aload_n 0, 1) := by decide +kernel
theorem dX9_verified_2 : decode cX9_verified 2 = .ok (.getfield 62, 3) := by decide +kernel
theorem dX9_verified_5 : decode cX9_verified 5 = .ok (.invokevirtual 93, 3) := by decide +kernel
theorem dX9_verified_8 : decode cX9_verified 8 = .ok (.invokestatic 79, 3) := by decide +kernel
theorem dX9_verified_11 : decode cX9_verified 11 = .ok (.ifCond .ne 5, 3) := by decide +kernel
theorem dX9_verified_14 : decode cX9_verified 14 = .ok (.iconst (-1), 1) := by decide +kernel
theorem dX9_verified_15 : decode cX9_verified 15 = .ok (.ireturn, 1) := by decide +kernel
theorem dX9_verified_16 : decode cX9_verified 16 = .ok (.aload_n 0, 1) := by decide +kernel
theorem dX9_verified_17 : decode cX9_verified 17 = .ok (.getfield 62, 3) := by decide +kernel
theorem dX9_verified_20 : decode cX9_verified 20 = .ok (.iload_n 1, 1) := by decide +kernel
theorem dX9_verified_21 : decode cX9_verified 21 = .ok (.invokevirtual 113, 3) := by decide +kernel
theorem dX9_verified_24 : decode cX9_verified 24 = .ok (.checkcast 323, 3) := by decide +kernel
theorem dX9_verified_27 : decode cX9_verified 27 = .ok (.astore_n 3, 1) := by decide +kernel
theorem dX9_verified_28 : decode cX9_verified 28 = .ok (.iload_n 2, 1) := by decide +kernel
theorem dX9_verified_29 : decode cX9_verified 29 = .ok (.tableswitch 59 0 2 #[27, 32, 47], 27) := by decide +kernel
theorem dX9_verified_56 : decode cX9_verified 56 = .ok (.aload_n 3, 1) := by decide +kernel
theorem dX9_verified_57 : decode cX9_verified 57 = .ok (.getfield 330, 3) := by decide +kernel
theorem dX9_verified_60 : decode cX9_verified 60 = .ok (.ireturn, 1) := by decide +kernel
theorem dX9_verified_61 : decode cX9_verified 61 = .ok (.aload_n 3, 1) := by decide +kernel
theorem dX9_verified_62 : decode cX9_verified 62 = .ok (.aload_n 0, 1) := by decide +kernel
theorem dX9_verified_63 : decode cX9_verified 63 = .ok (.invokevirtual 137, 3) := by decide +kernel
theorem dX9_verified_66 : decode cX9_verified 66 = .ok (.getfield 232, 3) := by decide +kernel
theorem dX9_verified_69 : decode cX9_verified 69 = .ok (.invokevirtual 333, 3) := by decide +kernel
theorem dX9_verified_72 : decode cX9_verified 72 = .ok (.invokestatic 208, 3) := by decide +kernel
theorem dX9_verified_75 : decode cX9_verified 75 = .ok (.ireturn, 1) := by decide +kernel
theorem dX9_verified_76 : decode cX9_verified 76 = .ok (.aload_n 3, 1) := by decide +kernel
theorem dX9_verified_77 : decode cX9_verified 77 = .ok (.aload_n 0, 1) := by decide +kernel
theorem dX9_verified_78 : decode cX9_verified 78 = .ok (.invokevirtual 137, 3) := by decide +kernel
theorem dX9_verified_81 : decode cX9_verified 81 = .ok (.getfield 232, 3) := by decide +kernel
theorem dX9_verified_84 : decode cX9_verified 84 = .ok (.invokevirtual 333, 3) := by decide +kernel
theorem dX9_verified_87 : decode cX9_verified 87 = .ok (.ireturn, 1) := by decide +kernel
theorem dX9_verified_88 : decode cX9_verified 88 = .ok (.bipush (-2), 2) := by decide +kernel
theorem dX9_verified_90 : decode cX9_verified 90 = .ok (.ireturn, 1) := by decide +kernel
theorem dX9_sheet_0 : decode cX9_sheet 0 = .ok (.aload_n 0, 1) := by decide +kernel
theorem dX9_sheet_1 : decode cX9_sheet 1 = .ok (.iconst 0, 1) := by decide +kernel
theorem dX9_sheet_2 : decode cX9_sheet 2 = .ok (.putfield 76, 3) := by decide +kernel
theorem dX9_sheet_5 : decode cX9_sheet 5 = .ok (.iload_n 1, 1) := by decide +kernel
theorem dX9_sheet_6 : decode cX9_sheet 6 = .ok (.invokestatic 150, 3) := by decide +kernel
theorem dX9_sheet_9 : decode cX9_sheet 9 = .ok (.ifCond .ne 5, 3) := by decide +kernel
theorem dX9_sheet_12 : decode cX9_sheet 12 = .ok (.iconst (-1), 1) := by decide +kernel
theorem dX9_sheet_13 : decode cX9_sheet 13 = .ok (.ireturn, 1) := by decide +kernel
theorem dX9_sheet_14 : decode cX9_sheet 14 = .ok (.iload_n 2, 1) := by decide +kernel
theorem dX9_sheet_15 : decode cX9_sheet 15 = .ok (.iconst 3, 1) := by decide +kernel
theorem dX9_sheet_16 : decode cX9_sheet 16 = .ok (.invokestatic 79, 3) := by decide +kernel
theorem dX9_sheet_19 : decode cX9_sheet 19 = .ok (.ifCond .eq 9, 3) := by decide +kernel
theorem dX9_sheet_22 : decode cX9_sheet 22 = .ok (.iload_n 3, 1) := by decide +kernel
theorem dX9_sheet_23 : decode cX9_sheet 23 = .ok (.bipush 60, 2) := by decide +kernel
theorem dX9_sheet_25 : decode cX9_sheet 25 = .ok (.if_icmp .le 6, 3) := by decide +kernel
theorem dX9_sheet_28 : decode cX9_sheet 28 = .ok (.bipush (-2), 2) := by decide +kernel
theorem dX9_sheet_30 : decode cX9_sheet 30 = .ok (.ireturn, 1) := by decide +kernel
theorem dX9_sheet_31 : decode cX9_sheet 31 = .ok (.iload_n 3, 1) := by decide +kernel
theorem dX9_sheet_32 : decode cX9_sheet 32 = .ok (.ifCond .ge 9, 3) := by decide +kernel
theorem dX9_sheet_35 : decode cX9_sheet 35 = .ok (.aload_n 0, 1) := by decide +kernel
theorem dX9_sheet_36 : decode cX9_sheet 36 = .ok (.iconst 4, 1) := by decide +kernel
theorem dX9_sheet_37 : decode cX9_sheet 37 = .ok (.invokevirtual 159, 3) := by decide +kernel
theorem dX9_sheet_40 : decode cX9_sheet 40 = .ok (.ireturn, 1) := by decide +kernel
theorem dX9_sheet_41 : decode cX9_sheet 41 = .ok (.aload_n 0, 1) := by decide +kernel
theorem dX9_sheet_42 : decode cX9_sheet 42 = .ok (.getfield 67, 3) := by decide +kernel
theorem dX9_sheet_45 : decode cX9_sheet 45 = .ok (.iload_n 1, 1) := by decide +kernel
theorem dX9_sheet_46 : decode cX9_sheet 46 = .ok (.aaload, 1) := by decide +kernel
theorem dX9_sheet_47 : decode cX9_sheet 47 = .ok (.iload_n 2, 1) := by decide +kernel
theorem dX9_sheet_48 : decode cX9_sheet 48 = .ok (.iload_n 3, 1) := by decide +kernel
theorem dX9_sheet_49 : decode cX9_sheet 49 = .ok (.invokevirtual 337, 3) := by decide +kernel
theorem dX9_sheet_52 : decode cX9_sheet 52 = .ok (.iconst 1, 1) := by decide +kernel
theorem dX9_sheet_53 : decode cX9_sheet 53 = .ok (.ireturn, 1) := by decide +kernel
theorem dX9_lose_0 : decode cX9_lose 0 = .ok (.iload_n 1, 1) := by decide +kernel
theorem dX9_lose_1 : decode cX9_lose 1 = .ok (.invokestatic 150, 3) := by decide +kernel
theorem dX9_lose_4 : decode cX9_lose 4 = .ok (.ifCond .ne 5, 3) := by decide +kernel
theorem dX9_lose_7 : decode cX9_lose 7 = .ok (.iconst (-1), 1) := by decide +kernel
theorem dX9_lose_8 : decode cX9_lose 8 = .ok (.ireturn, 1) := by decide +kernel
theorem dX9_lose_9 : decode cX9_lose 9 = .ok (.aload_n 0, 1) := by decide +kernel
theorem dX9_lose_10 : decode cX9_lose 10 = .ok (.getfield 67, 3) := by decide +kernel
theorem dX9_lose_13 : decode cX9_lose 13 = .ok (.iload_n 1, 1) := by decide +kernel
theorem dX9_lose_14 : decode cX9_lose 14 = .ok (.aaload, 1) := by decide +kernel
theorem dX9_lose_15 : decode cX9_lose 15 = .ok (.invokevirtual 341, 3) := by decide +kernel
theorem dX9_lose_18 : decode cX9_lose 18 = .ok (.ifCond .eq 5, 3) := by decide +kernel
theorem dX9_lose_21 : decode cX9_lose 21 = .ok (.iconst 0, 1) := by decide +kernel
theorem dX9_lose_22 : decode cX9_lose 22 = .ok (.ireturn, 1) := by decide +kernel
theorem dX9_lose_23 : decode cX9_lose 23 = .ok (.aload_n 0, 1) := by decide +kernel
theorem dX9_lose_24 : decode cX9_lose 24 = .ok (.getfield 67, 3) := by decide +kernel
theorem dX9_lose_27 : decode cX9_lose 27 = .ok (.iload_n 1, 1) := by decide +kernel
theorem dX9_lose_28 : decode cX9_lose 28 = .ok (.aaload, 1) := by decide +kernel
theorem dX9_lose_29 : decode cX9_lose 29 = .ok (.invokevirtual 345, 3) := by decide +kernel
theorem dX9_lose_32 : decode cX9_lose 32 = .ok (.iconst 1, 1) := by decide +kernel
theorem dX9_lose_33 : decode cX9_lose 33 = .ok (.ireturn, 1) := by decide +kernel
theorem dX9_put_0 : decode cX9_put 0 = .ok (.aload_n 0, 1) := by decide +kernel
theorem dX9_put_1 : decode cX9_put 1 = .ok (.iconst 0, 1) := by decide +kernel
theorem dX9_put_2 : decode cX9_put 2 = .ok (.putfield 76, 3) := by decide +kernel
theorem dX9_put_5 : decode cX9_put 5 = .ok (.iload_n 1, 1) := by decide +kernel
theorem dX9_put_6 : decode cX9_put 6 = .ok (.invokestatic 150, 3) := by decide +kernel
theorem dX9_put_9 : decode cX9_put 9 = .ok (.ifCond .ne 5, 3) := by decide +kernel
theorem dX9_put_12 : decode cX9_put 12 = .ok (.iconst (-1), 1) := by decide +kernel
theorem dX9_put_13 : decode cX9_put 13 = .ok (.ireturn, 1) := by decide +kernel
theorem dX9_put_14 : decode cX9_put 14 = .ok (.aload_n 0, 1) := by decide +kernel
theorem dX9_put_15 : decode cX9_put 15 = .ok (.getfield 67, 3) := by decide +kernel
theorem dX9_put_18 : decode cX9_put 18 = .ok (.iload_n 1, 1) := by decide +kernel
theorem dX9_put_19 : decode cX9_put 19 = .ok (.aaload, 1) := by decide +kernel
theorem dX9_put_20 : decode cX9_put 20 = .ok (.aload_n 0, 1) := by decide +kernel
theorem dX9_put_21 : decode cX9_put 21 = .ok (.getfield 67, 3) := by decide +kernel
theorem dX9_put_24 : decode cX9_put 24 = .ok (.iload_n 1, 1) := by decide +kernel
theorem dX9_put_25 : decode cX9_put 25 = .ok (.aaload, 1) := by decide +kernel
theorem dX9_put_26 : decode cX9_put 26 = .ok (.getfield 348, 3) := by decide +kernel
theorem dX9_put_29 : decode cX9_put 29 = .ok (.iload_n 2, 1) := by decide +kernel
theorem dX9_put_30 : decode cX9_put 30 = .ok (.lconst 1, 1) := by decide +kernel
theorem dX9_put_31 : decode cX9_put 31 = .ok (.invokevirtual 155, 3) := by decide +kernel
theorem dX9_put_34 : decode cX9_put 34 = .ok (.istore 4, 2) := by decide +kernel
theorem dX9_put_36 : decode cX9_put 36 = .ok (.iload 4, 2) := by decide +kernel
theorem dX9_put_38 : decode cX9_put 38 = .ok (.ifCond .eq 10, 3) := by decide +kernel
theorem dX9_put_41 : decode cX9_put 41 = .ok (.aload_n 0, 1) := by decide +kernel
theorem dX9_put_42 : decode cX9_put 42 = .ok (.iload 4, 2) := by decide +kernel
theorem dX9_put_44 : decode cX9_put 44 = .ok (.invokevirtual 159, 3) := by decide +kernel
theorem dX9_put_47 : decode cX9_put 47 = .ok (.ireturn, 1) := by decide +kernel
theorem dX9_put_48 : decode cX9_put 48 = .ok (.aload_n 0, 1) := by decide +kernel
theorem dX9_put_49 : decode cX9_put 49 = .ok (.getfield 67, 3) := by decide +kernel
theorem dX9_put_52 : decode cX9_put 52 = .ok (.iload_n 1, 1) := by decide +kernel
theorem dX9_put_53 : decode cX9_put 53 = .ok (.aaload, 1) := by decide +kernel
theorem dX9_put_54 : decode cX9_put 54 = .ok (.iload_n 2, 1) := by decide +kernel
theorem dX9_put_55 : decode cX9_put 55 = .ok (.iload_n 3, 1) := by decide +kernel
theorem dX9_put_56 : decode cX9_put 56 = .ok (.invokevirtual 351, 3) := by decide +kernel
theorem dX9_put_59 : decode cX9_put 59 = .ok (.iconst 1, 1) := by decide +kernel
theorem dX9_put_60 : decode cX9_put 60 = .ok (.ireturn, 1) := by decide +kernel
theorem dX9_cell_0 : decode cX9_cell 0 = .ok (.aload_n 0, 1) := by decide +kernel
theorem dX9_cell_1 : decode cX9_cell 1 = .ok (.iconst 0, 1) := by decide +kernel
theorem dX9_cell_2 : decode cX9_cell 2 = .ok (.putfield 76, 3) := by decide +kernel
theorem dX9_cell_5 : decode cX9_cell 5 = .ok (.iload_n 1, 1) := by decide +kernel
theorem dX9_cell_6 : decode cX9_cell 6 = .ok (.invokestatic 150, 3) := by decide +kernel
theorem dX9_cell_9 : decode cX9_cell 9 = .ok (.ifCond .eq 11, 3) := by decide +kernel
theorem dX9_cell_12 : decode cX9_cell 12 = .ok (.iload_n 3, 1) := by decide +kernel
theorem dX9_cell_13 : decode cX9_cell 13 = .ok (.iconst 3, 1) := by decide +kernel
theorem dX9_cell_14 : decode cX9_cell 14 = .ok (.invokestatic 79, 3) := by decide +kernel
theorem dX9_cell_17 : decode cX9_cell 17 = .ok (.ifCond .ne 7, 3) := by decide +kernel
theorem dX9_cell_20 : decode cX9_cell 20 = .ok (.ldc2_w 304, 3) := by decide +kernel
theorem dX9_cell_23 : decode cX9_cell 23 = .ok (.lreturn, 1) := by decide +kernel
theorem dX9_cell_24 : decode cX9_cell 24 = .ok (.aload_n 0, 1) := by decide +kernel
theorem dX9_cell_25 : decode cX9_cell 25 = .ok (.aload_n 0, 1) := by decide +kernel
theorem dX9_cell_26 : decode cX9_cell 26 = .ok (.getfield 67, 3) := by decide +kernel
theorem dX9_cell_29 : decode cX9_cell 29 = .ok (.iload_n 1, 1) := by decide +kernel
theorem dX9_cell_30 : decode cX9_cell 30 = .ok (.aaload, 1) := by decide +kernel
theorem dX9_cell_31 : decode cX9_cell 31 = .ok (.iload_n 3, 1) := by decide +kernel
theorem dX9_cell_32 : decode cX9_cell 32 = .ok (.iload_n 2, 1) := by decide +kernel
theorem dX9_cell_33 : decode cX9_cell 33 = .ok (.lconst 1, 1) := by decide +kernel
theorem dX9_cell_34 : decode cX9_cell 34 = .ok (.invokevirtual 155, 3) := by decide +kernel
theorem dX9_cell_37 : decode cX9_cell 37 = .ok (.putfield 76, 3) := by decide +kernel
theorem dX9_cell_40 : decode cX9_cell 40 = .ok (.aload_n 0, 1) := by decide +kernel
theorem dX9_cell_41 : decode cX9_cell 41 = .ok (.getfield 76, 3) := by decide +kernel
theorem dX9_cell_44 : decode cX9_cell 44 = .ok (.ifCond .eq 7, 3) := by decide +kernel
theorem dX9_cell_47 : decode cX9_cell 47 = .ok (.ldc2_w 304, 3) := by decide +kernel
theorem dX9_cell_50 : decode cX9_cell 50 = .ok (.lreturn, 1) := by decide +kernel
theorem dX9_cell_51 : decode cX9_cell 51 = .ok (.aload_n 0, 1) := by decide +kernel
theorem dX9_cell_52 : decode cX9_cell 52 = .ok (.getfield 67, 3) := by decide +kernel
theorem dX9_cell_55 : decode cX9_cell 55 = .ok (.iload_n 1, 1) := by decide +kernel
theorem dX9_cell_56 : decode cX9_cell 56 = .ok (.aaload, 1) := by decide +kernel
theorem dX9_cell_57 : decode cX9_cell 57 = .ok (.getfield 162, 3) := by decide +kernel
theorem dX9_cell_60 : decode cX9_cell 60 = .ok (.iload_n 2, 1) := by decide +kernel
theorem dX9_cell_61 : decode cX9_cell 61 = .ok (.iaload, 1) := by decide +kernel
theorem dX9_cell_62 : decode cX9_cell 62 = .ok (.i2l, 1) := by decide +kernel
theorem dX9_cell_63 : decode cX9_cell 63 = .ok (.lreturn, 1) := by decide +kernel
theorem dX9_copy_0 : decode cX9_copy 0 = .ok (.aload_n 0, 1) := by decide +kernel
theorem dX9_copy_1 : decode cX9_copy 1 = .ok (.iconst 0, 1) := by decide +kernel
theorem dX9_copy_2 : decode cX9_copy 2 = .ok (.putfield 76, 3) := by decide +kernel
theorem dX9_copy_5 : decode cX9_copy 5 = .ok (.iload_n 1, 1) := by decide +kernel
theorem dX9_copy_6 : decode cX9_copy 6 = .ok (.invokestatic 150, 3) := by decide +kernel
theorem dX9_copy_9 : decode cX9_copy 9 = .ok (.ifCond .eq 10, 3) := by decide +kernel
theorem dX9_copy_12 : decode cX9_copy 12 = .ok (.iload_n 3, 1) := by decide +kernel
theorem dX9_copy_13 : decode cX9_copy 13 = .ok (.invokestatic 150, 3) := by decide +kernel
theorem dX9_copy_16 : decode cX9_copy 16 = .ok (.ifCond .ne 5, 3) := by decide +kernel
theorem dX9_copy_19 : decode cX9_copy 19 = .ok (.iconst (-1), 1) := by decide +kernel
theorem dX9_copy_20 : decode cX9_copy 20 = .ok (.ireturn, 1) := by decide +kernel
theorem dX9_copy_21 : decode cX9_copy 21 = .ok (.aload_n 0, 1) := by decide +kernel
theorem dX9_copy_22 : decode cX9_copy 22 = .ok (.getfield 67, 3) := by decide +kernel
theorem dX9_copy_25 : decode cX9_copy 25 = .ok (.iload_n 1, 1) := by decide +kernel
theorem dX9_copy_26 : decode cX9_copy 26 = .ok (.aaload, 1) := by decide +kernel
theorem dX9_copy_27 : decode cX9_copy 27 = .ok (.astore 6, 2) := by decide +kernel
theorem dX9_copy_29 : decode cX9_copy 29 = .ok (.aload_n 0, 1) := by decide +kernel
theorem dX9_copy_30 : decode cX9_copy 30 = .ok (.getfield 67, 3) := by decide +kernel
theorem dX9_copy_33 : decode cX9_copy 33 = .ok (.iload_n 3, 1) := by decide +kernel
theorem dX9_copy_34 : decode cX9_copy 34 = .ok (.aaload, 1) := by decide +kernel
theorem dX9_copy_35 : decode cX9_copy 35 = .ok (.astore 7, 2) := by decide +kernel
theorem dX9_copy_37 : decode cX9_copy 37 = .ok (.aload 6, 2) := by decide +kernel
theorem dX9_copy_39 : decode cX9_copy 39 = .ok (.invokevirtual 341, 3) := by decide +kernel
theorem dX9_copy_42 : decode cX9_copy 42 = .ok (.ifCond .ne 11, 3) := by decide +kernel
theorem dX9_copy_45 : decode cX9_copy 45 = .ok (.aload 7, 2) := by decide +kernel
theorem dX9_copy_47 : decode cX9_copy 47 = .ok (.invokevirtual 341, 3) := by decide +kernel
theorem dX9_copy_50 : decode cX9_copy 50 = .ok (.ifCond .eq 9, 3) := by decide +kernel
theorem dX9_copy_53 : decode cX9_copy 53 = .ok (.aload_n 0, 1) := by decide +kernel
theorem dX9_copy_54 : decode cX9_copy 54 = .ok (.iconst 1, 1) := by decide +kernel
theorem dX9_copy_55 : decode cX9_copy 55 = .ok (.invokevirtual 159, 3) := by decide +kernel
theorem dX9_copy_58 : decode cX9_copy 58 = .ok (.ireturn, 1) := by decide +kernel
theorem dX9_copy_59 : decode cX9_copy 59 = .ok (.aload 6, 2) := by decide +kernel
theorem dX9_copy_61 : decode cX9_copy 61 = .ok (.getfield 348, 3) := by decide +kernel
theorem dX9_copy_64 : decode cX9_copy 64 = .ok (.aload 7, 2) := by decide +kernel
theorem dX9_copy_66 : decode cX9_copy 66 = .ok (.getfield 348, 3) := by decide +kernel
theorem dX9_copy_69 : decode cX9_copy 69 = .ok (.if_icmp .eq 9, 3) := by decide +kernel
theorem dX9_copy_72 : decode cX9_copy 72 = .ok (.aload_n 0, 1) := by decide +kernel
theorem dX9_copy_73 : decode cX9_copy 73 = .ok (.iconst 2, 1) := by decide +kernel
theorem dX9_copy_74 : decode cX9_copy 74 = .ok (.invokevirtual 159, 3) := by decide +kernel
theorem dX9_copy_77 : decode cX9_copy 77 = .ok (.ireturn, 1) := by decide +kernel
theorem dX9_copy_78 : decode cX9_copy 78 = .ok (.aload 6, 2) := by decide +kernel
theorem dX9_copy_80 : decode cX9_copy 80 = .ok (.iload_n 2, 1) := by decide +kernel
theorem dX9_copy_81 : decode cX9_copy 81 = .ok (.iload 5, 2) := by decide +kernel
theorem dX9_copy_83 : decode cX9_copy 83 = .ok (.i2l, 1) := by decide +kernel
theorem dX9_copy_84 : decode cX9_copy 84 = .ok (.invokevirtual 354, 3) := by decide +kernel
theorem dX9_copy_87 : decode cX9_copy 87 = .ok (.ifCond .eq 16, 3) := by decide +kernel
theorem dX9_copy_90 : decode cX9_copy 90 = .ok (.aload 7, 2) := by decide +kernel
theorem dX9_copy_92 : decode cX9_copy 92 = .ok (.iload 4, 2) := by decide +kernel
theorem dX9_copy_94 : decode cX9_copy 94 = .ok (.iload 5, 2) := by decide +kernel
theorem dX9_copy_96 : decode cX9_copy 96 = .ok (.i2l, 1) := by decide +kernel
theorem dX9_copy_97 : decode cX9_copy 97 = .ok (.invokevirtual 354, 3) := by decide +kernel
theorem dX9_copy_100 : decode cX9_copy 100 = .ok (.ifCond .ne 9, 3) := by decide +kernel
theorem dX9_copy_103 : decode cX9_copy 103 = .ok (.aload_n 0, 1) := by decide +kernel
theorem dX9_copy_104 : decode cX9_copy 104 = .ok (.iconst 3, 1) := by decide +kernel
theorem dX9_copy_105 : decode cX9_copy 105 = .ok (.invokevirtual 159, 3) := by decide +kernel
theorem dX9_copy_108 : decode cX9_copy 108 = .ok (.ireturn, 1) := by decide +kernel
theorem dX9_copy_109 : decode cX9_copy 109 = .ok (.aload 6, 2) := by decide +kernel
theorem dX9_copy_111 : decode cX9_copy 111 = .ok (.getfield 162, 3) := by decide +kernel
theorem dX9_copy_114 : decode cX9_copy 114 = .ok (.iload_n 2, 1) := by decide +kernel
theorem dX9_copy_115 : decode cX9_copy 115 = .ok (.aload 7, 2) := by decide +kernel
theorem dX9_copy_117 : decode cX9_copy 117 = .ok (.getfield 162, 3) := by decide +kernel
theorem dX9_copy_120 : decode cX9_copy 120 = .ok (.iload 4, 2) := by decide +kernel
theorem dX9_copy_122 : decode cX9_copy 122 = .ok (.iload 5, 2) := by decide +kernel
theorem dX9_copy_124 : decode cX9_copy 124 = .ok (.invokestatic 298, 3) := by decide +kernel
theorem dX9_copy_127 : decode cX9_copy 127 = .ok (.iload 5, 2) := by decide +kernel
theorem dX9_copy_129 : decode cX9_copy 129 = .ok (.ireturn, 1) := by decide +kernel
theorem dX9_tell_0 : decode cX9_tell 0 = .ok (.aload_n 0, 1) := by decide +kernel
theorem dX9_tell_1 : decode cX9_tell 1 = .ok (.iload_n 1, 1) := by decide +kernel
theorem dX9_tell_2 : decode cX9_tell 2 = .ok (.invokevirtual 109, 3) := by decide +kernel
theorem dX9_tell_5 : decode cX9_tell 5 = .ok (.ifCond .ne 5, 3) := by decide +kernel
theorem dX9_tell_8 : decode cX9_tell 8 = .ok (.iconst (-1), 1) := by decide +kernel
theorem dX9_tell_9 : decode cX9_tell 9 = .ok (.ireturn, 1) := by decide +kernel
theorem dX9_tell_10 : decode cX9_tell 10 = .ok (.aload_n 0, 1) := by decide +kernel
theorem dX9_tell_11 : decode cX9_tell 11 = .ok (.getfield 12, 3) := by decide +kernel
theorem dX9_tell_14 : decode cX9_tell 14 = .ok (.getfield 90, 3) := by decide +kernel
theorem dX9_tell_17 : decode cX9_tell 17 = .ok (.iload_n 1, 1) := by decide +kernel
theorem dX9_tell_18 : decode cX9_tell 18 = .ok (.invokevirtual 113, 3) := by decide +kernel
theorem dX9_tell_21 : decode cX9_tell 21 = .ok (.checkcast 97, 3) := by decide +kernel
theorem dX9_tell_24 : decode cX9_tell 24 = .ok (.astore_n 2, 1) := by decide +kernel
theorem dX9_tell_25 : decode cX9_tell 25 = .ok (.aload_n 2, 1) := by decide +kernel
theorem dX9_tell_26 : decode cX9_tell 26 = .ok (.getfield 117, 3) := by decide +kernel
theorem dX9_tell_29 : decode cX9_tell 29 = .ok (.lookupswitch 39 #[(1, 33), (2, 27)], 27) := by decide +kernel
theorem dX9_tell_56 : decode cX9_tell 56 = .ok (.aload_n 0, 1) := by decide +kernel
theorem dX9_tell_57 : decode cX9_tell 57 = .ok (.aload_n 2, 1) := by decide +kernel
theorem dX9_tell_58 : decode cX9_tell 58 = .ok (.invokevirtual 358, 3) := by decide +kernel
theorem dX9_tell_61 : decode cX9_tell 61 = .ok (.ireturn, 1) := by decide +kernel
theorem dX9_tell_62 : decode cX9_tell 62 = .ok (.aload_n 0, 1) := by decide +kernel
theorem dX9_tell_63 : decode cX9_tell 63 = .ok (.aload_n 2, 1) := by decide +kernel
theorem dX9_tell_64 : decode cX9_tell 64 = .ok (.invokevirtual 362, 3) := by decide +kernel
theorem dX9_tell_67 : decode cX9_tell 67 = .ok (.ireturn, 1) := by decide +kernel
theorem dX9_tell_68 : decode cX9_tell 68 = .ok (.aload_n 0, 1) := by decide +kernel
theorem dX9_tell_69 : decode cX9_tell 69 = .ok (.aload_n 2, 1) := by decide +kernel
theorem dX9_tell_70 : decode cX9_tell 70 = .ok (.invokevirtual 365, 3) := by decide +kernel
theorem dX9_tell_73 : decode cX9_tell 73 = .ok (.ireturn, 1) := by decide +kernel
theorem dX9_hail_0 : decode cX9_hail 0 = .ok (.aload_n 0, 1) := by decide +kernel
theorem dX9_hail_1 : decode cX9_hail 1 = .ok (.iload_n 1, 1) := by decide +kernel
theorem dX9_hail_2 : decode cX9_hail 2 = .ok (.invokevirtual 109, 3) := by decide +kernel
theorem dX9_hail_5 : decode cX9_hail 5 = .ok (.ifCond .ne 5, 3) := by decide +kernel
theorem dX9_hail_8 : decode cX9_hail 8 = .ok (.iconst (-1), 1) := by decide +kernel
theorem dX9_hail_9 : decode cX9_hail 9 = .ok (.ireturn, 1) := by decide +kernel
theorem dX9_hail_10 : decode cX9_hail 10 = .ok (.aload_n 0, 1) := by decide +kernel
theorem dX9_hail_11 : decode cX9_hail 11 = .ok (.getfield 12, 3) := by decide +kernel
theorem dX9_hail_14 : decode cX9_hail 14 = .ok (.getfield 90, 3) := by decide +kernel
theorem dX9_hail_17 : decode cX9_hail 17 = .ok (.iload_n 1, 1) := by decide +kernel
theorem dX9_hail_18 : decode cX9_hail 18 = .ok (.invokevirtual 113, 3) := by decide +kernel
theorem dX9_hail_21 : decode cX9_hail 21 = .ok (.checkcast 97, 3) := by decide +kernel
theorem dX9_hail_24 : decode cX9_hail 24 = .ok (.getfield 117, 3) := by decide +kernel
theorem dX9_hail_27 : decode cX9_hail 27 = .ok (.iconst 2, 1) := by decide +kernel
theorem dX9_hail_28 : decode cX9_hail 28 = .ok (.if_icmp .ne 11, 3) := by decide +kernel
theorem dX9_hail_31 : decode cX9_hail 31 = .ok (.aload_n 0, 1) := by decide +kernel
theorem dX9_hail_32 : decode cX9_hail 32 = .ok (.iconst 5, 1) := by decide +kernel
theorem dX9_hail_33 : decode cX9_hail 33 = .ok (.invokevirtual 368, 3) := by decide +kernel
theorem dX9_hail_36 : decode cX9_hail 36 = .ok (.bipush 80, 2) := by decide +kernel
theorem dX9_hail_38 : decode cX9_hail 38 = .ok (.ireturn, 1) := by decide +kernel
theorem dX9_hail_39 : decode cX9_hail 39 = .ok (.aload_n 0, 1) := by decide +kernel
theorem dX9_hail_40 : decode cX9_hail 40 = .ok (.iconst 4, 1) := by decide +kernel
theorem dX9_hail_41 : decode cX9_hail 41 = .ok (.invokevirtual 368, 3) := by decide +kernel
theorem dX9_hail_44 : decode cX9_hail 44 = .ok (.iload_n 1, 1) := by decide +kernel
theorem dX9_hail_45 : decode cX9_hail 45 = .ok (.ireturn, 1) := by decide +kernel
theorem dX9_as_0 : decode cX9_as 0 = .ok (.aload_n 0, 1) := by decide +kernel
theorem dX9_as_1 : decode cX9_as 1 = .ok (.iconst 0, 1) := by decide +kernel
theorem dX9_as_2 : decode cX9_as 2 = .ok (.putfield 76, 3) := by decide +kernel
theorem dX9_as_5 : decode cX9_as 5 = .ok (.aload_n 0, 1) := by decide +kernel
theorem dX9_as_6 : decode cX9_as 6 = .ok (.iload_n 1, 1) := by decide +kernel
theorem dX9_as_7 : decode cX9_as 7 = .ok (.invokevirtual 109, 3) := by decide +kernel
theorem dX9_as_10 : decode cX9_as 10 = .ok (.ifCond .ne 5, 3) := by decide +kernel
theorem dX9_as_13 : decode cX9_as 13 = .ok (.iconst (-1), 1) := by decide +kernel
theorem dX9_as_14 : decode cX9_as 14 = .ok (.ireturn, 1) := by decide +kernel
theorem dX9_as_15 : decode cX9_as 15 = .ok (.iload_n 2, 1) := by decide +kernel
theorem dX9_as_16 : decode cX9_as 16 = .ok (.iconst 3, 1) := by decide +kernel
theorem dX9_as_17 : decode cX9_as 17 = .ok (.invokestatic 79, 3) := by decide +kernel
theorem dX9_as_20 : decode cX9_as 20 = .ok (.ifCond .ne 6, 3) := by decide +kernel
theorem dX9_as_23 : decode cX9_as 23 = .ok (.bipush (-2), 2) := by decide +kernel
theorem dX9_as_25 : decode cX9_as 25 = .ok (.ireturn, 1) := by decide +kernel
theorem dX9_as_26 : decode cX9_as 26 = .ok (.aload_n 0, 1) := by decide +kernel
theorem dX9_as_27 : decode cX9_as 27 = .ok (.getfield 12, 3) := by decide +kernel
theorem dX9_as_30 : decode cX9_as 30 = .ok (.getfield 90, 3) := by decide +kernel
theorem dX9_as_33 : decode cX9_as 33 = .ok (.iload_n 1, 1) := by decide +kernel
theorem dX9_as_34 : decode cX9_as 34 = .ok (.invokevirtual 113, 3) := by decide +kernel
theorem dX9_as_37 : decode cX9_as 37 = .ok (.checkcast 97, 3) := by decide +kernel
theorem dX9_as_40 : decode cX9_as 40 = .ok (.getfield 117, 3) := by decide +kernel
theorem dX9_as_43 : decode cX9_as 43 = .ok (.iload_n 2, 1) := by decide +kernel
theorem dX9_as_44 : decode cX9_as 44 = .ok (.if_icmp .ge 9, 3) := by decide +kernel
theorem dX9_as_47 : decode cX9_as 47 = .ok (.aload_n 0, 1) := by decide +kernel
theorem dX9_as_48 : decode cX9_as 48 = .ok (.iconst 2, 1) := by decide +kernel
theorem dX9_as_49 : decode cX9_as 49 = .ok (.invokevirtual 159, 3) := by decide +kernel
theorem dX9_as_52 : decode cX9_as 52 = .ok (.ireturn, 1) := by decide +kernel
theorem dX9_as_53 : decode cX9_as 53 = .ok (.iconst 1, 1) := by decide +kernel
theorem dX9_as_54 : decode cX9_as 54 = .ok (.ireturn, 1) := by decide +kernel
theorem dX9_trace_0 : decode cX9_trace 0 = .ok (.aload_n 0, 1) := by decide +kernel
theorem dX9_trace_1 : decode cX9_trace 1 = .ok (.getfield 72, 3) := by decide +kernel
theorem dX9_trace_4 : decode cX9_trace 4 = .ok (.ireturn, 1) := by decide +kernel
theorem dX9_fault_0 : decode cX9_fault 0 = .ok (.aload_n 0, 1) := by decide +kernel
theorem dX9_fault_1 : decode cX9_fault 1 = .ok (.getfield 76, 3) := by decide +kernel
theorem dX9_fault_4 : decode cX9_fault 4 = .ok (.ireturn, 1) := by decide +kernel
theorem dX9_many_0 : decode cX9_many 0 = .ok (.iload_n 1, 1) := by decide +kernel
theorem dX9_many_1 : decode cX9_many 1 = .ok (.tableswitch 129 0 8 #[51, 62, 73, 84, 92, 100, 108, 116, 124], 51) := by decide +kernel
theorem dX9_many_52 : decode cX9_many 52 = .ok (.aload_n 0, 1) := by decide +kernel
theorem dX9_many_53 : decode cX9_many 53 = .ok (.getfield 12, 3) := by decide +kernel
theorem dX9_many_56 : decode cX9_many 56 = .ok (.getfield 90, 3) := by decide +kernel
theorem dX9_many_59 : decode cX9_many 59 = .ok (.invokevirtual 93, 3) := by decide +kernel
theorem dX9_many_62 : decode cX9_many 62 = .ok (.ireturn, 1) := by decide +kernel
theorem dX9_many_63 : decode cX9_many 63 = .ok (.aload_n 0, 1) := by decide +kernel
theorem dX9_many_64 : decode cX9_many 64 = .ok (.getfield 12, 3) := by decide +kernel
theorem dX9_many_67 : decode cX9_many 67 = .ok (.getfield 165, 3) := by decide +kernel
theorem dX9_many_70 : decode cX9_many 70 = .ok (.invokevirtual 93, 3) := by decide +kernel
theorem dX9_many_73 : decode cX9_many 73 = .ok (.ireturn, 1) := by decide +kernel
theorem dX9_many_74 : decode cX9_many 74 = .ok (.aload_n 0, 1) := by decide +kernel
theorem dX9_many_75 : decode cX9_many 75 = .ok (.getfield 12, 3) := by decide +kernel
theorem dX9_many_78 : decode cX9_many 78 = .ok (.getfield 205, 3) := by decide +kernel
theorem dX9_many_81 : decode cX9_many 81 = .ok (.invokestatic 208, 3) := by decide +kernel
theorem dX9_many_84 : decode cX9_many 84 = .ok (.ireturn, 1) := by decide +kernel
theorem dX9_many_85 : decode cX9_many 85 = .ok (.aload_n 0, 1) := by decide +kernel
theorem dX9_many_86 : decode cX9_many 86 = .ok (.getfield 32, 3) := by decide +kernel
theorem dX9_many_89 : decode cX9_many 89 = .ok (.invokevirtual 93, 3) := by decide +kernel
theorem dX9_many_92 : decode cX9_many 92 = .ok (.ireturn, 1) := by decide +kernel
theorem dX9_many_93 : decode cX9_many 93 = .ok (.aload_n 0, 1) := by decide +kernel
theorem dX9_many_94 : decode cX9_many 94 = .ok (.getfield 36, 3) := by decide +kernel
theorem dX9_many_97 : decode cX9_many 97 = .ok (.invokevirtual 93, 3) := by decide +kernel
theorem dX9_many_100 : decode cX9_many 100 = .ok (.ireturn, 1) := by decide +kernel
theorem dX9_many_101 : decode cX9_many 101 = .ok (.aload_n 0, 1) := by decide +kernel
theorem dX9_many_102 : decode cX9_many 102 = .ok (.getfield 62, 3) := by decide +kernel
theorem dX9_many_105 : decode cX9_many 105 = .ok (.invokevirtual 93, 3) := by decide +kernel
theorem dX9_many_108 : decode cX9_many 108 = .ok (.ireturn, 1) := by decide +kernel
theorem dX9_many_109 : decode cX9_many 109 = .ok (.aload_n 0, 1) := by decide +kernel
theorem dX9_many_110 : decode cX9_many 110 = .ok (.getfield 12, 3) := by decide +kernel
theorem dX9_many_113 : decode cX9_many 113 = .ok (.getfield 201, 3) := by decide +kernel
theorem dX9_many_116 : decode cX9_many 116 = .ok (.ireturn, 1) := by decide +kernel
theorem dX9_many_117 : decode cX9_many 117 = .ok (.aload_n 0, 1) := by decide +kernel
theorem dX9_many_118 : decode cX9_many 118 = .ok (.getfield 12, 3) := by decide +kernel
theorem dX9_many_121 : decode cX9_many 121 = .ok (.getfield 202, 3) := by decide +kernel
theorem dX9_many_124 : decode cX9_many 124 = .ok (.ireturn, 1) := by decide +kernel
theorem dX9_many_125 : decode cX9_many 125 = .ok (.aload_n 0, 1) := by decide +kernel
theorem dX9_many_126 : decode cX9_many 126 = .ok (.invokevirtual 372, 3) := by decide +kernel
theorem dX9_many_129 : decode cX9_many 129 = .ok (.ireturn, 1) := by decide +kernel
theorem dX9_many_130 : decode cX9_many 130 = .ok (.bipush (-2), 2) := by decide +kernel
theorem dX9_many_132 : decode cX9_many 132 = .ok (.ireturn, 1) := by decide +kernel
theorem dX9_isWithin_0 : decode cX9_isWithin 0 = .ok (.iload_n 0, 1) := by decide +kernel
theorem dX9_isWithin_1 : decode cX9_isWithin 1 = .ok (.iload_n 1, 1) := by decide +kernel
theorem dX9_isWithin_2 : decode cX9_isWithin 2 = .ok (.if_icmp .lt 12, 3) := by decide +kernel
theorem dX9_isWithin_5 : decode cX9_isWithin 5 = .ok (.iload_n 0, 1) := by decide +kernel
theorem dX9_isWithin_6 : decode cX9_isWithin 6 = .ok (.iload_n 2, 1) := by decide +kernel
theorem dX9_isWithin_7 : decode cX9_isWithin 7 = .ok (.if_icmp .gt 7, 3) := by decide +kernel
theorem dX9_isWithin_10 : decode cX9_isWithin 10 = .ok (.iconst 1, 1) := by decide +kernel
theorem dX9_isWithin_11 : decode cX9_isWithin 11 = .ok (.goto 4, 3) := by decide +kernel
theorem dX9_isWithin_14 : decode cX9_isWithin 14 = .ok (.iconst 0, 1) := by decide +kernel
theorem dX9_isWithin_15 : decode cX9_isWithin 15 = .ok (.ireturn, 1) := by decide +kernel
theorem dX9_isBelow_0 : decode cX9_isBelow 0 = .ok (.iload_n 0, 1) := by decide +kernel
theorem dX9_isBelow_1 : decode cX9_isBelow 1 = .ok (.ifCond .lt 12, 3) := by decide +kernel
theorem dX9_isBelow_4 : decode cX9_isBelow 4 = .ok (.iload_n 0, 1) := by decide +kernel
theorem dX9_isBelow_5 : decode cX9_isBelow 5 = .ok (.iload_n 1, 1) := by decide +kernel
theorem dX9_isBelow_6 : decode cX9_isBelow 6 = .ok (.if_icmp .ge 7, 3) := by decide +kernel
theorem dX9_isBelow_9 : decode cX9_isBelow 9 = .ok (.iconst 1, 1) := by decide +kernel
theorem dX9_isBelow_10 : decode cX9_isBelow 10 = .ok (.goto 4, 3) := by decide +kernel
theorem dX9_isBelow_13 : decode cX9_isBelow 13 = .ok (.iconst 0, 1) := by decide +kernel
theorem dX9_isBelow_14 : decode cX9_isBelow 14 = .ok (.ireturn, 1) := by decide +kernel
theorem dX9_isPlace_0 : decode cX9_isPlace 0 = .ok (.iload_n 0, 1) := by decide +kernel
theorem dX9_isPlace_1 : decode cX9_isPlace 1 = .ok (.bipush 12, 2) := by decide +kernel
theorem dX9_isPlace_3 : decode cX9_isPlace 3 = .ok (.invokestatic 79, 3) := by decide +kernel
theorem dX9_isPlace_6 : decode cX9_isPlace 6 = .ok (.ifCond .eq 16, 3) := by decide +kernel
theorem dX9_isPlace_9 : decode cX9_isPlace 9 = .ok (.iload_n 1, 1) := by decide +kernel
theorem dX9_isPlace_10 : decode cX9_isPlace 10 = .ok (.bipush 12, 2) := by decide +kernel
theorem dX9_isPlace_12 : decode cX9_isPlace 12 = .ok (.invokestatic 79, 3) := by decide +kernel
theorem dX9_isPlace_15 : decode cX9_isPlace 15 = .ok (.ifCond .eq 7, 3) := by decide +kernel
theorem dX9_isPlace_18 : decode cX9_isPlace 18 = .ok (.iconst 1, 1) := by decide +kernel
theorem dX9_isPlace_19 : decode cX9_isPlace 19 = .ok (.goto 4, 3) := by decide +kernel
theorem dX9_isPlace_22 : decode cX9_isPlace 22 = .ok (.iconst 0, 1) := by decide +kernel
theorem dX9_isPlace_23 : decode cX9_isPlace 23 = .ok (.ireturn, 1) := by decide +kernel
theorem dX9_isIn_0 : decode cX9_isIn 0 = .ok (.iload_n 0, 1) := by decide +kernel
theorem dX9_isIn_1 : decode cX9_isIn 1 = .ok (.iload_n 1, 1) := by decide +kernel
theorem dX9_isIn_2 : decode cX9_isIn 2 = .ok (.ishr, 1) := by decide +kernel
theorem dX9_isIn_3 : decode cX9_isIn 3 = .ok (.iconst 1, 1) := by decide +kernel
theorem dX9_isIn_4 : decode cX9_isIn 4 = .ok (.iand, 1) := by decide +kernel
theorem dX9_isIn_5 : decode cX9_isIn 5 = .ok (.ifCond .eq 7, 3) := by decide +kernel
theorem dX9_isIn_8 : decode cX9_isIn 8 = .ok (.iconst 1, 1) := by decide +kernel
theorem dX9_isIn_9 : decode cX9_isIn 9 = .ok (.goto 4, 3) := by decide +kernel
theorem dX9_isIn_12 : decode cX9_isIn 12 = .ok (.iconst 0, 1) := by decide +kernel
theorem dX9_isIn_13 : decode cX9_isIn 13 = .ok (.ireturn, 1) := by decide +kernel
theorem dX9_isPost_0 : decode cX9_isPost 0 = .ok (.iload_n 1, 1) := by decide +kernel
theorem dX9_isPost_1 : decode cX9_isPost 1 = .ok (.aload_n 0, 1) := by decide +kernel
theorem dX9_isPost_2 : decode cX9_isPost 2 = .ok (.getfield 12, 3) := by decide +kernel
theorem dX9_isPost_5 : decode cX9_isPost 5 = .ok (.getfield 90, 3) := by decide +kernel
theorem dX9_isPost_8 : decode cX9_isPost 8 = .ok (.invokevirtual 93, 3) := by decide +kernel
theorem dX9_isPost_11 : decode cX9_isPost 11 = .ok (.invokestatic 79, 3) := by decide +kernel
theorem dX9_isPost_14 : decode cX9_isPost 14 = .ok (.ireturn, 1) := by decide +kernel
theorem dX9_isWire_0 : decode cX9_isWire 0 = .ok (.iload_n 1, 1) := by decide +kernel
theorem dX9_isWire_1 : decode cX9_isWire 1 = .ok (.aload_n 0, 1) := by decide +kernel
theorem dX9_isWire_2 : decode cX9_isWire 2 = .ok (.getfield 12, 3) := by decide +kernel
theorem dX9_isWire_5 : decode cX9_isWire 5 = .ok (.getfield 165, 3) := by decide +kernel
theorem dX9_isWire_8 : decode cX9_isWire 8 = .ok (.invokevirtual 93, 3) := by decide +kernel
theorem dX9_isWire_11 : decode cX9_isWire 11 = .ok (.invokestatic 79, 3) := by decide +kernel
theorem dX9_isWire_14 : decode cX9_isWire 14 = .ok (.ireturn, 1) := by decide +kernel
theorem dX9_isSheet_0 : decode cX9_isSheet 0 = .ok (.iload_n 0, 1) := by decide +kernel
theorem dX9_isSheet_1 : decode cX9_isSheet 1 = .ok (.iconst 4, 1) := by decide +kernel
theorem dX9_isSheet_2 : decode cX9_isSheet 2 = .ok (.invokestatic 79, 3) := by decide +kernel
theorem dX9_isSheet_5 : decode cX9_isSheet 5 = .ok (.ireturn, 1) := by decide +kernel
theorem dX9_comeTo_0 : decode cX9_comeTo 0 = .ok (.aload_n 0, 1) := by decide +kernel
theorem dX9_comeTo_1 : decode cX9_comeTo 1 = .ok (.iload_n 1, 1) := by decide +kernel
theorem dX9_comeTo_2 : decode cX9_comeTo 2 = .ok (.putfield 76, 3) := by decide +kernel
theorem dX9_comeTo_5 : decode cX9_comeTo 5 = .ok (.bipush (-10), 2) := by decide +kernel
theorem dX9_comeTo_7 : decode cX9_comeTo 7 = .ok (.iload_n 1, 1) := by decide +kernel
theorem dX9_comeTo_8 : decode cX9_comeTo 8 = .ok (.isub, 1) := by decide +kernel
theorem dX9_comeTo_9 : decode cX9_comeTo 9 = .ok (.ireturn, 1) := by decide +kernel
theorem dX9_lookAgain_0 : decode cX9_lookAgain 0 = .ok (.aload_n 0, 1) := by decide +kernel
theorem dX9_lookAgain_1 : decode cX9_lookAgain 1 = .ok (.getfield 12, 3) := by decide +kernel
theorem dX9_lookAgain_4 : decode cX9_lookAgain 4 = .ok (.invokevirtual 375, 3) := by decide +kernel
theorem dX9_lookAgain_7 : decode cX9_lookAgain 7 = .ok (.aload_n 0, 1) := by decide +kernel
theorem dX9_lookAgain_8 : decode cX9_lookAgain 8 = .ok (.iconst 1, 1) := by decide +kernel
theorem dX9_lookAgain_9 : decode cX9_lookAgain 9 = .ok (.putfield 25, 3) := by decide +kernel
theorem dX9_lookAgain_12 : decode cX9_lookAgain 12 = .ok (.return_, 1) := by decide +kernel
theorem dX9_settledChart_0 : decode cX9_settledChart 0 = .ok (.aload_n 0, 1) := by decide +kernel
theorem dX9_settledChart_1 : decode cX9_settledChart 1 = .ok (.getfield 25, 3) := by decide +kernel
theorem dX9_settledChart_4 : decode cX9_settledChart 4 = .ok (.ifCond .eq 19, 3) := by decide +kernel
theorem dX9_settledChart_7 : decode cX9_settledChart 7 = .ok (.aload_n 0, 1) := by decide +kernel
theorem dX9_settledChart_8 : decode cX9_settledChart 8 = .ok (.getfield 21, 3) := by decide +kernel
theorem dX9_settledChart_11 : decode cX9_settledChart 11 = .ok (.aload_n 0, 1) := by decide +kernel
theorem dX9_settledChart_12 : decode cX9_settledChart 12 = .ok (.getfield 12, 3) := by decide +kernel
theorem dX9_settledChart_15 : decode cX9_settledChart 15 = .ok (.invokevirtual 378, 3) := by decide +kernel
theorem dX9_settledChart_18 : decode cX9_settledChart 18 = .ok (.aload_n 0, 1) := by decide +kernel
theorem dX9_settledChart_19 : decode cX9_settledChart 19 = .ok (.iconst 0, 1) := by decide +kernel
theorem dX9_settledChart_20 : decode cX9_settledChart 20 = .ok (.putfield 25, 3) := by decide +kernel
theorem dX9_settledChart_23 : decode cX9_settledChart 23 = .ok (.aload_n 0, 1) := by decide +kernel
theorem dX9_settledChart_24 : decode cX9_settledChart 24 = .ok (.getfield 21, 3) := by decide +kernel
theorem dX9_settledChart_27 : decode cX9_settledChart 27 = .ok (.areturn, 1) := by decide +kernel
theorem dX9_frontsOf_0 : decode cX9_frontsOf 0 = .ok (.iload_n 1, 1) := by decide +kernel
theorem dX9_frontsOf_1 : decode cX9_frontsOf 1 = .ok (.ifCond .ne 10, 3) := by decide +kernel
theorem dX9_frontsOf_4 : decode cX9_frontsOf 4 = .ok (.aload_n 0, 1) := by decide +kernel
theorem dX9_frontsOf_5 : decode cX9_frontsOf 5 = .ok (.getfield 32, 3) := by decide +kernel
theorem dX9_frontsOf_8 : decode cX9_frontsOf 8 = .ok (.goto 7, 3) := by decide +kernel
theorem dX9_frontsOf_11 : decode cX9_frontsOf 11 = .ok (.aload_n 0, 1) := by decide +kernel
theorem dX9_frontsOf_12 : decode cX9_frontsOf 12 = .ok (.getfield 36, 3) := by decide +kernel
theorem dX9_frontsOf_15 : decode cX9_frontsOf 15 = .ok (.areturn, 1) := by decide +kernel
theorem dX9_partnerOf_0 : decode cX9_partnerOf 0 = .ok (.aload_n 0, 1) := by decide +kernel
theorem dX9_partnerOf_1 : decode cX9_partnerOf 1 = .ok (.getfield 49, 3) := by decide +kernel
theorem dX9_partnerOf_4 : decode cX9_partnerOf 4 = .ok (.aload_n 0, 1) := by decide +kernel
theorem dX9_partnerOf_5 : decode cX9_partnerOf 5 = .ok (.getfield 32, 3) := by decide +kernel
theorem dX9_partnerOf_8 : decode cX9_partnerOf 8 = .ok (.aload_n 0, 1) := by decide +kernel
theorem dX9_partnerOf_9 : decode cX9_partnerOf 9 = .ok (.getfield 36, 3) := by decide +kernel
theorem dX9_partnerOf_12 : decode cX9_partnerOf 12 = .ok (.invokevirtual 287, 3) := by decide +kernel
theorem dX9_partnerOf_15 : decode cX9_partnerOf 15 = .ok (.pop, 1) := by decide +kernel
theorem dX9_partnerOf_16 : decode cX9_partnerOf 16 = .ok (.iload_n 1, 1) := by decide +kernel
theorem dX9_partnerOf_17 : decode cX9_partnerOf 17 = .ok (.ifCond .ne 13, 3) := by decide +kernel
theorem dX9_partnerOf_20 : decode cX9_partnerOf 20 = .ok (.aload_n 0, 1) := by decide +kernel
theorem dX9_partnerOf_21 : decode cX9_partnerOf 21 = .ok (.getfield 49, 3) := by decide +kernel
theorem dX9_partnerOf_24 : decode cX9_partnerOf 24 = .ok (.getfield 382, 3) := by decide +kernel
theorem dX9_partnerOf_27 : decode cX9_partnerOf 27 = .ok (.iload_n 2, 1) := by decide +kernel
theorem dX9_partnerOf_28 : decode cX9_partnerOf 28 = .ok (.iaload, 1) := by decide +kernel
theorem dX9_partnerOf_29 : decode cX9_partnerOf 29 = .ok (.ireturn, 1) := by decide +kernel
theorem dX9_partnerOf_30 : decode cX9_partnerOf 30 = .ok (.iconst 0, 1) := by decide +kernel
theorem dX9_partnerOf_31 : decode cX9_partnerOf 31 = .ok (.istore_n 3, 1) := by decide +kernel
theorem dX9_partnerOf_32 : decode cX9_partnerOf 32 = .ok (.iload_n 3, 1) := by decide +kernel
theorem dX9_partnerOf_33 : decode cX9_partnerOf 33 = .ok (.aload_n 0, 1) := by decide +kernel
theorem dX9_partnerOf_34 : decode cX9_partnerOf 34 = .ok (.getfield 32, 3) := by decide +kernel
theorem dX9_partnerOf_37 : decode cX9_partnerOf 37 = .ok (.invokevirtual 93, 3) := by decide +kernel
theorem dX9_partnerOf_40 : decode cX9_partnerOf 40 = .ok (.if_icmp .ge 24, 3) := by decide +kernel
theorem dX9_partnerOf_43 : decode cX9_partnerOf 43 = .ok (.aload_n 0, 1) := by decide +kernel
theorem dX9_partnerOf_44 : decode cX9_partnerOf 44 = .ok (.getfield 49, 3) := by decide +kernel
theorem dX9_partnerOf_47 : decode cX9_partnerOf 47 = .ok (.getfield 382, 3) := by decide +kernel
theorem dX9_partnerOf_50 : decode cX9_partnerOf 50 = .ok (.iload_n 3, 1) := by decide +kernel
theorem dX9_partnerOf_51 : decode cX9_partnerOf 51 = .ok (.iaload, 1) := by decide +kernel
theorem dX9_partnerOf_52 : decode cX9_partnerOf 52 = .ok (.iload_n 2, 1) := by decide +kernel
theorem dX9_partnerOf_53 : decode cX9_partnerOf 53 = .ok (.if_icmp .ne 5, 3) := by decide +kernel
theorem dX9_partnerOf_56 : decode cX9_partnerOf 56 = .ok (.iload_n 3, 1) := by decide +kernel
theorem dX9_partnerOf_57 : decode cX9_partnerOf 57 = .ok (.ireturn, 1) := by decide +kernel
theorem dX9_partnerOf_58 : decode cX9_partnerOf 58 = .ok (.iinc 3 1, 3) := by decide +kernel
theorem dX9_partnerOf_61 : decode cX9_partnerOf 61 = .ok (.goto (-29), 3) := by decide +kernel
theorem dX9_partnerOf_64 : decode cX9_partnerOf 64 = .ok (.bipush (-9), 2) := by decide +kernel
theorem dX9_partnerOf_66 : decode cX9_partnerOf 66 = .ok (.ireturn, 1) := by decide +kernel
theorem dX9_countKept_0 : decode cX9_countKept 0 = .ok (.iconst 0, 1) := by decide +kernel
theorem dX9_countKept_1 : decode cX9_countKept 1 = .ok (.istore_n 1, 1) := by decide +kernel
theorem dX9_countKept_2 : decode cX9_countKept 2 = .ok (.iconst 0, 1) := by decide +kernel
theorem dX9_countKept_3 : decode cX9_countKept 3 = .ok (.istore_n 2, 1) := by decide +kernel
theorem dX9_countKept_4 : decode cX9_countKept 4 = .ok (.iload_n 2, 1) := by decide +kernel
theorem dX9_countKept_5 : decode cX9_countKept 5 = .ok (.iconst 4, 1) := by decide +kernel
theorem dX9_countKept_6 : decode cX9_countKept 6 = .ok (.if_icmp .ge 21, 3) := by decide +kernel
theorem dX9_countKept_9 : decode cX9_countKept 9 = .ok (.aload_n 0, 1) := by decide +kernel
theorem dX9_countKept_10 : decode cX9_countKept 10 = .ok (.getfield 58, 3) := by decide +kernel
theorem dX9_countKept_13 : decode cX9_countKept 13 = .ok (.iload_n 2, 1) := by decide +kernel
theorem dX9_countKept_14 : decode cX9_countKept 14 = .ok (.baload, 1) := by decide +kernel
theorem dX9_countKept_15 : decode cX9_countKept 15 = .ok (.ifCond .eq 6, 3) := by decide +kernel
theorem dX9_countKept_18 : decode cX9_countKept 18 = .ok (.iinc 1 1, 3) := by decide +kernel
theorem dX9_countKept_21 : decode cX9_countKept 21 = .ok (.iinc 2 1, 3) := by decide +kernel
theorem dX9_countKept_24 : decode cX9_countKept 24 = .ok (.goto (-20), 3) := by decide +kernel
theorem dX9_countKept_27 : decode cX9_countKept 27 = .ok (.iload_n 1, 1) := by decide +kernel
theorem dX9_countKept_28 : decode cX9_countKept 28 = .ok (.ireturn, 1) := by decide +kernel
theorem dX9_leaveInTrace_0 : decode cX9_leaveInTrace 0 = .ok (.aload_n 0, 1) := by decide +kernel
theorem dX9_leaveInTrace_1 : decode cX9_leaveInTrace 1 = .ok (.bipush 31, 2) := by decide +kernel
theorem dX9_leaveInTrace_3 : decode cX9_leaveInTrace 3 = .ok (.aload_n 0, 1) := by decide +kernel
theorem dX9_leaveInTrace_4 : decode cX9_leaveInTrace 4 = .ok (.getfield 72, 3) := by decide +kernel
theorem dX9_leaveInTrace_7 : decode cX9_leaveInTrace 7 = .ok (.imul, 1) := by decide +kernel
theorem dX9_leaveInTrace_8 : decode cX9_leaveInTrace 8 = .ok (.iload_n 1, 1) := by decide +kernel
theorem dX9_leaveInTrace_9 : decode cX9_leaveInTrace 9 = .ok (.iadd, 1) := by decide +kernel
theorem dX9_leaveInTrace_10 : decode cX9_leaveInTrace 10 = .ok (.putfield 72, 3) := by decide +kernel
theorem dX9_leaveInTrace_13 : decode cX9_leaveInTrace 13 = .ok (.return_, 1) := by decide +kernel
theorem dX9_tellAsPost_0 : decode cX9_tellAsPost 0 = .ok (.aload_n 0, 1) := by decide +kernel
theorem dX9_tellAsPost_1 : decode cX9_tellAsPost 1 = .ok (.iconst 1, 1) := by decide +kernel
theorem dX9_tellAsPost_2 : decode cX9_tellAsPost 2 = .ok (.invokevirtual 368, 3) := by decide +kernel
theorem dX9_tellAsPost_5 : decode cX9_tellAsPost 5 = .ok (.aload_n 1, 1) := by decide +kernel
theorem dX9_tellAsPost_6 : decode cX9_tellAsPost 6 = .ok (.getfield 126, 3) := by decide +kernel
theorem dX9_tellAsPost_9 : decode cX9_tellAsPost 9 = .ok (.ireturn, 1) := by decide +kernel
theorem dX9_tellAsShip_0 : decode cX9_tellAsShip 0 = .ok (.aload_n 0, 1) := by decide +kernel
theorem dX9_tellAsShip_1 : decode cX9_tellAsShip 1 = .ok (.iconst 2, 1) := by decide +kernel
theorem dX9_tellAsShip_2 : decode cX9_tellAsShip 2 = .ok (.invokevirtual 368, 3) := by decide +kernel
theorem dX9_tellAsShip_5 : decode cX9_tellAsShip 5 = .ok (.aload_n 0, 1) := by decide +kernel
theorem dX9_tellAsShip_6 : decode cX9_tellAsShip 6 = .ok (.aload_n 1, 1) := by decide +kernel
theorem dX9_tellAsShip_7 : decode cX9_tellAsShip 7 = .ok (.invokevirtual 365, 3) := by decide +kernel
theorem dX9_tellAsShip_10 : decode cX9_tellAsShip 10 = .ok (.aload_n 1, 1) := by decide +kernel
theorem dX9_tellAsShip_11 : decode cX9_tellAsShip 11 = .ok (.getfield 385, 3) := by decide +kernel
theorem dX9_tellAsShip_14 : decode cX9_tellAsShip 14 = .ok (.iadd, 1) := by decide +kernel
theorem dX9_tellAsShip_15 : decode cX9_tellAsShip 15 = .ok (.ireturn, 1) := by decide +kernel
theorem dX9_tellAsBuoy_0 : decode cX9_tellAsBuoy 0 = .ok (.aload_n 0, 1) := by decide +kernel
theorem dX9_tellAsBuoy_1 : decode cX9_tellAsBuoy 1 = .ok (.iconst 3, 1) := by decide +kernel
theorem dX9_tellAsBuoy_2 : decode cX9_tellAsBuoy 2 = .ok (.invokevirtual 368, 3) := by decide +kernel
theorem dX9_tellAsBuoy_5 : decode cX9_tellAsBuoy 5 = .ok (.aload_n 0, 1) := by decide +kernel
theorem dX9_tellAsBuoy_6 : decode cX9_tellAsBuoy 6 = .ok (.aload_n 1, 1) := by decide +kernel
theorem dX9_tellAsBuoy_7 : decode cX9_tellAsBuoy 7 = .ok (.invokevirtual 362, 3) := by decide +kernel
theorem dX9_tellAsBuoy_10 : decode cX9_tellAsBuoy 10 = .ok (.istore_n 2, 1) := by decide +kernel
theorem dX9_tellAsBuoy_11 : decode cX9_tellAsBuoy 11 = .ok (.iload_n 2, 1) := by decide +kernel
theorem dX9_tellAsBuoy_12 : decode cX9_tellAsBuoy 12 = .ok (.aload_n 0, 1) := by decide +kernel
theorem dX9_tellAsBuoy_13 : decode cX9_tellAsBuoy 13 = .ok (.aload_n 1, 1) := by decide +kernel
theorem dX9_tellAsBuoy_14 : decode cX9_tellAsBuoy 14 = .ok (.invokevirtual 365, 3) := by decide +kernel
theorem dX9_tellAsBuoy_17 : decode cX9_tellAsBuoy 17 = .ok (.iadd, 1) := by decide +kernel
theorem dX9_tellAsBuoy_18 : decode cX9_tellAsBuoy 18 = .ok (.ireturn, 1) := by decide +kernel
theorem dX9_stepsBetween_0 : decode cX9_stepsBetween 0 = .ok (.iload_n 0, 1) := by decide +kernel
theorem dX9_stepsBetween_1 : decode cX9_stepsBetween 1 = .ok (.bipush 12, 2) := by decide +kernel
theorem dX9_stepsBetween_3 : decode cX9_stepsBetween 3 = .ok (.irem, 1) := by decide +kernel
theorem dX9_stepsBetween_4 : decode cX9_stepsBetween 4 = .ok (.iload_n 1, 1) := by decide +kernel
theorem dX9_stepsBetween_5 : decode cX9_stepsBetween 5 = .ok (.bipush 12, 2) := by decide +kernel
theorem dX9_stepsBetween_7 : decode cX9_stepsBetween 7 = .ok (.irem, 1) := by decide +kernel
theorem dX9_stepsBetween_8 : decode cX9_stepsBetween 8 = .ok (.isub, 1) := by decide +kernel
theorem dX9_stepsBetween_9 : decode cX9_stepsBetween 9 = .ok (.invokestatic 388, 3) := by decide +kernel
theorem dX9_stepsBetween_12 : decode cX9_stepsBetween 12 = .ok (.istore_n 2, 1) := by decide +kernel
theorem dX9_stepsBetween_13 : decode cX9_stepsBetween 13 = .ok (.iload_n 0, 1) := by decide +kernel
theorem dX9_stepsBetween_14 : decode cX9_stepsBetween 14 = .ok (.bipush 12, 2) := by decide +kernel
theorem dX9_stepsBetween_16 : decode cX9_stepsBetween 16 = .ok (.idiv, 1) := by decide +kernel
theorem dX9_stepsBetween_17 : decode cX9_stepsBetween 17 = .ok (.iload_n 1, 1) := by decide +kernel
theorem dX9_stepsBetween_18 : decode cX9_stepsBetween 18 = .ok (.bipush 12, 2) := by decide +kernel
theorem dX9_stepsBetween_20 : decode cX9_stepsBetween 20 = .ok (.idiv, 1) := by decide +kernel
theorem dX9_stepsBetween_21 : decode cX9_stepsBetween 21 = .ok (.isub, 1) := by decide +kernel
theorem dX9_stepsBetween_22 : decode cX9_stepsBetween 22 = .ok (.invokestatic 388, 3) := by decide +kernel
theorem dX9_stepsBetween_25 : decode cX9_stepsBetween 25 = .ok (.istore_n 3, 1) := by decide +kernel
theorem dX9_stepsBetween_26 : decode cX9_stepsBetween 26 = .ok (.iload_n 2, 1) := by decide +kernel
theorem dX9_stepsBetween_27 : decode cX9_stepsBetween 27 = .ok (.iload_n 3, 1) := by decide +kernel
theorem dX9_stepsBetween_28 : decode cX9_stepsBetween 28 = .ok (.invokestatic 393, 3) := by decide +kernel
theorem dX9_stepsBetween_31 : decode cX9_stepsBetween 31 = .ok (.ireturn, 1) := by decide +kernel
theorem dX9_farBetween_0 : decode cX9_farBetween 0 = .ok (.iload_n 0, 1) := by decide +kernel
theorem dX9_farBetween_1 : decode cX9_farBetween 1 = .ok (.bipush 12, 2) := by decide +kernel
theorem dX9_farBetween_3 : decode cX9_farBetween 3 = .ok (.irem, 1) := by decide +kernel
theorem dX9_farBetween_4 : decode cX9_farBetween 4 = .ok (.iload_n 1, 1) := by decide +kernel
theorem dX9_farBetween_5 : decode cX9_farBetween 5 = .ok (.bipush 12, 2) := by decide +kernel
theorem dX9_farBetween_7 : decode cX9_farBetween 7 = .ok (.irem, 1) := by decide +kernel
theorem dX9_farBetween_8 : decode cX9_farBetween 8 = .ok (.isub, 1) := by decide +kernel
theorem dX9_farBetween_9 : decode cX9_farBetween 9 = .ok (.istore_n 2, 1) := by decide +kernel
theorem dX9_farBetween_10 : decode cX9_farBetween 10 = .ok (.iload_n 0, 1) := by decide +kernel
theorem dX9_farBetween_11 : decode cX9_farBetween 11 = .ok (.bipush 12, 2) := by decide +kernel
theorem dX9_farBetween_13 : decode cX9_farBetween 13 = .ok (.idiv, 1) := by decide +kernel
theorem dX9_farBetween_14 : decode cX9_farBetween 14 = .ok (.iload_n 1, 1) := by decide +kernel
theorem dX9_farBetween_15 : decode cX9_farBetween 15 = .ok (.bipush 12, 2) := by decide +kernel
theorem dX9_farBetween_17 : decode cX9_farBetween 17 = .ok (.idiv, 1) := by decide +kernel
theorem dX9_farBetween_18 : decode cX9_farBetween 18 = .ok (.isub, 1) := by decide +kernel
theorem dX9_farBetween_19 : decode cX9_farBetween 19 = .ok (.istore_n 3, 1) := by decide +kernel
theorem dX9_farBetween_20 : decode cX9_farBetween 20 = .ok (.iload_n 2, 1) := by decide +kernel
theorem dX9_farBetween_21 : decode cX9_farBetween 21 = .ok (.iload_n 2, 1) := by decide +kernel
theorem dX9_farBetween_22 : decode cX9_farBetween 22 = .ok (.imul, 1) := by decide +kernel
theorem dX9_farBetween_23 : decode cX9_farBetween 23 = .ok (.iload_n 3, 1) := by decide +kernel
theorem dX9_farBetween_24 : decode cX9_farBetween 24 = .ok (.iload_n 3, 1) := by decide +kernel
theorem dX9_farBetween_25 : decode cX9_farBetween 25 = .ok (.imul, 1) := by decide +kernel
theorem dX9_farBetween_26 : decode cX9_farBetween 26 = .ok (.iadd, 1) := by decide +kernel
theorem dX9_farBetween_27 : decode cX9_farBetween 27 = .ok (.ireturn, 1) := by decide +kernel
theorem dX10_init_0 : decode cX10_init 0 = .ok (.aload_n 0, 1) := by decide +kernel
theorem dX10_init_1 : decode cX10_init 1 = .ok (.invokespecial 1, 3) := by decide +kernel
theorem dX10_init_4 : decode cX10_init 4 = .ok (.aload_n 0, 1) := by decide +kernel
theorem dX10_init_5 : decode cX10_init 5 = .ok (.bipush 12, 2) := by decide +kernel
theorem dX10_init_7 : decode cX10_init 7 = .ok (.newarray .int, 2) := by decide +kernel
theorem dX10_init_9 : decode cX10_init 9 = .ok (.putfield 7, 3) := by decide +kernel
theorem dX10_init_12 : decode cX10_init 12 = .ok (.aload_n 0, 1) := by decide +kernel
theorem dX10_init_13 : decode cX10_init 13 = .ok (.bipush 12, 2) := by decide +kernel
theorem dX10_init_15 : decode cX10_init 15 = .ok (.newarray .int, 2) := by decide +kernel
theorem dX10_init_17 : decode cX10_init 17 = .ok (.putfield 13, 3) := by decide +kernel
theorem dX10_init_20 : decode cX10_init 20 = .ok (.aload_n 0, 1) := by decide +kernel
theorem dX10_init_21 : decode cX10_init 21 = .ok (.bipush 12, 2) := by decide +kernel
theorem dX10_init_23 : decode cX10_init 23 = .ok (.newarray .int, 2) := by decide +kernel
theorem dX10_init_25 : decode cX10_init 25 = .ok (.putfield 16, 3) := by decide +kernel
theorem dX10_init_28 : decode cX10_init 28 = .ok (.aload_n 0, 1) := by decide +kernel
theorem dX10_init_29 : decode cX10_init 29 = .ok (.bipush 12, 2) := by decide +kernel
theorem dX10_init_31 : decode cX10_init 31 = .ok (.newarray .int, 2) := by decide +kernel
theorem dX10_init_33 : decode cX10_init 33 = .ok (.putfield 19, 3) := by decide +kernel
theorem dX10_init_36 : decode cX10_init 36 = .ok (.aload_n 0, 1) := by decide +kernel
theorem dX10_init_37 : decode cX10_init 37 = .ok (.bipush 12, 2) := by decide +kernel
theorem dX10_init_39 : decode cX10_init 39 = .ok (.newarray .int, 2) := by decide +kernel
theorem dX10_init_41 : decode cX10_init 41 = .ok (.putfield 22, 3) := by decide +kernel
theorem dX10_init_44 : decode cX10_init 44 = .ok (.aload_n 0, 1) := by decide +kernel
theorem dX10_init_45 : decode cX10_init 45 = .ok (.bipush 12, 2) := by decide +kernel
theorem dX10_init_47 : decode cX10_init 47 = .ok (.newarray .int, 2) := by decide +kernel
theorem dX10_init_49 : decode cX10_init 49 = .ok (.putfield 25, 3) := by decide +kernel
theorem dX10_init_52 : decode cX10_init 52 = .ok (.aload_n 0, 1) := by decide +kernel
theorem dX10_init_53 : decode cX10_init 53 = .ok (.bipush 30, 2) := by decide +kernel
theorem dX10_init_55 : decode cX10_init 55 = .ok (.newarray .int, 2) := by decide +kernel
theorem dX10_init_57 : decode cX10_init 57 = .ok (.putfield 28, 3) := by decide +kernel
theorem dX10_init_60 : decode cX10_init 60 = .ok (.aload_n 0, 1) := by decide +kernel
theorem dX10_init_61 : decode cX10_init 61 = .ok (.bipush 30, 2) := by decide +kernel
theorem dX10_init_63 : decode cX10_init 63 = .ok (.newarray .int, 2) := by decide +kernel
theorem dX10_init_65 : decode cX10_init 65 = .ok (.putfield 31, 3) := by decide +kernel
theorem dX10_init_68 : decode cX10_init 68 = .ok (.aload_n 0, 1) := by decide +kernel
theorem dX10_init_69 : decode cX10_init 69 = .ok (.bipush 30, 2) := by decide +kernel
theorem dX10_init_71 : decode cX10_init 71 = .ok (.newarray .int, 2) := by decide +kernel
theorem dX10_init_73 : decode cX10_init 73 = .ok (.putfield 34, 3) := by decide +kernel
theorem dX10_init_76 : decode cX10_init 76 = .ok (.aload_n 0, 1) := by decide +kernel
theorem dX10_init_77 : decode cX10_init 77 = .ok (.sipush 450, 3) := by decide +kernel
theorem dX10_init_80 : decode cX10_init 80 = .ok (.newarray .int, 2) := by decide +kernel
theorem dX10_init_82 : decode cX10_init 82 = .ok (.putfield 37, 3) := by decide +kernel
theorem dX10_init_85 : decode cX10_init 85 = .ok (.aload_n 0, 1) := by decide +kernel
theorem dX10_init_86 : decode cX10_init 86 = .ok (.bipush 30, 2) := by decide +kernel
theorem dX10_init_88 : decode cX10_init 88 = .ok (.newarray .int, 2) := by decide +kernel
theorem dX10_init_90 : decode cX10_init 90 = .ok (.putfield 40, 3) := by decide +kernel
theorem dX10_init_93 : decode cX10_init 93 = .ok (.aload_n 0, 1) := by decide +kernel
theorem dX10_init_94 : decode cX10_init 94 = .ok (.bipush 30, 2) := by decide +kernel
theorem dX10_init_96 : decode cX10_init 96 = .ok (.newarray .int, 2) := by decide +kernel
theorem dX10_init_98 : decode cX10_init 98 = .ok (.putfield 43, 3) := by decide +kernel
theorem dX10_init_101 : decode cX10_init 101 = .ok (.aload_n 0, 1) := by decide +kernel
theorem dX10_init_102 : decode cX10_init 102 = .ok (.bipush 12, 2) := by decide +kernel
theorem dX10_init_104 : decode cX10_init 104 = .ok (.newarray .int, 2) := by decide +kernel
theorem dX10_init_106 : decode cX10_init 106 = .ok (.putfield 46, 3) := by decide +kernel
theorem dX10_init_109 : decode cX10_init 109 = .ok (.aload_n 0, 1) := by decide +kernel
theorem dX10_init_110 : decode cX10_init 110 = .ok (.bipush 12, 2) := by decide +kernel
theorem dX10_init_112 : decode cX10_init 112 = .ok (.newarray .int, 2) := by decide +kernel
theorem dX10_init_114 : decode cX10_init 114 = .ok (.putfield 49, 3) := by decide +kernel
theorem dX10_init_117 : decode cX10_init 117 = .ok (.aload_n 0, 1) := by decide +kernel
theorem dX10_init_118 : decode cX10_init 118 = .ok (.bipush 12, 2) := by decide +kernel
theorem dX10_init_120 : decode cX10_init 120 = .ok (.newarray .int, 2) := by decide +kernel
theorem dX10_init_122 : decode cX10_init 122 = .ok (.putfield 52, 3) := by decide +kernel
theorem dX10_init_125 : decode cX10_init 125 = .ok (.aload_n 0, 1) := by decide +kernel
theorem dX10_init_126 : decode cX10_init 126 = .ok (.sipush 144, 3) := by decide +kernel
theorem dX10_init_129 : decode cX10_init 129 = .ok (.newarray .int, 2) := by decide +kernel
theorem dX10_init_131 : decode cX10_init 131 = .ok (.putfield 55, 3) := by decide +kernel
theorem dX10_init_134 : decode cX10_init 134 = .ok (.aload_n 0, 1) := by decide +kernel
theorem dX10_init_135 : decode cX10_init 135 = .ok (.bipush 12, 2) := by decide +kernel
theorem dX10_init_137 : decode cX10_init 137 = .ok (.newarray .int, 2) := by decide +kernel
theorem dX10_init_139 : decode cX10_init 139 = .ok (.putfield 58, 3) := by decide +kernel
theorem dX10_init_142 : decode cX10_init 142 = .ok (.aload_n 0, 1) := by decide +kernel
theorem dX10_init_143 : decode cX10_init 143 = .ok (.sipush 144, 3) := by decide +kernel
theorem dX10_init_146 : decode cX10_init 146 = .ok (.newarray .int, 2) := by decide +kernel
theorem dX10_init_148 : decode cX10_init 148 = .ok (.putfield 61, 3) := by decide +kernel
theorem dX10_init_151 : decode cX10_init 151 = .ok (.aload_n 0, 1) := by decide +kernel
theorem dX10_init_152 : decode cX10_init 152 = .ok (.sipush 144, 3) := by decide +kernel
theorem dX10_init_155 : decode cX10_init 155 = .ok (.newarray .boolean, 2) := by decide +kernel
theorem dX10_init_157 : decode cX10_init 157 = .ok (.putfield 64, 3) := by decide +kernel
theorem dX10_init_160 : decode cX10_init 160 = .ok (.aload_n 0, 1) := by decide +kernel
theorem dX10_init_161 : decode cX10_init 161 = .ok (.iconst 2, 1) := by decide +kernel
theorem dX10_init_162 : decode cX10_init 162 = .ok (.newarray .int, 2) := by decide +kernel
theorem dX10_init_164 : decode cX10_init 164 = .ok (.putfield 68, 3) := by decide +kernel
theorem dX10_init_167 : decode cX10_init 167 = .ok (.aload_n 0, 1) := by decide +kernel
theorem dX10_init_168 : decode cX10_init 168 = .ok (.bipush 10, 2) := by decide +kernel
theorem dX10_init_170 : decode cX10_init 170 = .ok (.newarray .int, 2) := by decide +kernel
theorem dX10_init_172 : decode cX10_init 172 = .ok (.putfield 71, 3) := by decide +kernel
theorem dX10_init_175 : decode cX10_init 175 = .ok (.aload_n 0, 1) := by decide +kernel
theorem dX10_init_176 : decode cX10_init 176 = .ok (.bipush 10, 2) := by decide +kernel
theorem dX10_init_178 : decode cX10_init 178 = .ok (.newarray .int, 2) := by decide +kernel
theorem dX10_init_180 : decode cX10_init 180 = .ok (.putfield 74, 3) := by decide +kernel
theorem dX10_init_183 : decode cX10_init 183 = .ok (.aload_n 0, 1) := by decide +kernel
theorem dX10_init_184 : decode cX10_init 184 = .ok (.bipush 10, 2) := by decide +kernel
theorem dX10_init_186 : decode cX10_init 186 = .ok (.newarray .int, 2) := by decide +kernel
theorem dX10_init_188 : decode cX10_init 188 = .ok (.putfield 77, 3) := by decide +kernel
theorem dX10_init_191 : decode cX10_init 191 = .ok (.aload_n 0, 1) := by decide +kernel
theorem dX10_init_192 : decode cX10_init 192 = .ok (.bipush 10, 2) := by decide +kernel
theorem dX10_init_194 : decode cX10_init 194 = .ok (.newarray .int, 2) := by decide +kernel
theorem dX10_init_196 : decode cX10_init 196 = .ok (.putfield 80, 3) := by decide +kernel
theorem dX10_init_199 : decode cX10_init 199 = .ok (.aload_n 0, 1) := by decide +kernel
theorem dX10_init_200 : decode cX10_init 200 = .ok (.bipush 120, 2) := by decide +kernel
theorem dX10_init_202 : decode cX10_init 202 = .ok (.newarray .int, 2) := by decide +kernel
theorem dX10_init_204 : decode cX10_init 204 = .ok (.putfield 83, 3) := by decide +kernel
theorem dX10_init_207 : decode cX10_init 207 = .ok (.aload_n 0, 1) := by decide +kernel
theorem dX10_init_208 : decode cX10_init 208 = .ok (.bipush 12, 2) := by decide +kernel
theorem dX10_init_210 : decode cX10_init 210 = .ok (.newarray .int, 2) := by decide +kernel
theorem dX10_init_212 : decode cX10_init 212 = .ok (.putfield 86, 3) := by decide +kernel
theorem dX10_init_215 : decode cX10_init 215 = .ok (.aload_n 0, 1) := by decide +kernel
theorem dX10_init_216 : decode cX10_init 216 = .ok (.bipush 12, 2) := by decide +kernel
theorem dX10_init_218 : decode cX10_init 218 = .ok (.newarray .int, 2) := by decide +kernel
theorem dX10_init_220 : decode cX10_init 220 = .ok (.putfield 89, 3) := by decide +kernel
theorem dX10_init_223 : decode cX10_init 223 = .ok (.aload_n 0, 1) := by decide +kernel
theorem dX10_init_224 : decode cX10_init 224 = .ok (.sipush 720, 3) := by decide +kernel
theorem dX10_init_227 : decode cX10_init 227 = .ok (.newarray .int, 2) := by decide +kernel
theorem dX10_init_229 : decode cX10_init 229 = .ok (.putfield 92, 3) := by decide +kernel
theorem dX10_init_232 : decode cX10_init 232 = .ok (.aload_n 0, 1) := by decide +kernel
theorem dX10_init_233 : decode cX10_init 233 = .ok (.iconst 5, 1) := by decide +kernel
theorem dX10_init_234 : decode cX10_init 234 = .ok (.newarray .int, 2) := by decide +kernel
theorem dX10_init_236 : decode cX10_init 236 = .ok (.putfield 95, 3) := by decide +kernel
theorem dX10_init_239 : decode cX10_init 239 = .ok (.aload_n 0, 1) := by decide +kernel
theorem dX10_init_240 : decode cX10_init 240 = .ok (.iconst 4, 1) := by decide +kernel
theorem dX10_init_241 : decode cX10_init 241 = .ok (.newarray .boolean, 2) := by decide +kernel
theorem dX10_init_243 : decode cX10_init 243 = .ok (.putfield 98, 3) := by decide +kernel
theorem dX10_init_246 : decode cX10_init 246 = .ok (.aload_n 0, 1) := by decide +kernel
theorem dX10_init_247 : decode cX10_init 247 = .ok (.sipush 576, 3) := by decide +kernel
theorem dX10_init_250 : decode cX10_init 250 = .ok (.newarray .int, 2) := by decide +kernel
theorem dX10_init_252 : decode cX10_init 252 = .ok (.putfield 101, 3) := by decide +kernel
theorem dX10_init_255 : decode cX10_init 255 = .ok (.aload_n 0, 1) := by decide +kernel
theorem dX10_init_256 : decode cX10_init 256 = .ok (.bipush 8, 2) := by decide +kernel
theorem dX10_init_258 : decode cX10_init 258 = .ok (.newarray .int, 2) := by decide +kernel
theorem dX10_init_260 : decode cX10_init 260 = .ok (.putfield 104, 3) := by decide +kernel
theorem dX10_init_263 : decode cX10_init 263 = .ok (.aload_n 0, 1) := by decide +kernel
theorem dX10_init_264 : decode cX10_init 264 = .ok (.bipush 40, 2) := by decide +kernel
theorem dX10_init_266 : decode cX10_init 266 = .ok (.newarray .int, 2) := by decide +kernel
theorem dX10_init_268 : decode cX10_init 268 = .ok (.putfield 107, 3) := by decide +kernel
theorem dX10_init_271 : decode cX10_init 271 = .ok (.aload_n 0, 1) := by decide +kernel
theorem dX10_init_272 : decode cX10_init 272 = .ok (.bipush 40, 2) := by decide +kernel
theorem dX10_init_274 : decode cX10_init 274 = .ok (.newarray .boolean, 2) := by decide +kernel
theorem dX10_init_276 : decode cX10_init 276 = .ok (.putfield 110, 3) := by decide +kernel
theorem dX10_init_279 : decode cX10_init 279 = .ok (.aload_n 0, 1) := by decide +kernel
theorem dX10_init_280 : decode cX10_init 280 = .ok (.bipush 40, 2) := by decide +kernel
theorem dX10_init_282 : decode cX10_init 282 = .ok (.newarray .int, 2) := by decide +kernel
theorem dX10_init_284 : decode cX10_init 284 = .ok (.putfield 113, 3) := by decide +kernel
theorem dX10_init_287 : decode cX10_init 287 = .ok (.aload_n 0, 1) := by decide +kernel
theorem dX10_init_288 : decode cX10_init 288 = .ok (.bipush 6, 2) := by decide +kernel
theorem dX10_init_290 : decode cX10_init 290 = .ok (.newarray .int, 2) := by decide +kernel
theorem dX10_init_292 : decode cX10_init 292 = .ok (.putfield 116, 3) := by decide +kernel
theorem dX10_init_295 : decode cX10_init 295 = .ok (.aload_n 0, 1) := by decide +kernel
theorem dX10_init_296 : decode cX10_init 296 = .ok (.bipush 6, 2) := by decide +kernel
theorem dX10_init_298 : decode cX10_init 298 = .ok (.newarray .boolean, 2) := by decide +kernel
theorem dX10_init_300 : decode cX10_init 300 = .ok (.putfield 119, 3) := by decide +kernel
theorem dX10_init_303 : decode cX10_init 303 = .ok (.aload_n 0, 1) := by decide +kernel
theorem dX10_init_304 : decode cX10_init 304 = .ok (.bipush 6, 2) := by decide +kernel
theorem dX10_init_306 : decode cX10_init 306 = .ok (.newarray .int, 2) := by decide +kernel
theorem dX10_init_308 : decode cX10_init 308 = .ok (.putfield 122, 3) := by decide +kernel
theorem dX10_init_311 : decode cX10_init 311 = .ok (.aload_n 0, 1) := by decide +kernel
theorem dX10_init_312 : decode cX10_init 312 = .ok (.iconst 4, 1) := by decide +kernel
theorem dX10_init_313 : decode cX10_init 313 = .ok (.newarray .int, 2) := by decide +kernel
theorem dX10_init_315 : decode cX10_init 315 = .ok (.putfield 125, 3) := by decide +kernel
theorem dX10_init_318 : decode cX10_init 318 = .ok (.aload_n 0, 1) := by decide +kernel
theorem dX10_init_319 : decode cX10_init 319 = .ok (.iconst 4, 1) := by decide +kernel
theorem dX10_init_320 : decode cX10_init 320 = .ok (.newarray .int, 2) := by decide +kernel
theorem dX10_init_322 : decode cX10_init 322 = .ok (.putfield 128, 3) := by decide +kernel
theorem dX10_init_325 : decode cX10_init 325 = .ok (.aload_n 0, 1) := by decide +kernel
theorem dX10_init_326 : decode cX10_init 326 = .ok (.sipush 240, 3) := by decide +kernel
theorem dX10_init_329 : decode cX10_init 329 = .ok (.newarray .int, 2) := by decide +kernel
theorem dX10_init_331 : decode cX10_init 331 = .ok (.putfield 131, 3) := by decide +kernel
theorem dX10_init_334 : decode cX10_init 334 = .ok (.aload_n 0, 1) := by decide +kernel
theorem dX10_init_335 : decode cX10_init 335 = .ok (.bipush 60, 2) := by decide +kernel
theorem dX10_init_337 : decode cX10_init 337 = .ok (.newarray .int, 2) := by decide +kernel
theorem dX10_init_339 : decode cX10_init 339 = .ok (.putfield 134, 3) := by decide +kernel
theorem dX10_init_342 : decode cX10_init 342 = .ok (.aload_n 0, 1) := by decide +kernel
theorem dX10_init_343 : decode cX10_init 343 = .ok (.bipush 99, 2) := by decide +kernel
theorem dX10_init_345 : decode cX10_init 345 = .ok (.putfield 137, 3) := by decide +kernel
theorem dX10_init_348 : decode cX10_init 348 = .ok (.aload_n 0, 1) := by decide +kernel
theorem dX10_init_349 : decode cX10_init 349 = .ok (.bipush 60, 2) := by decide +kernel
theorem dX10_init_351 : decode cX10_init 351 = .ok (.putfield 141, 3) := by decide +kernel
theorem dX10_init_354 : decode cX10_init 354 = .ok (.iconst 0, 1) := by decide +kernel
theorem dX10_init_355 : decode cX10_init 355 = .ok (.istore_n 1, 1) := by decide +kernel
theorem dX10_init_356 : decode cX10_init 356 = .ok (.iload_n 1, 1) := by decide +kernel
theorem dX10_init_357 : decode cX10_init 357 = .ok (.iconst 4, 1) := by decide +kernel
theorem dX10_init_358 : decode cX10_init 358 = .ok (.if_icmp .ge 16, 3) := by decide +kernel
theorem dX10_init_361 : decode cX10_init 361 = .ok (.aload_n 0, 1) := by decide +kernel
theorem dX10_init_362 : decode cX10_init 362 = .ok (.getfield 125, 3) := by decide +kernel
theorem dX10_init_365 : decode cX10_init 365 = .ok (.iload_n 1, 1) := by decide +kernel
theorem dX10_init_366 : decode cX10_init 366 = .ok (.iconst (-1), 1) := by decide +kernel
theorem dX10_init_367 : decode cX10_init 367 = .ok (.iastore, 1) := by decide +kernel
theorem dX10_init_368 : decode cX10_init 368 = .ok (.iinc 1 1, 3) := by decide +kernel
theorem dX10_init_371 : decode cX10_init 371 = .ok (.goto (-15), 3) := by decide +kernel
theorem dX10_init_374 : decode cX10_init 374 = .ok (.return_, 1) := by decide +kernel
theorem dX10_in_0 : decode cX10_in 0 = .ok (.lload_n 0, 1) := by decide +kernel
theorem dX10_in_1 : decode cX10_in 1 = .ok (.lload_n 2, 1) := by decide +kernel
theorem dX10_in_2 : decode cX10_in 2 = .ok (.lcmp, 1) := by decide +kernel
theorem dX10_in_3 : decode cX10_in 3 = .ok (.ifCond .lt 14, 3) := by decide +kernel
theorem dX10_in_6 : decode cX10_in 6 = .ok (.lload_n 0, 1) := by decide +kernel
theorem dX10_in_7 : decode cX10_in 7 = .ok (.lload 4, 2) := by decide +kernel
theorem dX10_in_9 : decode cX10_in 9 = .ok (.lcmp, 1) := by decide +kernel
theorem dX10_in_10 : decode cX10_in 10 = .ok (.ifCond .gt 7, 3) := by decide +kernel
theorem dX10_in_13 : decode cX10_in 13 = .ok (.iconst 1, 1) := by decide +kernel
theorem dX10_in_14 : decode cX10_in 14 = .ok (.goto 4, 3) := by decide +kernel
theorem dX10_in_17 : decode cX10_in 17 = .ok (.iconst 0, 1) := by decide +kernel
theorem dX10_in_18 : decode cX10_in 18 = .ok (.ireturn, 1) := by decide +kernel
theorem dX10_lost_0 : decode cX10_lost 0 = .ok (.ldc2_w 144, 3) := by decide +kernel
theorem dX10_lost_3 : decode cX10_lost 3 = .ok (.lreturn, 1) := by decide +kernel
theorem dX10_sizeOf_0 : decode cX10_sizeOf 0 = .ok (.iload_n 0, 1) := by decide +kernel
theorem dX10_sizeOf_1 : decode cX10_sizeOf 1 = .ok (.ifCond .ge 8, 3) := by decide +kernel
theorem dX10_sizeOf_4 : decode cX10_sizeOf 4 = .ok (.iload_n 0, 1) := by decide +kernel
theorem dX10_sizeOf_5 : decode cX10_sizeOf 5 = .ok (.ineg, 1) := by decide +kernel
theorem dX10_sizeOf_6 : decode cX10_sizeOf 6 = .ok (.goto 4, 3) := by decide +kernel
theorem dX10_sizeOf_9 : decode cX10_sizeOf 9 = .ok (.iload_n 0, 1) := by decide +kernel
theorem dX10_sizeOf_10 : decode cX10_sizeOf 10 = .ok (.ireturn, 1) := by decide +kernel
theorem dX10_greater_0 : decode cX10_greater 0 = .ok (.iload_n 0, 1) := by decide +kernel
theorem dX10_greater_1 : decode cX10_greater 1 = .ok (.iload_n 1, 1) := by decide +kernel
theorem dX10_greater_2 : decode cX10_greater 2 = .ok (.if_icmp .le 7, 3) := by decide +kernel
theorem dX10_greater_5 : decode cX10_greater 5 = .ok (.iload_n 0, 1) := by decide +kernel
theorem dX10_greater_6 : decode cX10_greater 6 = .ok (.goto 4, 3) := by decide +kernel
theorem dX10_greater_9 : decode cX10_greater 9 = .ok (.iload_n 1, 1) := by decide +kernel
theorem dX10_greater_10 : decode cX10_greater 10 = .ok (.ireturn, 1) := by decide +kernel
theorem dX10_by_0 : decode cX10_by 0 = .ok (.iload_n 0, 1) := by decide +kernel
theorem dX10_by_1 : decode cX10_by 1 = .ok (.iload_n 1, 1) := by decide +kernel
theorem dX10_by_2 : decode cX10_by 2 = .ok (.idiv, 1) := by decide +kernel
theorem dX10_by_3 : decode cX10_by 3 = .ok (.istore_n 2, 1) := by decide +kernel
theorem dX10_by_4 : decode cX10_by 4 = .ok (.iload_n 0, 1) := by decide +kernel
theorem dX10_by_5 : decode cX10_by 5 = .ok (.iload_n 1, 1) := by decide +kernel
theorem dX10_by_6 : decode cX10_by 6 = .ok (.irem, 1) := by decide +kernel
theorem dX10_by_7 : decode cX10_by 7 = .ok (.ifCond .ge 9, 3) := by decide +kernel
theorem dX10_by_10 : decode cX10_by 10 = .ok (.iload_n 2, 1) := by decide +kernel
theorem dX10_by_11 : decode cX10_by 11 = .ok (.iconst 1, 1) := by decide +kernel
theorem dX10_by_12 : decode cX10_by 12 = .ok (.isub, 1) := by decide +kernel
theorem dX10_by_13 : decode cX10_by 13 = .ok (.goto 4, 3) := by decide +kernel
theorem dX10_by_16 : decode cX10_by 16 = .ok (.iload_n 2, 1) := by decide +kernel
theorem dX10_by_17 : decode cX10_by 17 = .ok (.ireturn, 1) := by decide +kernel
theorem dX10_hasBit_0 : decode cX10_hasBit 0 = .ok (.iload_n 0, 1) := by decide +kernel
theorem dX10_hasBit_1 : decode cX10_hasBit 1 = .ok (.iload_n 1, 1) := by decide +kernel
theorem dX10_hasBit_2 : decode cX10_hasBit 2 = .ok (.ishr, 1) := by decide +kernel
theorem dX10_hasBit_3 : decode cX10_hasBit 3 = .ok (.iconst 1, 1) := by decide +kernel
theorem dX10_hasBit_4 : decode cX10_hasBit 4 = .ok (.iand, 1) := by decide +kernel
theorem dX10_hasBit_5 : decode cX10_hasBit 5 = .ok (.iconst 1, 1) := by decide +kernel
theorem dX10_hasBit_6 : decode cX10_hasBit 6 = .ok (.if_icmp .ne 7, 3) := by decide +kernel
theorem dX10_hasBit_9 : decode cX10_hasBit 9 = .ok (.iconst 1, 1) := by decide +kernel
theorem dX10_hasBit_10 : decode cX10_hasBit 10 = .ok (.goto 4, 3) := by decide +kernel
theorem dX10_hasBit_13 : decode cX10_hasBit 13 = .ok (.iconst 0, 1) := by decide +kernel
theorem dX10_hasBit_14 : decode cX10_hasBit 14 = .ok (.ireturn, 1) := by decide +kernel
theorem dX10_refused_0 : decode cX10_refused 0 = .ok (.aload_n 0, 1) := by decide +kernel
theorem dX10_refused_1 : decode cX10_refused 1 = .ok (.iconst 0, 1) := by decide +kernel
theorem dX10_refused_2 : decode cX10_refused 2 = .ok (.putfield 146, 3) := by decide +kernel
theorem dX10_refused_5 : decode cX10_refused 5 = .ok (.iload_n 1, 1) := by decide +kernel
theorem dX10_refused_6 : decode cX10_refused 6 = .ok (.ireturn, 1) := by decide +kernel
theorem dX10_failed_0 : decode cX10_failed 0 = .ok (.aload_n 0, 1) := by decide +kernel
theorem dX10_failed_1 : decode cX10_failed 1 = .ok (.iload_n 1, 1) := by decide +kernel
theorem dX10_failed_2 : decode cX10_failed 2 = .ok (.putfield 146, 3) := by decide +kernel
theorem dX10_failed_5 : decode cX10_failed 5 = .ok (.bipush (-10), 2) := by decide +kernel
theorem dX10_failed_7 : decode cX10_failed 7 = .ok (.iload_n 1, 1) := by decide +kernel
theorem dX10_failed_8 : decode cX10_failed 8 = .ok (.isub, 1) := by decide +kernel
theorem dX10_failed_9 : decode cX10_failed 9 = .ok (.ireturn, 1) := by decide +kernel
theorem dX10_failedLong_0 : decode cX10_failedLong 0 = .ok (.aload_n 0, 1) := by decide +kernel
theorem dX10_failedLong_1 : decode cX10_failedLong 1 = .ok (.iload_n 1, 1) := by decide +kernel
theorem dX10_failedLong_2 : decode cX10_failedLong 2 = .ok (.putfield 146, 3) := by decide +kernel
theorem dX10_failedLong_5 : decode cX10_failedLong 5 = .ok (.invokestatic 149, 3) := by decide +kernel
theorem dX10_failedLong_8 : decode cX10_failedLong 8 = .ok (.lreturn, 1) := by decide +kernel
theorem dX10_noPost_0 : decode cX10_noPost 0 = .ok (.iload_n 1, 1) := by decide +kernel
theorem dX10_noPost_1 : decode cX10_noPost 1 = .ok (.i2l, 1) := by decide +kernel
theorem dX10_noPost_2 : decode cX10_noPost 2 = .ok (.lconst 0, 1) := by decide +kernel
theorem dX10_noPost_3 : decode cX10_noPost 3 = .ok (.aload_n 0, 1) := by decide +kernel
theorem dX10_noPost_4 : decode cX10_noPost 4 = .ok (.getfield 153, 3) := by decide +kernel
theorem dX10_noPost_7 : decode cX10_noPost 7 = .ok (.i2l, 1) := by decide +kernel
theorem dX10_noPost_8 : decode cX10_noPost 8 = .ok (.lconst 1, 1) := by decide +kernel
theorem dX10_noPost_9 : decode cX10_noPost 9 = .ok (.lsub, 1) := by decide +kernel
theorem dX10_noPost_10 : decode cX10_noPost 10 = .ok (.invokestatic 156, 3) := by decide +kernel
theorem dX10_noPost_13 : decode cX10_noPost 13 = .ok (.ifCond .ne 7, 3) := by decide +kernel
theorem dX10_noPost_16 : decode cX10_noPost 16 = .ok (.iconst 1, 1) := by decide +kernel
theorem dX10_noPost_17 : decode cX10_noPost 17 = .ok (.goto 4, 3) := by decide +kernel
theorem dX10_noPost_20 : decode cX10_noPost 20 = .ok (.iconst 0, 1) := by decide +kernel
theorem dX10_noPost_21 : decode cX10_noPost 21 = .ok (.ireturn, 1) := by decide +kernel
theorem dX10_isPlace_0 : decode cX10_isPlace 0 = .ok (.iload_n 0, 1) := by decide +kernel
theorem dX10_isPlace_1 : decode cX10_isPlace 1 = .ok (.i2l, 1) := by decide +kernel
theorem dX10_isPlace_2 : decode cX10_isPlace 2 = .ok (.lconst 0, 1) := by decide +kernel
theorem dX10_isPlace_3 : decode cX10_isPlace 3 = .ok (.ldc2_w 160, 3) := by decide +kernel
theorem dX10_isPlace_6 : decode cX10_isPlace 6 = .ok (.invokestatic 156, 3) := by decide +kernel
theorem dX10_isPlace_9 : decode cX10_isPlace 9 = .ok (.ifCond .eq 19, 3) := by decide +kernel
theorem dX10_isPlace_12 : decode cX10_isPlace 12 = .ok (.iload_n 1, 1) := by decide +kernel
theorem dX10_isPlace_13 : decode cX10_isPlace 13 = .ok (.i2l, 1) := by decide +kernel
theorem dX10_isPlace_14 : decode cX10_isPlace 14 = .ok (.lconst 0, 1) := by decide +kernel
theorem dX10_isPlace_15 : decode cX10_isPlace 15 = .ok (.ldc2_w 160, 3) := by decide +kernel
theorem dX10_isPlace_18 : decode cX10_isPlace 18 = .ok (.invokestatic 156, 3) := by decide +kernel
theorem dX10_isPlace_21 : decode cX10_isPlace 21 = .ok (.ifCond .eq 7, 3) := by decide +kernel
theorem dX10_isPlace_24 : decode cX10_isPlace 24 = .ok (.iconst 1, 1) := by decide +kernel
theorem dX10_isPlace_25 : decode cX10_isPlace 25 = .ok (.goto 4, 3) := by decide +kernel
theorem dX10_isPlace_28 : decode cX10_isPlace 28 = .ok (.iconst 0, 1) := by decide +kernel
theorem dX10_isPlace_29 : decode cX10_isPlace 29 = .ok (.ireturn, 1) := by decide +kernel
theorem dX10_post_0 : decode cX10_post 0 = .ok (.iload_n 1, 1) := by decide +kernel
theorem dX10_post_1 : decode cX10_post 1 = .ok (.i2l, 1) := by decide +kernel
theorem dX10_post_2 : decode cX10_post 2 = .ok (.lconst 0, 1) := by decide +kernel
theorem dX10_post_3 : decode cX10_post 3 = .ok (.ldc2_w 162, 3) := by decide +kernel
theorem dX10_post_6 : decode cX10_post 6 = .ok (.invokestatic 156, 3) := by decide +kernel
theorem dX10_post_9 : decode cX10_post 9 = .ok (.ifCond .eq 54, 3) := by decide +kernel
theorem dX10_post_12 : decode cX10_post 12 = .ok (.iload_n 2, 1) := by decide +kernel
theorem dX10_post_13 : decode cX10_post 13 = .ok (.iload_n 3, 1) := by decide +kernel
theorem dX10_post_14 : decode cX10_post 14 = .ok (.invokestatic 164, 3) := by decide +kernel
theorem dX10_post_17 : decode cX10_post 17 = .ok (.ifCond .eq 46, 3) := by decide +kernel
theorem dX10_post_20 : decode cX10_post 20 = .ok (.iload 4, 2) := by decide +kernel
theorem dX10_post_22 : decode cX10_post 22 = .ok (.i2l, 1) := by decide +kernel
theorem dX10_post_23 : decode cX10_post 23 = .ok (.lconst 0, 1) := by decide +kernel
theorem dX10_post_24 : decode cX10_post 24 = .ok (.ldc2_w 168, 3) := by decide +kernel
theorem dX10_post_27 : decode cX10_post 27 = .ok (.invokestatic 156, 3) := by decide +kernel
theorem dX10_post_30 : decode cX10_post 30 = .ok (.ifCond .eq 33, 3) := by decide +kernel
theorem dX10_post_33 : decode cX10_post 33 = .ok (.iload 5, 2) := by decide +kernel
theorem dX10_post_35 : decode cX10_post 35 = .ok (.i2l, 1) := by decide +kernel
theorem dX10_post_36 : decode cX10_post 36 = .ok (.ldc2_w 170, 3) := by decide +kernel
theorem dX10_post_39 : decode cX10_post 39 = .ok (.ldc2_w 172, 3) := by decide +kernel
theorem dX10_post_42 : decode cX10_post 42 = .ok (.invokestatic 156, 3) := by decide +kernel
theorem dX10_post_45 : decode cX10_post 45 = .ok (.ifCond .eq 18, 3) := by decide +kernel
theorem dX10_post_48 : decode cX10_post 48 = .ok (.iload 6, 2) := by decide +kernel
theorem dX10_post_50 : decode cX10_post 50 = .ok (.i2l, 1) := by decide +kernel
theorem dX10_post_51 : decode cX10_post 51 = .ok (.ldc2_w 170, 3) := by decide +kernel
theorem dX10_post_54 : decode cX10_post 54 = .ok (.ldc2_w 172, 3) := by decide +kernel
theorem dX10_post_57 : decode cX10_post 57 = .ok (.invokestatic 156, 3) := by decide +kernel
theorem dX10_post_60 : decode cX10_post 60 = .ok (.ifCond .ne 6, 3) := by decide +kernel
theorem dX10_post_63 : decode cX10_post 63 = .ok (.bipush (-2), 2) := by decide +kernel
theorem dX10_post_65 : decode cX10_post 65 = .ok (.ireturn, 1) := by decide +kernel
theorem dX10_post_66 : decode cX10_post 66 = .ok (.aload_n 0, 1) := by decide +kernel
theorem dX10_post_67 : decode cX10_post 67 = .ok (.getfield 153, 3) := by decide +kernel
theorem dX10_post_70 : decode cX10_post 70 = .ok (.bipush 12, 2) := by decide +kernel
theorem dX10_post_72 : decode cX10_post 72 = .ok (.if_icmp .ne 6, 3) := by decide +kernel
theorem dX10_post_75 : decode cX10_post 75 = .ok (.bipush (-4), 2) := by decide +kernel
theorem dX10_post_77 : decode cX10_post 77 = .ok (.ireturn, 1) := by decide +kernel
theorem dX10_post_78 : decode cX10_post 78 = .ok (.aload_n 0, 1) := by decide +kernel
theorem dX10_post_79 : decode cX10_post 79 = .ok (.getfield 7, 3) := by decide +kernel
theorem dX10_post_82 : decode cX10_post 82 = .ok (.aload_n 0, 1) := by decide +kernel
theorem dX10_post_83 : decode cX10_post 83 = .ok (.getfield 153, 3) := by decide +kernel
theorem dX10_post_86 : decode cX10_post 86 = .ok (.iload_n 1, 1) := by decide +kernel
theorem dX10_post_87 : decode cX10_post 87 = .ok (.iastore, 1) := by decide +kernel
theorem dX10_post_88 : decode cX10_post 88 = .ok (.aload_n 0, 1) := by decide +kernel
theorem dX10_post_89 : decode cX10_post 89 = .ok (.getfield 13, 3) := by decide +kernel
theorem dX10_post_92 : decode cX10_post 92 = .ok (.aload_n 0, 1) := by decide +kernel
theorem dX10_post_93 : decode cX10_post 93 = .ok (.getfield 153, 3) := by decide +kernel
theorem dX10_post_96 : decode cX10_post 96 = .ok (.iload_n 2, 1) := by decide +kernel
theorem dX10_post_97 : decode cX10_post 97 = .ok (.iastore, 1) := by decide +kernel
theorem dX10_post_98 : decode cX10_post 98 = .ok (.aload_n 0, 1) := by decide +kernel
theorem dX10_post_99 : decode cX10_post 99 = .ok (.getfield 16, 3) := by decide +kernel
theorem dX10_post_102 : decode cX10_post 102 = .ok (.aload_n 0, 1) := by decide +kernel
theorem dX10_post_103 : decode cX10_post 103 = .ok (.getfield 153, 3) := by decide +kernel
theorem dX10_post_106 : decode cX10_post 106 = .ok (.iload_n 3, 1) := by decide +kernel
theorem dX10_post_107 : decode cX10_post 107 = .ok (.iastore, 1) := by decide +kernel
theorem dX10_post_108 : decode cX10_post 108 = .ok (.aload_n 0, 1) := by decide +kernel
theorem dX10_post_109 : decode cX10_post 109 = .ok (.getfield 19, 3) := by decide +kernel
theorem dX10_post_112 : decode cX10_post 112 = .ok (.aload_n 0, 1) := by decide +kernel
theorem dX10_post_113 : decode cX10_post 113 = .ok (.getfield 153, 3) := by decide +kernel
theorem dX10_post_116 : decode cX10_post 116 = .ok (.iload 4, 2) := by decide +kernel
theorem dX10_post_118 : decode cX10_post 118 = .ok (.iastore, 1) := by decide +kernel
theorem dX10_post_119 : decode cX10_post 119 = .ok (.aload_n 0, 1) := by decide +kernel
theorem dX10_post_120 : decode cX10_post 120 = .ok (.getfield 22, 3) := by decide +kernel
theorem dX10_post_123 : decode cX10_post 123 = .ok (.aload_n 0, 1) := by decide +kernel
theorem dX10_post_124 : decode cX10_post 124 = .ok (.getfield 153, 3) := by decide +kernel
theorem dX10_post_127 : decode cX10_post 127 = .ok (.iload 5, 2) := by decide +kernel
theorem dX10_post_129 : decode cX10_post 129 = .ok (.iastore, 1) := by decide +kernel
theorem dX10_post_130 : decode cX10_post 130 = .ok (.aload_n 0, 1) := by decide +kernel
theorem dX10_post_131 : decode cX10_post 131 = .ok (.getfield 25, 3) := by decide +kernel
theorem dX10_post_134 : decode cX10_post 134 = .ok (.aload_n 0, 1) := by decide +kernel
theorem dX10_post_135 : decode cX10_post 135 = .ok (.getfield 153, 3) := by decide +kernel
theorem dX10_post_138 : decode cX10_post 138 = .ok (.iload 6, 2) := by decide +kernel
theorem dX10_post_140 : decode cX10_post 140 = .ok (.iastore, 1) := by decide +kernel
theorem dX10_post_141 : decode cX10_post 141 = .ok (.aload_n 0, 1) := by decide +kernel
theorem dX10_post_142 : decode cX10_post 142 = .ok (.dup, 1) := by decide +kernel
theorem dX10_post_143 : decode cX10_post 143 = .ok (.getfield 153, 3) := by decide +kernel
theorem dX10_post_146 : decode cX10_post 146 = .ok (.iconst 1, 1) := by decide +kernel
theorem dX10_post_147 : decode cX10_post 147 = .ok (.iadd, 1) := by decide +kernel
theorem dX10_post_148 : decode cX10_post 148 = .ok (.putfield 153, 3) := by decide +kernel
theorem dX10_post_151 : decode cX10_post 151 = .ok (.aload_n 0, 1) := by decide +kernel
theorem dX10_post_152 : decode cX10_post 152 = .ok (.iconst 0, 1) := by decide +kernel
theorem dX10_post_153 : decode cX10_post 153 = .ok (.putfield 174, 3) := by decide +kernel
theorem dX10_post_156 : decode cX10_post 156 = .ok (.aload_n 0, 1) := by decide +kernel
theorem dX10_post_157 : decode cX10_post 157 = .ok (.getfield 153, 3) := by decide +kernel
theorem dX10_post_160 : decode cX10_post 160 = .ok (.iconst 1, 1) := by decide +kernel
theorem dX10_post_161 : decode cX10_post 161 = .ok (.isub, 1) := by decide +kernel
theorem dX10_post_162 : decode cX10_post 162 = .ok (.ireturn, 1) := by decide +kernel
theorem dX10_back_0 : decode cX10_back 0 = .ok (.iload_n 0, 1) := by decide +kernel
theorem dX10_back_1 : decode cX10_back 1 = .ok (.bipush 22, 2) := by decide +kernel
theorem dX10_back_3 : decode cX10_back 3 = .ok (.irem, 1) := by decide +kernel
theorem dX10_back_4 : decode cX10_back 4 = .ok (.bipush 22, 2) := by decide +kernel
theorem dX10_back_6 : decode cX10_back 6 = .ok (.iadd, 1) := by decide +kernel
theorem dX10_back_7 : decode cX10_back 7 = .ok (.bipush 22, 2) := by decide +kernel
theorem dX10_back_9 : decode cX10_back 9 = .ok (.irem, 1) := by decide +kernel
theorem dX10_back_10 : decode cX10_back 10 = .ok (.istore_n 1, 1) := by decide +kernel
theorem dX10_back_11 : decode cX10_back 11 = .ok (.iload_n 1, 1) := by decide +kernel
theorem dX10_back_12 : decode cX10_back 12 = .ok (.bipush 11, 2) := by decide +kernel
theorem dX10_back_14 : decode cX10_back 14 = .ok (.if_icmp .le 10, 3) := by decide +kernel
theorem dX10_back_17 : decode cX10_back 17 = .ok (.bipush 22, 2) := by decide +kernel
theorem dX10_back_19 : decode cX10_back 19 = .ok (.iload_n 1, 1) := by decide +kernel
theorem dX10_back_20 : decode cX10_back 20 = .ok (.isub, 1) := by decide +kernel
theorem dX10_back_21 : decode cX10_back 21 = .ok (.goto 4, 3) := by decide +kernel
theorem dX10_back_24 : decode cX10_back 24 = .ok (.iload_n 1, 1) := by decide +kernel
theorem dX10_back_25 : decode cX10_back 25 = .ok (.ireturn, 1) := by decide +kernel
theorem dX10_placeOf_0 : decode cX10_placeOf 0 = .ok (.aload_n 0, 1) := by decide +kernel
theorem dX10_placeOf_1 : decode cX10_placeOf 1 = .ok (.getfield 7, 3) := by decide +kernel
theorem dX10_placeOf_4 : decode cX10_placeOf 4 = .ok (.iload_n 1, 1) := by decide +kernel
theorem dX10_placeOf_5 : decode cX10_placeOf 5 = .ok (.iaload, 1) := by decide +kernel
theorem dX10_placeOf_6 : decode cX10_placeOf 6 = .ok (.ifCond .ne 20, 3) := by decide +kernel
theorem dX10_placeOf_9 : decode cX10_placeOf 9 = .ok (.bipush 12, 2) := by decide +kernel
theorem dX10_placeOf_11 : decode cX10_placeOf 11 = .ok (.aload_n 0, 1) := by decide +kernel
theorem dX10_placeOf_12 : decode cX10_placeOf 12 = .ok (.getfield 16, 3) := by decide +kernel
theorem dX10_placeOf_15 : decode cX10_placeOf 15 = .ok (.iload_n 1, 1) := by decide +kernel
theorem dX10_placeOf_16 : decode cX10_placeOf 16 = .ok (.iaload, 1) := by decide +kernel
theorem dX10_placeOf_17 : decode cX10_placeOf 17 = .ok (.imul, 1) := by decide +kernel
theorem dX10_placeOf_18 : decode cX10_placeOf 18 = .ok (.aload_n 0, 1) := by decide +kernel
theorem dX10_placeOf_19 : decode cX10_placeOf 19 = .ok (.getfield 13, 3) := by decide +kernel
theorem dX10_placeOf_22 : decode cX10_placeOf 22 = .ok (.iload_n 1, 1) := by decide +kernel
theorem dX10_placeOf_23 : decode cX10_placeOf 23 = .ok (.iaload, 1) := by decide +kernel
theorem dX10_placeOf_24 : decode cX10_placeOf 24 = .ok (.iadd, 1) := by decide +kernel
theorem dX10_placeOf_25 : decode cX10_placeOf 25 = .ok (.ireturn, 1) := by decide +kernel
theorem dX10_placeOf_26 : decode cX10_placeOf 26 = .ok (.aload_n 0, 1) := by decide +kernel
theorem dX10_placeOf_27 : decode cX10_placeOf 27 = .ok (.getfield 13, 3) := by decide +kernel
theorem dX10_placeOf_30 : decode cX10_placeOf 30 = .ok (.iload_n 1, 1) := by decide +kernel
theorem dX10_placeOf_31 : decode cX10_placeOf 31 = .ok (.iaload, 1) := by decide +kernel
theorem dX10_placeOf_32 : decode cX10_placeOf 32 = .ok (.aload_n 0, 1) := by decide +kernel
theorem dX10_placeOf_33 : decode cX10_placeOf 33 = .ok (.getfield 22, 3) := by decide +kernel
theorem dX10_placeOf_36 : decode cX10_placeOf 36 = .ok (.iload_n 1, 1) := by decide +kernel
theorem dX10_placeOf_37 : decode cX10_placeOf 37 = .ok (.iaload, 1) := by decide +kernel
theorem dX10_placeOf_38 : decode cX10_placeOf 38 = .ok (.iload_n 2, 1) := by decide +kernel
theorem dX10_placeOf_39 : decode cX10_placeOf 39 = .ok (.imul, 1) := by decide +kernel
theorem dX10_placeOf_40 : decode cX10_placeOf 40 = .ok (.bipush 10, 2) := by decide +kernel
theorem dX10_placeOf_42 : decode cX10_placeOf 42 = .ok (.invokestatic 178, 3) := by decide +kernel
theorem dX10_placeOf_45 : decode cX10_placeOf 45 = .ok (.iadd, 1) := by decide +kernel
theorem dX10_placeOf_46 : decode cX10_placeOf 46 = .ok (.istore_n 3, 1) := by decide +kernel
theorem dX10_placeOf_47 : decode cX10_placeOf 47 = .ok (.aload_n 0, 1) := by decide +kernel
theorem dX10_placeOf_48 : decode cX10_placeOf 48 = .ok (.getfield 16, 3) := by decide +kernel
theorem dX10_placeOf_51 : decode cX10_placeOf 51 = .ok (.iload_n 1, 1) := by decide +kernel
theorem dX10_placeOf_52 : decode cX10_placeOf 52 = .ok (.iaload, 1) := by decide +kernel
theorem dX10_placeOf_53 : decode cX10_placeOf 53 = .ok (.aload_n 0, 1) := by decide +kernel
theorem dX10_placeOf_54 : decode cX10_placeOf 54 = .ok (.getfield 25, 3) := by decide +kernel
theorem dX10_placeOf_57 : decode cX10_placeOf 57 = .ok (.iload_n 1, 1) := by decide +kernel
theorem dX10_placeOf_58 : decode cX10_placeOf 58 = .ok (.iaload, 1) := by decide +kernel
theorem dX10_placeOf_59 : decode cX10_placeOf 59 = .ok (.iload_n 2, 1) := by decide +kernel
theorem dX10_placeOf_60 : decode cX10_placeOf 60 = .ok (.imul, 1) := by decide +kernel
theorem dX10_placeOf_61 : decode cX10_placeOf 61 = .ok (.bipush 10, 2) := by decide +kernel
theorem dX10_placeOf_63 : decode cX10_placeOf 63 = .ok (.invokestatic 178, 3) := by decide +kernel
theorem dX10_placeOf_66 : decode cX10_placeOf 66 = .ok (.iadd, 1) := by decide +kernel
theorem dX10_placeOf_67 : decode cX10_placeOf 67 = .ok (.istore 4, 2) := by decide +kernel
theorem dX10_placeOf_69 : decode cX10_placeOf 69 = .ok (.aload_n 0, 1) := by decide +kernel
theorem dX10_placeOf_70 : decode cX10_placeOf 70 = .ok (.getfield 7, 3) := by decide +kernel
theorem dX10_placeOf_73 : decode cX10_placeOf 73 = .ok (.iload_n 1, 1) := by decide +kernel
theorem dX10_placeOf_74 : decode cX10_placeOf 74 = .ok (.iaload, 1) := by decide +kernel
theorem dX10_placeOf_75 : decode cX10_placeOf 75 = .ok (.iconst 2, 1) := by decide +kernel
theorem dX10_placeOf_76 : decode cX10_placeOf 76 = .ok (.if_icmp .ne 17, 3) := by decide +kernel
theorem dX10_placeOf_79 : decode cX10_placeOf 79 = .ok (.bipush 12, 2) := by decide +kernel
theorem dX10_placeOf_81 : decode cX10_placeOf 81 = .ok (.iload 4, 2) := by decide +kernel
theorem dX10_placeOf_83 : decode cX10_placeOf 83 = .ok (.invokestatic 182, 3) := by decide +kernel
theorem dX10_placeOf_86 : decode cX10_placeOf 86 = .ok (.imul, 1) := by decide +kernel
theorem dX10_placeOf_87 : decode cX10_placeOf 87 = .ok (.iload_n 3, 1) := by decide +kernel
theorem dX10_placeOf_88 : decode cX10_placeOf 88 = .ok (.invokestatic 182, 3) := by decide +kernel
theorem dX10_placeOf_91 : decode cX10_placeOf 91 = .ok (.iadd, 1) := by decide +kernel
theorem dX10_placeOf_92 : decode cX10_placeOf 92 = .ok (.ireturn, 1) := by decide +kernel
theorem dX10_placeOf_93 : decode cX10_placeOf 93 = .ok (.iload_n 3, 1) := by decide +kernel
theorem dX10_placeOf_94 : decode cX10_placeOf 94 = .ok (.iload 4, 2) := by decide +kernel
theorem dX10_placeOf_96 : decode cX10_placeOf 96 = .ok (.invokestatic 164, 3) := by decide +kernel
theorem dX10_placeOf_99 : decode cX10_placeOf 99 = .ok (.ifCond .eq 13, 3) := by decide +kernel
theorem dX10_placeOf_102 : decode cX10_placeOf 102 = .ok (.bipush 12, 2) := by decide +kernel
theorem dX10_placeOf_104 : decode cX10_placeOf 104 = .ok (.iload 4, 2) := by decide +kernel
theorem dX10_placeOf_106 : decode cX10_placeOf 106 = .ok (.imul, 1) := by decide +kernel
theorem dX10_placeOf_107 : decode cX10_placeOf 107 = .ok (.iload_n 3, 1) := by decide +kernel
theorem dX10_placeOf_108 : decode cX10_placeOf 108 = .ok (.iadd, 1) := by decide +kernel
theorem dX10_placeOf_109 : decode cX10_placeOf 109 = .ok (.goto 5, 3) := by decide +kernel
theorem dX10_placeOf_112 : decode cX10_placeOf 112 = .ok (.bipush (-9), 2) := by decide +kernel
theorem dX10_placeOf_114 : decode cX10_placeOf 114 = .ok (.ireturn, 1) := by decide +kernel
theorem dX10_place_0 : decode cX10_place 0 = .ok (.aload_n 0, 1) := by decide +kernel
theorem dX10_place_1 : decode cX10_place 1 = .ok (.iload_n 1, 1) := by decide +kernel
theorem dX10_place_2 : decode cX10_place 2 = .ok (.invokevirtual 186, 3) := by decide +kernel
theorem dX10_place_5 : decode cX10_place 5 = .ok (.ifCond .eq 5, 3) := by decide +kernel
theorem dX10_place_8 : decode cX10_place 8 = .ok (.iconst (-1), 1) := by decide +kernel
theorem dX10_place_9 : decode cX10_place 9 = .ok (.ireturn, 1) := by decide +kernel
theorem dX10_place_10 : decode cX10_place 10 = .ok (.iload_n 2, 1) := by decide +kernel
theorem dX10_place_11 : decode cX10_place 11 = .ok (.i2l, 1) := by decide +kernel
theorem dX10_place_12 : decode cX10_place 12 = .ok (.lconst 0, 1) := by decide +kernel
theorem dX10_place_13 : decode cX10_place 13 = .ok (.ldc2_w 190, 3) := by decide +kernel
theorem dX10_place_16 : decode cX10_place 16 = .ok (.invokestatic 156, 3) := by decide +kernel
theorem dX10_place_19 : decode cX10_place 19 = .ok (.ifCond .eq 12, 3) := by decide +kernel
theorem dX10_place_22 : decode cX10_place 22 = .ok (.aload_n 0, 1) := by decide +kernel
theorem dX10_place_23 : decode cX10_place 23 = .ok (.iload_n 1, 1) := by decide +kernel
theorem dX10_place_24 : decode cX10_place 24 = .ok (.iload_n 2, 1) := by decide +kernel
theorem dX10_place_25 : decode cX10_place 25 = .ok (.invokevirtual 192, 3) := by decide +kernel
theorem dX10_place_28 : decode cX10_place 28 = .ok (.goto 5, 3) := by decide +kernel
theorem dX10_place_31 : decode cX10_place 31 = .ok (.bipush (-2), 2) := by decide +kernel
theorem dX10_place_33 : decode cX10_place 33 = .ok (.ireturn, 1) := by decide +kernel
theorem dX10_far_0 : decode cX10_far 0 = .ok (.iload_n 0, 1) := by decide +kernel
theorem dX10_far_1 : decode cX10_far 1 = .ok (.bipush 12, 2) := by decide +kernel
theorem dX10_far_3 : decode cX10_far 3 = .ok (.irem, 1) := by decide +kernel
theorem dX10_far_4 : decode cX10_far 4 = .ok (.iload_n 1, 1) := by decide +kernel
theorem dX10_far_5 : decode cX10_far 5 = .ok (.bipush 12, 2) := by decide +kernel
theorem dX10_far_7 : decode cX10_far 7 = .ok (.irem, 1) := by decide +kernel
theorem dX10_far_8 : decode cX10_far 8 = .ok (.isub, 1) := by decide +kernel
theorem dX10_far_9 : decode cX10_far 9 = .ok (.istore_n 2, 1) := by decide +kernel
theorem dX10_far_10 : decode cX10_far 10 = .ok (.iload_n 0, 1) := by decide +kernel
theorem dX10_far_11 : decode cX10_far 11 = .ok (.bipush 12, 2) := by decide +kernel
theorem dX10_far_13 : decode cX10_far 13 = .ok (.idiv, 1) := by decide +kernel
theorem dX10_far_14 : decode cX10_far 14 = .ok (.iload_n 1, 1) := by decide +kernel
theorem dX10_far_15 : decode cX10_far 15 = .ok (.bipush 12, 2) := by decide +kernel
theorem dX10_far_17 : decode cX10_far 17 = .ok (.idiv, 1) := by decide +kernel
theorem dX10_far_18 : decode cX10_far 18 = .ok (.isub, 1) := by decide +kernel
theorem dX10_far_19 : decode cX10_far 19 = .ok (.istore_n 3, 1) := by decide +kernel
theorem dX10_far_20 : decode cX10_far 20 = .ok (.iload_n 2, 1) := by decide +kernel
theorem dX10_far_21 : decode cX10_far 21 = .ok (.iload_n 2, 1) := by decide +kernel
theorem dX10_far_22 : decode cX10_far 22 = .ok (.imul, 1) := by decide +kernel
theorem dX10_far_23 : decode cX10_far 23 = .ok (.iload_n 3, 1) := by decide +kernel
theorem dX10_far_24 : decode cX10_far 24 = .ok (.iload_n 3, 1) := by decide +kernel
theorem dX10_far_25 : decode cX10_far 25 = .ok (.imul, 1) := by decide +kernel
theorem dX10_far_26 : decode cX10_far 26 = .ok (.iadd, 1) := by decide +kernel
theorem dX10_far_27 : decode cX10_far 27 = .ok (.ireturn, 1) := by decide +kernel
theorem dX10_stepsOf_0 : decode cX10_stepsOf 0 = .ok (.iload_n 0, 1) := by decide +kernel
theorem dX10_stepsOf_1 : decode cX10_stepsOf 1 = .ok (.bipush 12, 2) := by decide +kernel
theorem dX10_stepsOf_3 : decode cX10_stepsOf 3 = .ok (.irem, 1) := by decide +kernel
theorem dX10_stepsOf_4 : decode cX10_stepsOf 4 = .ok (.iload_n 1, 1) := by decide +kernel
theorem dX10_stepsOf_5 : decode cX10_stepsOf 5 = .ok (.bipush 12, 2) := by decide +kernel
theorem dX10_stepsOf_7 : decode cX10_stepsOf 7 = .ok (.irem, 1) := by decide +kernel
theorem dX10_stepsOf_8 : decode cX10_stepsOf 8 = .ok (.isub, 1) := by decide +kernel
theorem dX10_stepsOf_9 : decode cX10_stepsOf 9 = .ok (.invokestatic 195, 3) := by decide +kernel
theorem dX10_stepsOf_12 : decode cX10_stepsOf 12 = .ok (.iload_n 0, 1) := by decide +kernel
theorem dX10_stepsOf_13 : decode cX10_stepsOf 13 = .ok (.bipush 12, 2) := by decide +kernel
theorem dX10_stepsOf_15 : decode cX10_stepsOf 15 = .ok (.idiv, 1) := by decide +kernel
theorem dX10_stepsOf_16 : decode cX10_stepsOf 16 = .ok (.iload_n 1, 1) := by decide +kernel
theorem dX10_stepsOf_17 : decode cX10_stepsOf 17 = .ok (.bipush 12, 2) := by decide +kernel
theorem dX10_stepsOf_19 : decode cX10_stepsOf 19 = .ok (.idiv, 1) := by decide +kernel
theorem dX10_stepsOf_20 : decode cX10_stepsOf 20 = .ok (.isub, 1) := by decide +kernel
theorem dX10_stepsOf_21 : decode cX10_stepsOf 21 = .ok (.invokestatic 195, 3) := by decide +kernel
theorem dX10_stepsOf_24 : decode cX10_stepsOf 24 = .ok (.invokestatic 198, 3) := by decide +kernel
theorem dX10_stepsOf_27 : decode cX10_stepsOf 27 = .ok (.ireturn, 1) := by decide +kernel
theorem dX10_noWire_0 : decode cX10_noWire 0 = .ok (.iload_n 1, 1) := by decide +kernel
theorem dX10_noWire_1 : decode cX10_noWire 1 = .ok (.i2l, 1) := by decide +kernel
theorem dX10_noWire_2 : decode cX10_noWire 2 = .ok (.lconst 0, 1) := by decide +kernel
theorem dX10_noWire_3 : decode cX10_noWire 3 = .ok (.aload_n 0, 1) := by decide +kernel
theorem dX10_noWire_4 : decode cX10_noWire 4 = .ok (.getfield 201, 3) := by decide +kernel
theorem dX10_noWire_7 : decode cX10_noWire 7 = .ok (.i2l, 1) := by decide +kernel
theorem dX10_noWire_8 : decode cX10_noWire 8 = .ok (.lconst 1, 1) := by decide +kernel
theorem dX10_noWire_9 : decode cX10_noWire 9 = .ok (.lsub, 1) := by decide +kernel
theorem dX10_noWire_10 : decode cX10_noWire 10 = .ok (.invokestatic 156, 3) := by decide +kernel
theorem dX10_noWire_13 : decode cX10_noWire 13 = .ok (.ifCond .ne 7, 3) := by decide +kernel
theorem dX10_noWire_16 : decode cX10_noWire 16 = .ok (.iconst 1, 1) := by decide +kernel
theorem dX10_noWire_17 : decode cX10_noWire 17 = .ok (.goto 4, 3) := by decide +kernel
theorem dX10_noWire_20 : decode cX10_noWire 20 = .ok (.iconst 0, 1) := by decide +kernel
theorem dX10_noWire_21 : decode cX10_noWire 21 = .ok (.ireturn, 1) := by decide +kernel
theorem dX10_fits_0 : decode cX10_fits 0 = .ok (.aload_n 0, 1) := by decide +kernel
theorem dX10_fits_1 : decode cX10_fits 1 = .ok (.getfield 37, 3) := by decide +kernel
theorem dX10_fits_4 : decode cX10_fits 4 = .ok (.bipush 15, 2) := by decide +kernel
theorem dX10_fits_6 : decode cX10_fits 6 = .ok (.iload_n 1, 1) := by decide +kernel
theorem dX10_fits_7 : decode cX10_fits 7 = .ok (.imul, 1) := by decide +kernel
theorem dX10_fits_8 : decode cX10_fits 8 = .ok (.iconst 5, 1) := by decide +kernel
theorem dX10_fits_9 : decode cX10_fits 9 = .ok (.iload_n 2, 1) := by decide +kernel
theorem dX10_fits_10 : decode cX10_fits 10 = .ok (.imul, 1) := by decide +kernel
theorem dX10_fits_11 : decode cX10_fits 11 = .ok (.iadd, 1) := by decide +kernel
theorem dX10_fits_12 : decode cX10_fits 12 = .ok (.iload_n 3, 1) := by decide +kernel
theorem dX10_fits_13 : decode cX10_fits 13 = .ok (.iadd, 1) := by decide +kernel
theorem dX10_fits_14 : decode cX10_fits 14 = .ok (.iaload, 1) := by decide +kernel
theorem dX10_fits_15 : decode cX10_fits 15 = .ok (.istore 5, 2) := by decide +kernel
theorem dX10_fits_17 : decode cX10_fits 17 = .ok (.iload 5, 2) := by decide +kernel
theorem dX10_fits_19 : decode cX10_fits 19 = .ok (.ifCond .lt 10, 3) := by decide +kernel
theorem dX10_fits_22 : decode cX10_fits 22 = .ok (.iload 5, 2) := by decide +kernel
theorem dX10_fits_24 : decode cX10_fits 24 = .ok (.iload 4, 2) := by decide +kernel
theorem dX10_fits_26 : decode cX10_fits 26 = .ok (.if_icmp .ne 7, 3) := by decide +kernel
theorem dX10_fits_29 : decode cX10_fits 29 = .ok (.iconst 1, 1) := by decide +kernel
theorem dX10_fits_30 : decode cX10_fits 30 = .ok (.goto 4, 3) := by decide +kernel
theorem dX10_fits_33 : decode cX10_fits 33 = .ok (.iconst 0, 1) := by decide +kernel
theorem dX10_fits_34 : decode cX10_fits 34 = .ok (.ireturn, 1) := by decide +kernel
theorem dX10_readingOf_0 : decode cX10_readingOf 0 = .ok (.iload_n 3, 1) := by decide +kernel
theorem dX10_readingOf_1 : decode cX10_readingOf 1 = .ok (.sipush 1000, 3) := by decide +kernel
theorem dX10_readingOf_4 : decode cX10_readingOf 4 = .ok (.idiv, 1) := by decide +kernel
theorem dX10_readingOf_5 : decode cX10_readingOf 5 = .ok (.istore 4, 2) := by decide +kernel
theorem dX10_readingOf_7 : decode cX10_readingOf 7 = .ok (.iload_n 3, 1) := by decide +kernel
theorem dX10_readingOf_8 : decode cX10_readingOf 8 = .ok (.bipush 100, 2) := by decide +kernel
theorem dX10_readingOf_10 : decode cX10_readingOf 10 = .ok (.idiv, 1) := by decide +kernel
theorem dX10_readingOf_11 : decode cX10_readingOf 11 = .ok (.bipush 10, 2) := by decide +kernel
theorem dX10_readingOf_13 : decode cX10_readingOf 13 = .ok (.irem, 1) := by decide +kernel
theorem dX10_readingOf_14 : decode cX10_readingOf 14 = .ok (.istore 5, 2) := by decide +kernel
theorem dX10_readingOf_16 : decode cX10_readingOf 16 = .ok (.iload_n 3, 1) := by decide +kernel
theorem dX10_readingOf_17 : decode cX10_readingOf 17 = .ok (.bipush 10, 2) := by decide +kernel
theorem dX10_readingOf_19 : decode cX10_readingOf 19 = .ok (.idiv, 1) := by decide +kernel
theorem dX10_readingOf_20 : decode cX10_readingOf 20 = .ok (.bipush 10, 2) := by decide +kernel
theorem dX10_readingOf_22 : decode cX10_readingOf 22 = .ok (.irem, 1) := by decide +kernel
theorem dX10_readingOf_23 : decode cX10_readingOf 23 = .ok (.istore 6, 2) := by decide +kernel
theorem dX10_readingOf_25 : decode cX10_readingOf 25 = .ok (.iload_n 3, 1) := by decide +kernel
theorem dX10_readingOf_26 : decode cX10_readingOf 26 = .ok (.bipush 10, 2) := by decide +kernel
theorem dX10_readingOf_28 : decode cX10_readingOf 28 = .ok (.irem, 1) := by decide +kernel
theorem dX10_readingOf_29 : decode cX10_readingOf 29 = .ok (.istore 7, 2) := by decide +kernel
theorem dX10_readingOf_31 : decode cX10_readingOf 31 = .ok (.iload 4, 2) := by decide +kernel
theorem dX10_readingOf_33 : decode cX10_readingOf 33 = .ok (.iconst 3, 1) := by decide +kernel
theorem dX10_readingOf_34 : decode cX10_readingOf 34 = .ok (.iload 5, 2) := by decide +kernel
theorem dX10_readingOf_36 : decode cX10_readingOf 36 = .ok (.imul, 1) := by decide +kernel
theorem dX10_readingOf_37 : decode cX10_readingOf 37 = .ok (.iadd, 1) := by decide +kernel
theorem dX10_readingOf_38 : decode cX10_readingOf 38 = .ok (.iload 6, 2) := by decide +kernel
theorem dX10_readingOf_40 : decode cX10_readingOf 40 = .ok (.iadd, 1) := by decide +kernel
theorem dX10_readingOf_41 : decode cX10_readingOf 41 = .ok (.iconst 3, 1) := by decide +kernel
theorem dX10_readingOf_42 : decode cX10_readingOf 42 = .ok (.iload 7, 2) := by decide +kernel
theorem dX10_readingOf_44 : decode cX10_readingOf 44 = .ok (.imul, 1) := by decide +kernel
theorem dX10_readingOf_45 : decode cX10_readingOf 45 = .ok (.iadd, 1) := by decide +kernel
theorem dX10_readingOf_46 : decode cX10_readingOf 46 = .ok (.bipush 10, 2) := by decide +kernel
theorem dX10_readingOf_48 : decode cX10_readingOf 48 = .ok (.irem, 1) := by decide +kernel
theorem dX10_readingOf_49 : decode cX10_readingOf 49 = .ok (.istore 8, 2) := by decide +kernel
theorem dX10_readingOf_51 : decode cX10_readingOf 51 = .ok (.aload_n 0, 1) := by decide +kernel
theorem dX10_readingOf_52 : decode cX10_readingOf 52 = .ok (.iload_n 1, 1) := by decide +kernel
theorem dX10_readingOf_53 : decode cX10_readingOf 53 = .ok (.iload_n 2, 1) := by decide +kernel
theorem dX10_readingOf_54 : decode cX10_readingOf 54 = .ok (.iconst 0, 1) := by decide +kernel
theorem dX10_readingOf_55 : decode cX10_readingOf 55 = .ok (.iload 4, 2) := by decide +kernel
theorem dX10_readingOf_57 : decode cX10_readingOf 57 = .ok (.invokevirtual 204, 3) := by decide +kernel
theorem dX10_readingOf_60 : decode cX10_readingOf 60 = .ok (.ifCond .eq 55, 3) := by decide +kernel
theorem dX10_readingOf_63 : decode cX10_readingOf 63 = .ok (.aload_n 0, 1) := by decide +kernel
theorem dX10_readingOf_64 : decode cX10_readingOf 64 = .ok (.iload_n 1, 1) := by decide +kernel
theorem dX10_readingOf_65 : decode cX10_readingOf 65 = .ok (.iload_n 2, 1) := by decide +kernel
theorem dX10_readingOf_66 : decode cX10_readingOf 66 = .ok (.iconst 1, 1) := by decide +kernel
theorem dX10_readingOf_67 : decode cX10_readingOf 67 = .ok (.iload 5, 2) := by decide +kernel
theorem dX10_readingOf_69 : decode cX10_readingOf 69 = .ok (.invokevirtual 204, 3) := by decide +kernel
theorem dX10_readingOf_72 : decode cX10_readingOf 72 = .ok (.ifCond .eq 43, 3) := by decide +kernel
theorem dX10_readingOf_75 : decode cX10_readingOf 75 = .ok (.aload_n 0, 1) := by decide +kernel
theorem dX10_readingOf_76 : decode cX10_readingOf 76 = .ok (.iload_n 1, 1) := by decide +kernel
theorem dX10_readingOf_77 : decode cX10_readingOf 77 = .ok (.iload_n 2, 1) := by decide +kernel
theorem dX10_readingOf_78 : decode cX10_readingOf 78 = .ok (.iconst 2, 1) := by decide +kernel
theorem dX10_readingOf_79 : decode cX10_readingOf 79 = .ok (.iload 6, 2) := by decide +kernel
theorem dX10_readingOf_81 : decode cX10_readingOf 81 = .ok (.invokevirtual 204, 3) := by decide +kernel
theorem dX10_readingOf_84 : decode cX10_readingOf 84 = .ok (.ifCond .eq 31, 3) := by decide +kernel
theorem dX10_readingOf_87 : decode cX10_readingOf 87 = .ok (.aload_n 0, 1) := by decide +kernel
theorem dX10_readingOf_88 : decode cX10_readingOf 88 = .ok (.iload_n 1, 1) := by decide +kernel
theorem dX10_readingOf_89 : decode cX10_readingOf 89 = .ok (.iload_n 2, 1) := by decide +kernel
theorem dX10_readingOf_90 : decode cX10_readingOf 90 = .ok (.iconst 3, 1) := by decide +kernel
theorem dX10_readingOf_91 : decode cX10_readingOf 91 = .ok (.iload 7, 2) := by decide +kernel
theorem dX10_readingOf_93 : decode cX10_readingOf 93 = .ok (.invokevirtual 204, 3) := by decide +kernel
theorem dX10_readingOf_96 : decode cX10_readingOf 96 = .ok (.ifCond .eq 19, 3) := by decide +kernel
theorem dX10_readingOf_99 : decode cX10_readingOf 99 = .ok (.aload_n 0, 1) := by decide +kernel
theorem dX10_readingOf_100 : decode cX10_readingOf 100 = .ok (.iload_n 1, 1) := by decide +kernel
theorem dX10_readingOf_101 : decode cX10_readingOf 101 = .ok (.iload_n 2, 1) := by decide +kernel
theorem dX10_readingOf_102 : decode cX10_readingOf 102 = .ok (.iconst 4, 1) := by decide +kernel
theorem dX10_readingOf_103 : decode cX10_readingOf 103 = .ok (.iload 8, 2) := by decide +kernel
theorem dX10_readingOf_105 : decode cX10_readingOf 105 = .ok (.invokevirtual 204, 3) := by decide +kernel
theorem dX10_readingOf_108 : decode cX10_readingOf 108 = .ok (.ifCond .eq 7, 3) := by decide +kernel
theorem dX10_readingOf_111 : decode cX10_readingOf 111 = .ok (.iconst 1, 1) := by decide +kernel
theorem dX10_readingOf_112 : decode cX10_readingOf 112 = .ok (.goto 4, 3) := by decide +kernel
theorem dX10_readingOf_115 : decode cX10_readingOf 115 = .ok (.iconst 0, 1) := by decide +kernel
theorem dX10_readingOf_116 : decode cX10_readingOf 116 = .ok (.istore 9, 2) := by decide +kernel
theorem dX10_readingOf_118 : decode cX10_readingOf 118 = .ok (.iload 9, 2) := by decide +kernel
theorem dX10_readingOf_120 : decode cX10_readingOf 120 = .ok (.ifCond .eq 26, 3) := by decide +kernel
theorem dX10_readingOf_123 : decode cX10_readingOf 123 = .ok (.iload_n 2, 1) := by decide +kernel
theorem dX10_readingOf_124 : decode cX10_readingOf 124 = .ok (.ifCond .ne 12, 3) := by decide +kernel
theorem dX10_readingOf_127 : decode cX10_readingOf 127 = .ok (.iload_n 3, 1) := by decide +kernel
theorem dX10_readingOf_128 : decode cX10_readingOf 128 = .ok (.bipush 100, 2) := by decide +kernel
theorem dX10_readingOf_130 : decode cX10_readingOf 130 = .ok (.idiv, 1) := by decide +kernel
theorem dX10_readingOf_131 : decode cX10_readingOf 131 = .ok (.bipush 36, 2) := by decide +kernel
theorem dX10_readingOf_133 : decode cX10_readingOf 133 = .ok (.if_icmp .gt 13, 3) := by decide +kernel
theorem dX10_readingOf_136 : decode cX10_readingOf 136 = .ok (.bipush 10, 2) := by decide +kernel
theorem dX10_readingOf_138 : decode cX10_readingOf 138 = .ok (.iload_n 3, 1) := by decide +kernel
theorem dX10_readingOf_139 : decode cX10_readingOf 139 = .ok (.imul, 1) := by decide +kernel
theorem dX10_readingOf_140 : decode cX10_readingOf 140 = .ok (.iload 8, 2) := by decide +kernel
theorem dX10_readingOf_142 : decode cX10_readingOf 142 = .ok (.iadd, 1) := by decide +kernel
theorem dX10_readingOf_143 : decode cX10_readingOf 143 = .ok (.goto 4, 3) := by decide +kernel
theorem dX10_readingOf_146 : decode cX10_readingOf 146 = .ok (.iconst (-1), 1) := by decide +kernel
theorem dX10_readingOf_147 : decode cX10_readingOf 147 = .ok (.ireturn, 1) := by decide +kernel
theorem dX10_readingAt_0 : decode cX10_readingAt 0 = .ok (.iconst 0, 1) := by decide +kernel
theorem dX10_readingAt_1 : decode cX10_readingAt 1 = .ok (.istore 4, 2) := by decide +kernel
theorem dX10_readingAt_3 : decode cX10_readingAt 3 = .ok (.iconst 0, 1) := by decide +kernel
theorem dX10_readingAt_4 : decode cX10_readingAt 4 = .ok (.istore 5, 2) := by decide +kernel
theorem dX10_readingAt_6 : decode cX10_readingAt 6 = .ok (.iload 5, 2) := by decide +kernel
theorem dX10_readingAt_8 : decode cX10_readingAt 8 = .ok (.sipush 10000, 3) := by decide +kernel
theorem dX10_readingAt_11 : decode cX10_readingAt 11 = .ok (.if_icmp .ge 36, 3) := by decide +kernel
theorem dX10_readingAt_14 : decode cX10_readingAt 14 = .ok (.aload_n 0, 1) := by decide +kernel
theorem dX10_readingAt_15 : decode cX10_readingAt 15 = .ok (.iload_n 1, 1) := by decide +kernel
theorem dX10_readingAt_16 : decode cX10_readingAt 16 = .ok (.iload_n 2, 1) := by decide +kernel
theorem dX10_readingAt_17 : decode cX10_readingAt 17 = .ok (.iload 5, 2) := by decide +kernel
theorem dX10_readingAt_19 : decode cX10_readingAt 19 = .ok (.invokevirtual 208, 3) := by decide +kernel
theorem dX10_readingAt_22 : decode cX10_readingAt 22 = .ok (.istore 6, 2) := by decide +kernel
theorem dX10_readingAt_24 : decode cX10_readingAt 24 = .ok (.iload 6, 2) := by decide +kernel
theorem dX10_readingAt_26 : decode cX10_readingAt 26 = .ok (.ifCond .lt 15, 3) := by decide +kernel
theorem dX10_readingAt_29 : decode cX10_readingAt 29 = .ok (.iload 4, 2) := by decide +kernel
theorem dX10_readingAt_31 : decode cX10_readingAt 31 = .ok (.iload_n 3, 1) := by decide +kernel
theorem dX10_readingAt_32 : decode cX10_readingAt 32 = .ok (.if_icmp .ne 6, 3) := by decide +kernel
theorem dX10_readingAt_35 : decode cX10_readingAt 35 = .ok (.iload 6, 2) := by decide +kernel
theorem dX10_readingAt_37 : decode cX10_readingAt 37 = .ok (.ireturn, 1) := by decide +kernel
theorem dX10_readingAt_38 : decode cX10_readingAt 38 = .ok (.iinc 4 1, 3) := by decide +kernel
theorem dX10_readingAt_41 : decode cX10_readingAt 41 = .ok (.iinc 5 1, 3) := by decide +kernel
theorem dX10_readingAt_44 : decode cX10_readingAt 44 = .ok (.goto (-38), 3) := by decide +kernel
theorem dX10_readingAt_47 : decode cX10_readingAt 47 = .ok (.iload_n 3, 1) := by decide +kernel
theorem dX10_readingAt_48 : decode cX10_readingAt 48 = .ok (.ifCond .ge 8, 3) := by decide +kernel
theorem dX10_readingAt_51 : decode cX10_readingAt 51 = .ok (.iload 4, 2) := by decide +kernel
theorem dX10_readingAt_53 : decode cX10_readingAt 53 = .ok (.goto 4, 3) := by decide +kernel
theorem dX10_readingAt_56 : decode cX10_readingAt 56 = .ok (.iconst (-1), 1) := by decide +kernel
theorem dX10_readingAt_57 : decode cX10_readingAt 57 = .ok (.ireturn, 1) := by decide +kernel
theorem dX10_wire_0 : decode cX10_wire 0 = .ok (.aload_n 0, 1) := by decide +kernel
theorem dX10_wire_1 : decode cX10_wire 1 = .ok (.iload_n 1, 1) := by decide +kernel
theorem dX10_wire_2 : decode cX10_wire 2 = .ok (.invokevirtual 186, 3) := by decide +kernel
theorem dX10_wire_5 : decode cX10_wire 5 = .ok (.ifCond .ne 11, 3) := by decide +kernel
theorem dX10_wire_8 : decode cX10_wire 8 = .ok (.iload 4, 2) := by decide +kernel
theorem dX10_wire_10 : decode cX10_wire 10 = .ok (.invokestatic 212, 3) := by decide +kernel
theorem dX10_wire_13 : decode cX10_wire 13 = .ok (.ifCond .eq 9, 3) := by decide +kernel
theorem dX10_wire_16 : decode cX10_wire 16 = .ok (.aload_n 0, 1) := by decide +kernel
theorem dX10_wire_17 : decode cX10_wire 17 = .ok (.iconst (-1), 1) := by decide +kernel
theorem dX10_wire_18 : decode cX10_wire 18 = .ok (.invokevirtual 215, 3) := by decide +kernel
theorem dX10_wire_21 : decode cX10_wire 21 = .ok (.ireturn, 1) := by decide +kernel
theorem dX10_wire_22 : decode cX10_wire 22 = .ok (.iload 5, 2) := by decide +kernel
theorem dX10_wire_24 : decode cX10_wire 24 = .ok (.i2l, 1) := by decide +kernel
theorem dX10_wire_25 : decode cX10_wire 25 = .ok (.lconst 0, 1) := by decide +kernel
theorem dX10_wire_26 : decode cX10_wire 26 = .ok (.ldc2_w 162, 3) := by decide +kernel
theorem dX10_wire_29 : decode cX10_wire 29 = .ok (.invokestatic 156, 3) := by decide +kernel
theorem dX10_wire_32 : decode cX10_wire 32 = .ok (.ifCond .eq 27, 3) := by decide +kernel
theorem dX10_wire_35 : decode cX10_wire 35 = .ok (.iload_n 2, 1) := by decide +kernel
theorem dX10_wire_36 : decode cX10_wire 36 = .ok (.i2l, 1) := by decide +kernel
theorem dX10_wire_37 : decode cX10_wire 37 = .ok (.lconst 0, 1) := by decide +kernel
theorem dX10_wire_38 : decode cX10_wire 38 = .ok (.ldc2_w 190, 3) := by decide +kernel
theorem dX10_wire_41 : decode cX10_wire 41 = .ok (.invokestatic 156, 3) := by decide +kernel
theorem dX10_wire_44 : decode cX10_wire 44 = .ok (.ifCond .eq 15, 3) := by decide +kernel
theorem dX10_wire_47 : decode cX10_wire 47 = .ok (.iload_n 3, 1) := by decide +kernel
theorem dX10_wire_48 : decode cX10_wire 48 = .ok (.i2l, 1) := by decide +kernel
theorem dX10_wire_49 : decode cX10_wire 49 = .ok (.lconst 0, 1) := by decide +kernel
theorem dX10_wire_50 : decode cX10_wire 50 = .ok (.ldc2_w 190, 3) := by decide +kernel
theorem dX10_wire_53 : decode cX10_wire 53 = .ok (.invokestatic 156, 3) := by decide +kernel
theorem dX10_wire_56 : decode cX10_wire 56 = .ok (.ifCond .ne 10, 3) := by decide +kernel
theorem dX10_wire_59 : decode cX10_wire 59 = .ok (.aload_n 0, 1) := by decide +kernel
theorem dX10_wire_60 : decode cX10_wire 60 = .ok (.bipush (-2), 2) := by decide +kernel
theorem dX10_wire_62 : decode cX10_wire 62 = .ok (.invokevirtual 215, 3) := by decide +kernel
theorem dX10_wire_65 : decode cX10_wire 65 = .ok (.ireturn, 1) := by decide +kernel
theorem dX10_wire_66 : decode cX10_wire 66 = .ok (.aload_n 0, 1) := by decide +kernel
theorem dX10_wire_67 : decode cX10_wire 67 = .ok (.getfield 125, 3) := by decide +kernel
theorem dX10_wire_70 : decode cX10_wire 70 = .ok (.iload 4, 2) := by decide +kernel
theorem dX10_wire_72 : decode cX10_wire 72 = .ok (.iaload, 1) := by decide +kernel
theorem dX10_wire_73 : decode cX10_wire 73 = .ok (.ifCond .lt 21, 3) := by decide +kernel
theorem dX10_wire_76 : decode cX10_wire 76 = .ok (.aload_n 0, 1) := by decide +kernel
theorem dX10_wire_77 : decode cX10_wire 77 = .ok (.getfield 128, 3) := by decide +kernel
theorem dX10_wire_80 : decode cX10_wire 80 = .ok (.iload 4, 2) := by decide +kernel
theorem dX10_wire_82 : decode cX10_wire 82 = .ok (.iaload, 1) := by decide +kernel
theorem dX10_wire_83 : decode cX10_wire 83 = .ok (.iload 5, 2) := by decide +kernel
theorem dX10_wire_85 : decode cX10_wire 85 = .ok (.if_icmp .eq 9, 3) := by decide +kernel
theorem dX10_wire_88 : decode cX10_wire 88 = .ok (.aload_n 0, 1) := by decide +kernel
theorem dX10_wire_89 : decode cX10_wire 89 = .ok (.iconst 2, 1) := by decide +kernel
theorem dX10_wire_90 : decode cX10_wire 90 = .ok (.invokevirtual 218, 3) := by decide +kernel
theorem dX10_wire_93 : decode cX10_wire 93 = .ok (.ireturn, 1) := by decide +kernel
theorem dX10_wire_94 : decode cX10_wire 94 = .ok (.aload_n 0, 1) := by decide +kernel
theorem dX10_wire_95 : decode cX10_wire 95 = .ok (.getfield 125, 3) := by decide +kernel
theorem dX10_wire_98 : decode cX10_wire 98 = .ok (.iload 4, 2) := by decide +kernel
theorem dX10_wire_100 : decode cX10_wire 100 = .ok (.iaload, 1) := by decide +kernel
theorem dX10_wire_101 : decode cX10_wire 101 = .ok (.ifCond .ge 9, 3) := by decide +kernel
theorem dX10_wire_104 : decode cX10_wire 104 = .ok (.aload_n 0, 1) := by decide +kernel
theorem dX10_wire_105 : decode cX10_wire 105 = .ok (.iconst 1, 1) := by decide +kernel
theorem dX10_wire_106 : decode cX10_wire 106 = .ok (.invokevirtual 218, 3) := by decide +kernel
theorem dX10_wire_109 : decode cX10_wire 109 = .ok (.ireturn, 1) := by decide +kernel
theorem dX10_wire_110 : decode cX10_wire 110 = .ok (.iload 6, 2) := by decide +kernel
theorem dX10_wire_112 : decode cX10_wire 112 = .ok (.ldc2_w 221, 3) := by decide +kernel
theorem dX10_wire_115 : decode cX10_wire 115 = .ok (.aload_n 0, 1) := by decide +kernel
theorem dX10_wire_116 : decode cX10_wire 116 = .ok (.getfield 125, 3) := by decide +kernel
theorem dX10_wire_119 : decode cX10_wire 119 = .ok (.iload 4, 2) := by decide +kernel
theorem dX10_wire_121 : decode cX10_wire 121 = .ok (.iaload, 1) := by decide +kernel
theorem dX10_wire_122 : decode cX10_wire 122 = .ok (.invokestatic 223, 3) := by decide +kernel
theorem dX10_wire_125 : decode cX10_wire 125 = .ok (.ifCond .eq 9, 3) := by decide +kernel
theorem dX10_wire_128 : decode cX10_wire 128 = .ok (.aload_n 0, 1) := by decide +kernel
theorem dX10_wire_129 : decode cX10_wire 129 = .ok (.iconst 3, 1) := by decide +kernel
theorem dX10_wire_130 : decode cX10_wire 130 = .ok (.invokevirtual 218, 3) := by decide +kernel
theorem dX10_wire_133 : decode cX10_wire 133 = .ok (.ireturn, 1) := by decide +kernel
theorem dX10_wire_134 : decode cX10_wire 134 = .ok (.iconst 0, 1) := by decide +kernel
theorem dX10_wire_135 : decode cX10_wire 135 = .ok (.istore 7, 2) := by decide +kernel
theorem dX10_wire_137 : decode cX10_wire 137 = .ok (.iload 7, 2) := by decide +kernel
theorem dX10_wire_139 : decode cX10_wire 139 = .ok (.bipush 15, 2) := by decide +kernel
theorem dX10_wire_141 : decode cX10_wire 141 = .ok (.if_icmp .ge 45, 3) := by decide +kernel
theorem dX10_wire_144 : decode cX10_wire 144 = .ok (.aload_n 0, 1) := by decide +kernel
theorem dX10_wire_145 : decode cX10_wire 145 = .ok (.getfield 131, 3) := by decide +kernel
theorem dX10_wire_148 : decode cX10_wire 148 = .ok (.bipush 60, 2) := by decide +kernel
theorem dX10_wire_150 : decode cX10_wire 150 = .ok (.iload 4, 2) := by decide +kernel
theorem dX10_wire_152 : decode cX10_wire 152 = .ok (.imul, 1) := by decide +kernel
theorem dX10_wire_153 : decode cX10_wire 153 = .ok (.iload 6, 2) := by decide +kernel
theorem dX10_wire_155 : decode cX10_wire 155 = .ok (.iadd, 1) := by decide +kernel
theorem dX10_wire_156 : decode cX10_wire 156 = .ok (.iload 7, 2) := by decide +kernel
theorem dX10_wire_158 : decode cX10_wire 158 = .ok (.iadd, 1) := by decide +kernel
theorem dX10_wire_159 : decode cX10_wire 159 = .ok (.iaload, 1) := by decide +kernel
theorem dX10_wire_160 : decode cX10_wire 160 = .ok (.i2l, 1) := by decide +kernel
theorem dX10_wire_161 : decode cX10_wire 161 = .ok (.ldc2_w 227, 3) := by decide +kernel
theorem dX10_wire_164 : decode cX10_wire 164 = .ok (.ldc2_w 229, 3) := by decide +kernel
theorem dX10_wire_167 : decode cX10_wire 167 = .ok (.invokestatic 156, 3) := by decide +kernel
theorem dX10_wire_170 : decode cX10_wire 170 = .ok (.ifCond .ne 10, 3) := by decide +kernel
theorem dX10_wire_173 : decode cX10_wire 173 = .ok (.aload_n 0, 1) := by decide +kernel
theorem dX10_wire_174 : decode cX10_wire 174 = .ok (.bipush (-2), 2) := by decide +kernel
theorem dX10_wire_176 : decode cX10_wire 176 = .ok (.invokevirtual 215, 3) := by decide +kernel
theorem dX10_wire_179 : decode cX10_wire 179 = .ok (.ireturn, 1) := by decide +kernel
theorem dX10_wire_180 : decode cX10_wire 180 = .ok (.iinc 7 1, 3) := by decide +kernel
theorem dX10_wire_183 : decode cX10_wire 183 = .ok (.goto (-46), 3) := by decide +kernel
theorem dX10_wire_186 : decode cX10_wire 186 = .ok (.aload_n 0, 1) := by decide +kernel
theorem dX10_wire_187 : decode cX10_wire 187 = .ok (.getfield 201, 3) := by decide +kernel
theorem dX10_wire_190 : decode cX10_wire 190 = .ok (.bipush 30, 2) := by decide +kernel
theorem dX10_wire_192 : decode cX10_wire 192 = .ok (.if_icmp .ne 10, 3) := by decide +kernel
theorem dX10_wire_195 : decode cX10_wire 195 = .ok (.aload_n 0, 1) := by decide +kernel
theorem dX10_wire_196 : decode cX10_wire 196 = .ok (.bipush (-4), 2) := by decide +kernel
theorem dX10_wire_198 : decode cX10_wire 198 = .ok (.invokevirtual 215, 3) := by decide +kernel
theorem dX10_wire_201 : decode cX10_wire 201 = .ok (.ireturn, 1) := by decide +kernel
theorem dX10_wire_202 : decode cX10_wire 202 = .ok (.iconst 0, 1) := by decide +kernel
theorem dX10_wire_203 : decode cX10_wire 203 = .ok (.istore 7, 2) := by decide +kernel
theorem dX10_wire_205 : decode cX10_wire 205 = .ok (.iload 7, 2) := by decide +kernel
theorem dX10_wire_207 : decode cX10_wire 207 = .ok (.bipush 15, 2) := by decide +kernel
theorem dX10_wire_209 : decode cX10_wire 209 = .ok (.if_icmp .ge 40, 3) := by decide +kernel
theorem dX10_wire_212 : decode cX10_wire 212 = .ok (.aload_n 0, 1) := by decide +kernel
theorem dX10_wire_213 : decode cX10_wire 213 = .ok (.getfield 37, 3) := by decide +kernel
theorem dX10_wire_216 : decode cX10_wire 216 = .ok (.bipush 15, 2) := by decide +kernel
theorem dX10_wire_218 : decode cX10_wire 218 = .ok (.aload_n 0, 1) := by decide +kernel
theorem dX10_wire_219 : decode cX10_wire 219 = .ok (.getfield 201, 3) := by decide +kernel
theorem dX10_wire_222 : decode cX10_wire 222 = .ok (.imul, 1) := by decide +kernel
theorem dX10_wire_223 : decode cX10_wire 223 = .ok (.iload 7, 2) := by decide +kernel
theorem dX10_wire_225 : decode cX10_wire 225 = .ok (.iadd, 1) := by decide +kernel
theorem dX10_wire_226 : decode cX10_wire 226 = .ok (.aload_n 0, 1) := by decide +kernel
theorem dX10_wire_227 : decode cX10_wire 227 = .ok (.getfield 131, 3) := by decide +kernel
theorem dX10_wire_230 : decode cX10_wire 230 = .ok (.bipush 60, 2) := by decide +kernel
theorem dX10_wire_232 : decode cX10_wire 232 = .ok (.iload 4, 2) := by decide +kernel
theorem dX10_wire_234 : decode cX10_wire 234 = .ok (.imul, 1) := by decide +kernel
theorem dX10_wire_235 : decode cX10_wire 235 = .ok (.iload 6, 2) := by decide +kernel
theorem dX10_wire_237 : decode cX10_wire 237 = .ok (.iadd, 1) := by decide +kernel
theorem dX10_wire_238 : decode cX10_wire 238 = .ok (.iload 7, 2) := by decide +kernel
theorem dX10_wire_240 : decode cX10_wire 240 = .ok (.iadd, 1) := by decide +kernel
theorem dX10_wire_241 : decode cX10_wire 241 = .ok (.iaload, 1) := by decide +kernel
theorem dX10_wire_242 : decode cX10_wire 242 = .ok (.iastore, 1) := by decide +kernel
theorem dX10_wire_243 : decode cX10_wire 243 = .ok (.iinc 7 1, 3) := by decide +kernel
theorem dX10_wire_246 : decode cX10_wire 246 = .ok (.goto (-41), 3) := by decide +kernel
theorem dX10_wire_249 : decode cX10_wire 249 = .ok (.aload_n 0, 1) := by decide +kernel
theorem dX10_wire_250 : decode cX10_wire 250 = .ok (.getfield 28, 3) := by decide +kernel
theorem dX10_wire_253 : decode cX10_wire 253 = .ok (.aload_n 0, 1) := by decide +kernel
theorem dX10_wire_254 : decode cX10_wire 254 = .ok (.getfield 201, 3) := by decide +kernel
theorem dX10_wire_257 : decode cX10_wire 257 = .ok (.iload_n 1, 1) := by decide +kernel
theorem dX10_wire_258 : decode cX10_wire 258 = .ok (.iastore, 1) := by decide +kernel
theorem dX10_wire_259 : decode cX10_wire 259 = .ok (.aload_n 0, 1) := by decide +kernel
theorem dX10_wire_260 : decode cX10_wire 260 = .ok (.getfield 31, 3) := by decide +kernel
theorem dX10_wire_263 : decode cX10_wire 263 = .ok (.aload_n 0, 1) := by decide +kernel
theorem dX10_wire_264 : decode cX10_wire 264 = .ok (.getfield 201, 3) := by decide +kernel
theorem dX10_wire_267 : decode cX10_wire 267 = .ok (.iload_n 2, 1) := by decide +kernel
theorem dX10_wire_268 : decode cX10_wire 268 = .ok (.iastore, 1) := by decide +kernel
theorem dX10_wire_269 : decode cX10_wire 269 = .ok (.aload_n 0, 1) := by decide +kernel
theorem dX10_wire_270 : decode cX10_wire 270 = .ok (.getfield 34, 3) := by decide +kernel
theorem dX10_wire_273 : decode cX10_wire 273 = .ok (.aload_n 0, 1) := by decide +kernel
theorem dX10_wire_274 : decode cX10_wire 274 = .ok (.getfield 201, 3) := by decide +kernel
theorem dX10_wire_277 : decode cX10_wire 277 = .ok (.iload_n 3, 1) := by decide +kernel
theorem dX10_wire_278 : decode cX10_wire 278 = .ok (.iastore, 1) := by decide +kernel
theorem dX10_wire_279 : decode cX10_wire 279 = .ok (.aload_n 0, 1) := by decide +kernel
theorem dX10_wire_280 : decode cX10_wire 280 = .ok (.getfield 40, 3) := by decide +kernel
theorem dX10_wire_283 : decode cX10_wire 283 = .ok (.aload_n 0, 1) := by decide +kernel
theorem dX10_wire_284 : decode cX10_wire 284 = .ok (.getfield 201, 3) := by decide +kernel
theorem dX10_wire_287 : decode cX10_wire 287 = .ok (.aload_n 0, 1) := by decide +kernel
theorem dX10_wire_288 : decode cX10_wire 288 = .ok (.aload_n 0, 1) := by decide +kernel
theorem dX10_wire_289 : decode cX10_wire 289 = .ok (.getfield 201, 3) := by decide +kernel
theorem dX10_wire_292 : decode cX10_wire 292 = .ok (.iconst 1, 1) := by decide +kernel
theorem dX10_wire_293 : decode cX10_wire 293 = .ok (.iconst (-1), 1) := by decide +kernel
theorem dX10_wire_294 : decode cX10_wire 294 = .ok (.invokevirtual 231, 3) := by decide +kernel
theorem dX10_wire_297 : decode cX10_wire 297 = .ok (.iastore, 1) := by decide +kernel
theorem dX10_wire_298 : decode cX10_wire 298 = .ok (.aload_n 0, 1) := by decide +kernel
theorem dX10_wire_299 : decode cX10_wire 299 = .ok (.getfield 43, 3) := by decide +kernel
theorem dX10_wire_302 : decode cX10_wire 302 = .ok (.aload_n 0, 1) := by decide +kernel
theorem dX10_wire_303 : decode cX10_wire 303 = .ok (.getfield 201, 3) := by decide +kernel
theorem dX10_wire_306 : decode cX10_wire 306 = .ok (.aload_n 0, 1) := by decide +kernel
theorem dX10_wire_307 : decode cX10_wire 307 = .ok (.aload_n 0, 1) := by decide +kernel
theorem dX10_wire_308 : decode cX10_wire 308 = .ok (.getfield 201, 3) := by decide +kernel
theorem dX10_wire_311 : decode cX10_wire 311 = .ok (.iconst 1, 1) := by decide +kernel
theorem dX10_wire_312 : decode cX10_wire 312 = .ok (.iconst 0, 1) := by decide +kernel
theorem dX10_wire_313 : decode cX10_wire 313 = .ok (.invokevirtual 231, 3) := by decide +kernel
theorem dX10_wire_316 : decode cX10_wire 316 = .ok (.iastore, 1) := by decide +kernel
theorem dX10_wire_317 : decode cX10_wire 317 = .ok (.aload_n 0, 1) := by decide +kernel
theorem dX10_wire_318 : decode cX10_wire 318 = .ok (.dup, 1) := by decide +kernel
theorem dX10_wire_319 : decode cX10_wire 319 = .ok (.getfield 201, 3) := by decide +kernel
theorem dX10_wire_322 : decode cX10_wire 322 = .ok (.iconst 1, 1) := by decide +kernel
theorem dX10_wire_323 : decode cX10_wire 323 = .ok (.iadd, 1) := by decide +kernel
theorem dX10_wire_324 : decode cX10_wire 324 = .ok (.putfield 201, 3) := by decide +kernel
theorem dX10_wire_327 : decode cX10_wire 327 = .ok (.aload_n 0, 1) := by decide +kernel
theorem dX10_wire_328 : decode cX10_wire 328 = .ok (.iconst 0, 1) := by decide +kernel
theorem dX10_wire_329 : decode cX10_wire 329 = .ok (.putfield 174, 3) := by decide +kernel
theorem dX10_wire_332 : decode cX10_wire 332 = .ok (.aload_n 0, 1) := by decide +kernel
theorem dX10_wire_333 : decode cX10_wire 333 = .ok (.aload_n 0, 1) := by decide +kernel
theorem dX10_wire_334 : decode cX10_wire 334 = .ok (.getfield 201, 3) := by decide +kernel
theorem dX10_wire_337 : decode cX10_wire 337 = .ok (.iconst 1, 1) := by decide +kernel
theorem dX10_wire_338 : decode cX10_wire 338 = .ok (.isub, 1) := by decide +kernel
theorem dX10_wire_339 : decode cX10_wire 339 = .ok (.invokevirtual 215, 3) := by decide +kernel
theorem dX10_wire_342 : decode cX10_wire 342 = .ok (.ireturn, 1) := by decide +kernel
theorem dX10_told_0 : decode cX10_told 0 = .ok (.aload_n 0, 1) := by decide +kernel
theorem dX10_told_1 : decode cX10_told 1 = .ok (.iload_n 1, 1) := by decide +kernel
theorem dX10_told_2 : decode cX10_told 2 = .ok (.invokevirtual 234, 3) := by decide +kernel
theorem dX10_told_5 : decode cX10_told 5 = .ok (.ifCond .eq 5, 3) := by decide +kernel
theorem dX10_told_8 : decode cX10_told 8 = .ok (.iconst (-1), 1) := by decide +kernel
theorem dX10_told_9 : decode cX10_told 9 = .ok (.ireturn, 1) := by decide +kernel
theorem dX10_told_10 : decode cX10_told 10 = .ok (.aload_n 0, 1) := by decide +kernel
theorem dX10_told_11 : decode cX10_told 11 = .ok (.invokevirtual 237, 3) := by decide +kernel
theorem dX10_told_14 : decode cX10_told 14 = .ok (.iload_n 2, 1) := by decide +kernel
theorem dX10_told_15 : decode cX10_told 15 = .ok (.tableswitch 71 0 3 #[29, 36, 43, 50], 29) := by decide +kernel
theorem dX10_told_44 : decode cX10_told 44 = .ok (.aload_n 0, 1) := by decide +kernel
theorem dX10_told_45 : decode cX10_told 45 = .ok (.getfield 28, 3) := by decide +kernel
theorem dX10_told_48 : decode cX10_told 48 = .ok (.iload_n 1, 1) := by decide +kernel
theorem dX10_told_49 : decode cX10_told 49 = .ok (.iaload, 1) := by decide +kernel
theorem dX10_told_50 : decode cX10_told 50 = .ok (.ireturn, 1) := by decide +kernel
theorem dX10_told_51 : decode cX10_told 51 = .ok (.aload_n 0, 1) := by decide +kernel
theorem dX10_told_52 : decode cX10_told 52 = .ok (.getfield 31, 3) := by decide +kernel
theorem dX10_told_55 : decode cX10_told 55 = .ok (.iload_n 1, 1) := by decide +kernel
theorem dX10_told_56 : decode cX10_told 56 = .ok (.iaload, 1) := by decide +kernel
theorem dX10_told_57 : decode cX10_told 57 = .ok (.ireturn, 1) := by decide +kernel
theorem dX10_told_58 : decode cX10_told 58 = .ok (.aload_n 0, 1) := by decide +kernel
theorem dX10_told_59 : decode cX10_told 59 = .ok (.getfield 34, 3) := by decide +kernel
theorem dX10_told_62 : decode cX10_told 62 = .ok (.iload_n 1, 1) := by decide +kernel
theorem dX10_told_63 : decode cX10_told 63 = .ok (.iaload, 1) := by decide +kernel
theorem dX10_told_64 : decode cX10_told 64 = .ok (.ireturn, 1) := by decide +kernel
theorem dX10_told_65 : decode cX10_told 65 = .ok (.aload_n 0, 1) := by decide +kernel
theorem dX10_told_66 : decode cX10_told 66 = .ok (.getfield 46, 3) := by decide +kernel
theorem dX10_told_69 : decode cX10_told 69 = .ok (.aload_n 0, 1) := by decide +kernel
theorem dX10_told_70 : decode cX10_told 70 = .ok (.getfield 28, 3) := by decide +kernel
theorem dX10_told_73 : decode cX10_told 73 = .ok (.iload_n 1, 1) := by decide +kernel
theorem dX10_told_74 : decode cX10_told 74 = .ok (.iaload, 1) := by decide +kernel
theorem dX10_told_75 : decode cX10_told 75 = .ok (.iaload, 1) := by decide +kernel
theorem dX10_told_76 : decode cX10_told 76 = .ok (.iload_n 1, 1) := by decide +kernel
theorem dX10_told_77 : decode cX10_told 77 = .ok (.if_icmp .ne 7, 3) := by decide +kernel
theorem dX10_told_80 : decode cX10_told 80 = .ok (.iconst 1, 1) := by decide +kernel
theorem dX10_told_81 : decode cX10_told 81 = .ok (.goto 4, 3) := by decide +kernel
theorem dX10_told_84 : decode cX10_told 84 = .ok (.iconst 0, 1) := by decide +kernel
theorem dX10_told_85 : decode cX10_told 85 = .ok (.ireturn, 1) := by decide +kernel
theorem dX10_told_86 : decode cX10_told 86 = .ok (.bipush (-2), 2) := by decide +kernel
theorem dX10_told_88 : decode cX10_told 88 = .ok (.ireturn, 1) := by decide +kernel
theorem dX10_digit_0 : decode cX10_digit 0 = .ok (.aload_n 0, 1) := by decide +kernel
theorem dX10_digit_1 : decode cX10_digit 1 = .ok (.iload_n 1, 1) := by decide +kernel
theorem dX10_digit_2 : decode cX10_digit 2 = .ok (.invokevirtual 234, 3) := by decide +kernel
theorem dX10_digit_5 : decode cX10_digit 5 = .ok (.ifCond .eq 5, 3) := by decide +kernel
theorem dX10_digit_8 : decode cX10_digit 8 = .ok (.iconst (-1), 1) := by decide +kernel
theorem dX10_digit_9 : decode cX10_digit 9 = .ok (.ireturn, 1) := by decide +kernel
theorem dX10_digit_10 : decode cX10_digit 10 = .ok (.iload_n 2, 1) := by decide +kernel
theorem dX10_digit_11 : decode cX10_digit 11 = .ok (.i2l, 1) := by decide +kernel
theorem dX10_digit_12 : decode cX10_digit 12 = .ok (.lconst 0, 1) := by decide +kernel
theorem dX10_digit_13 : decode cX10_digit 13 = .ok (.ldc2_w 162, 3) := by decide +kernel
theorem dX10_digit_16 : decode cX10_digit 16 = .ok (.invokestatic 156, 3) := by decide +kernel
theorem dX10_digit_19 : decode cX10_digit 19 = .ok (.ifCond .eq 15, 3) := by decide +kernel
theorem dX10_digit_22 : decode cX10_digit 22 = .ok (.iload_n 3, 1) := by decide +kernel
theorem dX10_digit_23 : decode cX10_digit 23 = .ok (.i2l, 1) := by decide +kernel
theorem dX10_digit_24 : decode cX10_digit 24 = .ok (.lconst 0, 1) := by decide +kernel
theorem dX10_digit_25 : decode cX10_digit 25 = .ok (.ldc2_w 240, 3) := by decide +kernel
theorem dX10_digit_28 : decode cX10_digit 28 = .ok (.invokestatic 156, 3) := by decide +kernel
theorem dX10_digit_31 : decode cX10_digit 31 = .ok (.ifCond .ne 6, 3) := by decide +kernel
theorem dX10_digit_34 : decode cX10_digit 34 = .ok (.bipush (-2), 2) := by decide +kernel
theorem dX10_digit_36 : decode cX10_digit 36 = .ok (.ireturn, 1) := by decide +kernel
theorem dX10_digit_37 : decode cX10_digit 37 = .ok (.aload_n 0, 1) := by decide +kernel
theorem dX10_digit_38 : decode cX10_digit 38 = .ok (.getfield 37, 3) := by decide +kernel
theorem dX10_digit_41 : decode cX10_digit 41 = .ok (.bipush 15, 2) := by decide +kernel
theorem dX10_digit_43 : decode cX10_digit 43 = .ok (.iload_n 1, 1) := by decide +kernel
theorem dX10_digit_44 : decode cX10_digit 44 = .ok (.imul, 1) := by decide +kernel
theorem dX10_digit_45 : decode cX10_digit 45 = .ok (.iconst 5, 1) := by decide +kernel
theorem dX10_digit_46 : decode cX10_digit 46 = .ok (.iload_n 2, 1) := by decide +kernel
theorem dX10_digit_47 : decode cX10_digit 47 = .ok (.imul, 1) := by decide +kernel
theorem dX10_digit_48 : decode cX10_digit 48 = .ok (.iadd, 1) := by decide +kernel
theorem dX10_digit_49 : decode cX10_digit 49 = .ok (.iload_n 3, 1) := by decide +kernel
theorem dX10_digit_50 : decode cX10_digit 50 = .ok (.iadd, 1) := by decide +kernel
theorem dX10_digit_51 : decode cX10_digit 51 = .ok (.iaload, 1) := by decide +kernel
theorem dX10_digit_52 : decode cX10_digit 52 = .ok (.istore 4, 2) := by decide +kernel
theorem dX10_digit_54 : decode cX10_digit 54 = .ok (.iload 4, 2) := by decide +kernel
theorem dX10_digit_56 : decode cX10_digit 56 = .ok (.ifCond .ge 8, 3) := by decide +kernel
theorem dX10_digit_59 : decode cX10_digit 59 = .ok (.bipush (-9), 2) := by decide +kernel
theorem dX10_digit_61 : decode cX10_digit 61 = .ok (.goto 5, 3) := by decide +kernel
theorem dX10_digit_64 : decode cX10_digit 64 = .ok (.iload 4, 2) := by decide +kernel
theorem dX10_digit_66 : decode cX10_digit 66 = .ok (.ireturn, 1) := by decide +kernel
theorem dX10_readings_0 : decode cX10_readings 0 = .ok (.aload_n 0, 1) := by decide +kernel
theorem dX10_readings_1 : decode cX10_readings 1 = .ok (.iload_n 1, 1) := by decide +kernel
theorem dX10_readings_2 : decode cX10_readings 2 = .ok (.invokevirtual 234, 3) := by decide +kernel
theorem dX10_readings_5 : decode cX10_readings 5 = .ok (.ifCond .eq 5, 3) := by decide +kernel
theorem dX10_readings_8 : decode cX10_readings 8 = .ok (.iconst (-1), 1) := by decide +kernel
theorem dX10_readings_9 : decode cX10_readings 9 = .ok (.ireturn, 1) := by decide +kernel
theorem dX10_readings_10 : decode cX10_readings 10 = .ok (.iload_n 2, 1) := by decide +kernel
theorem dX10_readings_11 : decode cX10_readings 11 = .ok (.i2l, 1) := by decide +kernel
theorem dX10_readings_12 : decode cX10_readings 12 = .ok (.lconst 0, 1) := by decide +kernel
theorem dX10_readings_13 : decode cX10_readings 13 = .ok (.ldc2_w 162, 3) := by decide +kernel
theorem dX10_readings_16 : decode cX10_readings 16 = .ok (.invokestatic 156, 3) := by decide +kernel
theorem dX10_readings_19 : decode cX10_readings 19 = .ok (.ifCond .eq 13, 3) := by decide +kernel
theorem dX10_readings_22 : decode cX10_readings 22 = .ok (.aload_n 0, 1) := by decide +kernel
theorem dX10_readings_23 : decode cX10_readings 23 = .ok (.iload_n 1, 1) := by decide +kernel
theorem dX10_readings_24 : decode cX10_readings 24 = .ok (.iload_n 2, 1) := by decide +kernel
theorem dX10_readings_25 : decode cX10_readings 25 = .ok (.iconst (-1), 1) := by decide +kernel
theorem dX10_readings_26 : decode cX10_readings 26 = .ok (.invokevirtual 231, 3) := by decide +kernel
theorem dX10_readings_29 : decode cX10_readings 29 = .ok (.goto 5, 3) := by decide +kernel
theorem dX10_readings_32 : decode cX10_readings 32 = .ok (.bipush (-2), 2) := by decide +kernel
theorem dX10_readings_34 : decode cX10_readings 34 = .ok (.ireturn, 1) := by decide +kernel
theorem dX10_reading_0 : decode cX10_reading 0 = .ok (.aload_n 0, 1) := by decide +kernel
theorem dX10_reading_1 : decode cX10_reading 1 = .ok (.iload_n 1, 1) := by decide +kernel
theorem dX10_reading_2 : decode cX10_reading 2 = .ok (.invokevirtual 234, 3) := by decide +kernel
theorem dX10_reading_5 : decode cX10_reading 5 = .ok (.ifCond .ne 7, 3) := by decide +kernel
theorem dX10_reading_8 : decode cX10_reading 8 = .ok (.iload_n 3, 1) := by decide +kernel
theorem dX10_reading_9 : decode cX10_reading 9 = .ok (.ifCond .ge 5, 3) := by decide +kernel
theorem dX10_reading_12 : decode cX10_reading 12 = .ok (.iconst (-1), 1) := by decide +kernel
theorem dX10_reading_13 : decode cX10_reading 13 = .ok (.ireturn, 1) := by decide +kernel
theorem dX10_reading_14 : decode cX10_reading 14 = .ok (.iload_n 2, 1) := by decide +kernel
theorem dX10_reading_15 : decode cX10_reading 15 = .ok (.i2l, 1) := by decide +kernel
theorem dX10_reading_16 : decode cX10_reading 16 = .ok (.lconst 0, 1) := by decide +kernel
theorem dX10_reading_17 : decode cX10_reading 17 = .ok (.ldc2_w 162, 3) := by decide +kernel
theorem dX10_reading_20 : decode cX10_reading 20 = .ok (.invokestatic 156, 3) := by decide +kernel
theorem dX10_reading_23 : decode cX10_reading 23 = .ok (.ifCond .eq 13, 3) := by decide +kernel
theorem dX10_reading_26 : decode cX10_reading 26 = .ok (.aload_n 0, 1) := by decide +kernel
theorem dX10_reading_27 : decode cX10_reading 27 = .ok (.iload_n 1, 1) := by decide +kernel
theorem dX10_reading_28 : decode cX10_reading 28 = .ok (.iload_n 2, 1) := by decide +kernel
theorem dX10_reading_29 : decode cX10_reading 29 = .ok (.iload_n 3, 1) := by decide +kernel
theorem dX10_reading_30 : decode cX10_reading 30 = .ok (.invokevirtual 231, 3) := by decide +kernel
theorem dX10_reading_33 : decode cX10_reading 33 = .ok (.goto 5, 3) := by decide +kernel
theorem dX10_reading_36 : decode cX10_reading 36 = .ok (.bipush (-2), 2) := by decide +kernel
theorem dX10_reading_38 : decode cX10_reading 38 = .ok (.ireturn, 1) := by decide +kernel
theorem dX10_lastWire_0 : decode cX10_lastWire 0 = .ok (.bipush (-9), 2) := by decide +kernel
theorem dX10_lastWire_2 : decode cX10_lastWire 2 = .ok (.istore_n 2, 1) := by decide +kernel
theorem dX10_lastWire_3 : decode cX10_lastWire 3 = .ok (.iconst 0, 1) := by decide +kernel
theorem dX10_lastWire_4 : decode cX10_lastWire 4 = .ok (.istore_n 3, 1) := by decide +kernel
theorem dX10_lastWire_5 : decode cX10_lastWire 5 = .ok (.iload_n 3, 1) := by decide +kernel
theorem dX10_lastWire_6 : decode cX10_lastWire 6 = .ok (.aload_n 0, 1) := by decide +kernel
theorem dX10_lastWire_7 : decode cX10_lastWire 7 = .ok (.getfield 201, 3) := by decide +kernel
theorem dX10_lastWire_10 : decode cX10_lastWire 10 = .ok (.if_icmp .ge 82, 3) := by decide +kernel
theorem dX10_lastWire_13 : decode cX10_lastWire 13 = .ok (.aload_n 0, 1) := by decide +kernel
theorem dX10_lastWire_14 : decode cX10_lastWire 14 = .ok (.getfield 28, 3) := by decide +kernel
theorem dX10_lastWire_17 : decode cX10_lastWire 17 = .ok (.iload_n 3, 1) := by decide +kernel
theorem dX10_lastWire_18 : decode cX10_lastWire 18 = .ok (.iaload, 1) := by decide +kernel
theorem dX10_lastWire_19 : decode cX10_lastWire 19 = .ok (.iload_n 1, 1) := by decide +kernel
theorem dX10_lastWire_20 : decode cX10_lastWire 20 = .ok (.if_icmp .ne 33, 3) := by decide +kernel
theorem dX10_lastWire_23 : decode cX10_lastWire 23 = .ok (.aload_n 0, 1) := by decide +kernel
theorem dX10_lastWire_24 : decode cX10_lastWire 24 = .ok (.getfield 31, 3) := by decide +kernel
theorem dX10_lastWire_27 : decode cX10_lastWire 27 = .ok (.iload_n 3, 1) := by decide +kernel
theorem dX10_lastWire_28 : decode cX10_lastWire 28 = .ok (.iaload, 1) := by decide +kernel
theorem dX10_lastWire_29 : decode cX10_lastWire 29 = .ok (.aload_n 0, 1) := by decide +kernel
theorem dX10_lastWire_30 : decode cX10_lastWire 30 = .ok (.getfield 242, 3) := by decide +kernel
theorem dX10_lastWire_33 : decode cX10_lastWire 33 = .ok (.if_icmp .ne 20, 3) := by decide +kernel
theorem dX10_lastWire_36 : decode cX10_lastWire 36 = .ok (.aload_n 0, 1) := by decide +kernel
theorem dX10_lastWire_37 : decode cX10_lastWire 37 = .ok (.getfield 34, 3) := by decide +kernel
theorem dX10_lastWire_40 : decode cX10_lastWire 40 = .ok (.iload_n 3, 1) := by decide +kernel
theorem dX10_lastWire_41 : decode cX10_lastWire 41 = .ok (.iaload, 1) := by decide +kernel
theorem dX10_lastWire_42 : decode cX10_lastWire 42 = .ok (.aload_n 0, 1) := by decide +kernel
theorem dX10_lastWire_43 : decode cX10_lastWire 43 = .ok (.getfield 137, 3) := by decide +kernel
theorem dX10_lastWire_46 : decode cX10_lastWire 46 = .ok (.if_icmp .gt 7, 3) := by decide +kernel
theorem dX10_lastWire_49 : decode cX10_lastWire 49 = .ok (.iconst 1, 1) := by decide +kernel
theorem dX10_lastWire_50 : decode cX10_lastWire 50 = .ok (.goto 4, 3) := by decide +kernel
theorem dX10_lastWire_53 : decode cX10_lastWire 53 = .ok (.iconst 0, 1) := by decide +kernel
theorem dX10_lastWire_54 : decode cX10_lastWire 54 = .ok (.istore 4, 2) := by decide +kernel
theorem dX10_lastWire_56 : decode cX10_lastWire 56 = .ok (.iload 4, 2) := by decide +kernel
theorem dX10_lastWire_58 : decode cX10_lastWire 58 = .ok (.ifCond .eq 26, 3) := by decide +kernel
theorem dX10_lastWire_61 : decode cX10_lastWire 61 = .ok (.iload_n 2, 1) := by decide +kernel
theorem dX10_lastWire_62 : decode cX10_lastWire 62 = .ok (.ifCond .lt 18, 3) := by decide +kernel
theorem dX10_lastWire_65 : decode cX10_lastWire 65 = .ok (.aload_n 0, 1) := by decide +kernel
theorem dX10_lastWire_66 : decode cX10_lastWire 66 = .ok (.getfield 34, 3) := by decide +kernel
theorem dX10_lastWire_69 : decode cX10_lastWire 69 = .ok (.iload_n 3, 1) := by decide +kernel
theorem dX10_lastWire_70 : decode cX10_lastWire 70 = .ok (.iaload, 1) := by decide +kernel
theorem dX10_lastWire_71 : decode cX10_lastWire 71 = .ok (.aload_n 0, 1) := by decide +kernel
theorem dX10_lastWire_72 : decode cX10_lastWire 72 = .ok (.getfield 34, 3) := by decide +kernel
theorem dX10_lastWire_75 : decode cX10_lastWire 75 = .ok (.iload_n 2, 1) := by decide +kernel
theorem dX10_lastWire_76 : decode cX10_lastWire 76 = .ok (.iaload, 1) := by decide +kernel
theorem dX10_lastWire_77 : decode cX10_lastWire 77 = .ok (.if_icmp .lt 7, 3) := by decide +kernel
theorem dX10_lastWire_80 : decode cX10_lastWire 80 = .ok (.iload_n 3, 1) := by decide +kernel
theorem dX10_lastWire_81 : decode cX10_lastWire 81 = .ok (.goto 4, 3) := by decide +kernel
theorem dX10_lastWire_84 : decode cX10_lastWire 84 = .ok (.iload_n 2, 1) := by decide +kernel
theorem dX10_lastWire_85 : decode cX10_lastWire 85 = .ok (.istore_n 2, 1) := by decide +kernel
theorem dX10_lastWire_86 : decode cX10_lastWire 86 = .ok (.iinc 3 1, 3) := by decide +kernel
theorem dX10_lastWire_89 : decode cX10_lastWire 89 = .ok (.goto (-84), 3) := by decide +kernel
theorem dX10_lastWire_92 : decode cX10_lastWire 92 = .ok (.iload_n 2, 1) := by decide +kernel
theorem dX10_lastWire_93 : decode cX10_lastWire 93 = .ok (.ireturn, 1) := by decide +kernel
theorem dX10_levelBy_0 : decode cX10_levelBy 0 = .ok (.iload_n 2, 1) := by decide +kernel
theorem dX10_levelBy_1 : decode cX10_levelBy 1 = .ok (.bipush 100, 2) := by decide +kernel
theorem dX10_levelBy_3 : decode cX10_levelBy 3 = .ok (.idiv, 1) := by decide +kernel
theorem dX10_levelBy_4 : decode cX10_levelBy 4 = .ok (.istore_n 3, 1) := by decide +kernel
theorem dX10_levelBy_5 : decode cX10_levelBy 5 = .ok (.iload_n 3, 1) := by decide +kernel
theorem dX10_levelBy_6 : decode cX10_levelBy 6 = .ok (.iload_n 3, 1) := by decide +kernel
theorem dX10_levelBy_7 : decode cX10_levelBy 7 = .ok (.sipush 500, 3) := by decide +kernel
theorem dX10_levelBy_10 : decode cX10_levelBy 10 = .ok (.if_icmp .ge 9, 3) := by decide +kernel
theorem dX10_levelBy_13 : decode cX10_levelBy 13 = .ok (.sipush 10000, 3) := by decide +kernel
theorem dX10_levelBy_16 : decode cX10_levelBy 16 = .ok (.goto 6, 3) := by decide +kernel
theorem dX10_levelBy_19 : decode cX10_levelBy 19 = .ok (.sipush 9000, 3) := by decide +kernel
theorem dX10_levelBy_22 : decode cX10_levelBy 22 = .ok (.iadd, 1) := by decide +kernel
theorem dX10_levelBy_23 : decode cX10_levelBy 23 = .ok (.aload_n 0, 1) := by decide +kernel
theorem dX10_levelBy_24 : decode cX10_levelBy 24 = .ok (.getfield 19, 3) := by decide +kernel
theorem dX10_levelBy_27 : decode cX10_levelBy 27 = .ok (.iload_n 1, 1) := by decide +kernel
theorem dX10_levelBy_28 : decode cX10_levelBy 28 = .ok (.iaload, 1) := by decide +kernel
theorem dX10_levelBy_29 : decode cX10_levelBy 29 = .ok (.bipush 12, 2) := by decide +kernel
theorem dX10_levelBy_31 : decode cX10_levelBy 31 = .ok (.imul, 1) := by decide +kernel
theorem dX10_levelBy_32 : decode cX10_levelBy 32 = .ok (.bipush 100, 2) := by decide +kernel
theorem dX10_levelBy_34 : decode cX10_levelBy 34 = .ok (.invokestatic 178, 3) := by decide +kernel
theorem dX10_levelBy_37 : decode cX10_levelBy 37 = .ok (.iadd, 1) := by decide +kernel
theorem dX10_levelBy_38 : decode cX10_levelBy 38 = .ok (.ireturn, 1) := by decide +kernel
theorem dX10_guessOf_0 : decode cX10_guessOf 0 = .ok (.aload_n 0, 1) := by decide +kernel
theorem dX10_guessOf_1 : decode cX10_guessOf 1 = .ok (.getfield 28, 3) := by decide +kernel
theorem dX10_guessOf_4 : decode cX10_guessOf 4 = .ok (.iload_n 1, 1) := by decide +kernel
theorem dX10_guessOf_5 : decode cX10_guessOf 5 = .ok (.iaload, 1) := by decide +kernel
theorem dX10_guessOf_6 : decode cX10_guessOf 6 = .ok (.istore_n 2, 1) := by decide +kernel
theorem dX10_guessOf_7 : decode cX10_guessOf 7 = .ok (.iconst 0, 1) := by decide +kernel
theorem dX10_guessOf_8 : decode cX10_guessOf 8 = .ok (.istore_n 3, 1) := by decide +kernel
theorem dX10_guessOf_9 : decode cX10_guessOf 9 = .ok (.iconst 0, 1) := by decide +kernel
theorem dX10_guessOf_10 : decode cX10_guessOf 10 = .ok (.istore 4, 2) := by decide +kernel
theorem dX10_guessOf_12 : decode cX10_guessOf 12 = .ok (.iconst 1, 1) := by decide +kernel
theorem dX10_guessOf_13 : decode cX10_guessOf 13 = .ok (.iload_n 2, 1) := by decide +kernel
theorem dX10_guessOf_14 : decode cX10_guessOf 14 = .ok (.ishl, 1) := by decide +kernel
theorem dX10_guessOf_15 : decode cX10_guessOf 15 = .ok (.istore 5, 2) := by decide +kernel
theorem dX10_guessOf_17 : decode cX10_guessOf 17 = .ok (.iconst 1, 1) := by decide +kernel
theorem dX10_guessOf_18 : decode cX10_guessOf 18 = .ok (.istore 6, 2) := by decide +kernel
theorem dX10_guessOf_20 : decode cX10_guessOf 20 = .ok (.iload 6, 2) := by decide +kernel
theorem dX10_guessOf_22 : decode cX10_guessOf 22 = .ok (.ifCond .eq 181, 3) := by decide +kernel
theorem dX10_guessOf_25 : decode cX10_guessOf 25 = .ok (.iload 4, 2) := by decide +kernel
theorem dX10_guessOf_27 : decode cX10_guessOf 27 = .ok (.iconst 3, 1) := by decide +kernel
theorem dX10_guessOf_28 : decode cX10_guessOf 28 = .ok (.if_icmp .ge 175, 3) := by decide +kernel
theorem dX10_guessOf_31 : decode cX10_guessOf 31 = .ok (.bipush (-9), 2) := by decide +kernel
theorem dX10_guessOf_33 : decode cX10_guessOf 33 = .ok (.istore 7, 2) := by decide +kernel
theorem dX10_guessOf_35 : decode cX10_guessOf 35 = .ok (.iconst 0, 1) := by decide +kernel
theorem dX10_guessOf_36 : decode cX10_guessOf 36 = .ok (.istore 8, 2) := by decide +kernel
theorem dX10_guessOf_38 : decode cX10_guessOf 38 = .ok (.iload 8, 2) := by decide +kernel
theorem dX10_guessOf_40 : decode cX10_guessOf 40 = .ok (.aload_n 0, 1) := by decide +kernel
theorem dX10_guessOf_41 : decode cX10_guessOf 41 = .ok (.getfield 153, 3) := by decide +kernel
theorem dX10_guessOf_44 : decode cX10_guessOf 44 = .ok (.if_icmp .ge 106, 3) := by decide +kernel
theorem dX10_guessOf_47 : decode cX10_guessOf 47 = .ok (.aload_n 0, 1) := by decide +kernel
theorem dX10_guessOf_48 : decode cX10_guessOf 48 = .ok (.getfield 46, 3) := by decide +kernel
theorem dX10_guessOf_51 : decode cX10_guessOf 51 = .ok (.iload 8, 2) := by decide +kernel
theorem dX10_guessOf_53 : decode cX10_guessOf 53 = .ok (.iaload, 1) := by decide +kernel
theorem dX10_guessOf_54 : decode cX10_guessOf 54 = .ok (.ifCond .lt 33, 3) := by decide +kernel
theorem dX10_guessOf_57 : decode cX10_guessOf 57 = .ok (.iload 5, 2) := by decide +kernel
theorem dX10_guessOf_59 : decode cX10_guessOf 59 = .ok (.iload 8, 2) := by decide +kernel
theorem dX10_guessOf_61 : decode cX10_guessOf 61 = .ok (.invokestatic 245, 3) := by decide +kernel
theorem dX10_guessOf_64 : decode cX10_guessOf 64 = .ok (.ifCond .ne 23, 3) := by decide +kernel
theorem dX10_guessOf_67 : decode cX10_guessOf 67 = .ok (.aload_n 0, 1) := by decide +kernel
theorem dX10_guessOf_68 : decode cX10_guessOf 68 = .ok (.getfield 40, 3) := by decide +kernel
theorem dX10_guessOf_71 : decode cX10_guessOf 71 = .ok (.aload_n 0, 1) := by decide +kernel
theorem dX10_guessOf_72 : decode cX10_guessOf 72 = .ok (.getfield 46, 3) := by decide +kernel
theorem dX10_guessOf_75 : decode cX10_guessOf 75 = .ok (.iload 8, 2) := by decide +kernel
theorem dX10_guessOf_77 : decode cX10_guessOf 77 = .ok (.iaload, 1) := by decide +kernel
theorem dX10_guessOf_78 : decode cX10_guessOf 78 = .ok (.iaload, 1) := by decide +kernel
theorem dX10_guessOf_79 : decode cX10_guessOf 79 = .ok (.iconst 1, 1) := by decide +kernel
theorem dX10_guessOf_80 : decode cX10_guessOf 80 = .ok (.if_icmp .ne 7, 3) := by decide +kernel
theorem dX10_guessOf_83 : decode cX10_guessOf 83 = .ok (.iconst 1, 1) := by decide +kernel
theorem dX10_guessOf_84 : decode cX10_guessOf 84 = .ok (.goto 4, 3) := by decide +kernel
theorem dX10_guessOf_87 : decode cX10_guessOf 87 = .ok (.iconst 0, 1) := by decide +kernel
theorem dX10_guessOf_88 : decode cX10_guessOf 88 = .ok (.istore 9, 2) := by decide +kernel
theorem dX10_guessOf_90 : decode cX10_guessOf 90 = .ok (.iload 9, 2) := by decide +kernel
theorem dX10_guessOf_92 : decode cX10_guessOf 92 = .ok (.ifCond .eq 48, 3) := by decide +kernel
theorem dX10_guessOf_95 : decode cX10_guessOf 95 = .ok (.iload 7, 2) := by decide +kernel
theorem dX10_guessOf_97 : decode cX10_guessOf 97 = .ok (.ifCond .lt 38, 3) := by decide +kernel
theorem dX10_guessOf_100 : decode cX10_guessOf 100 = .ok (.aload_n 0, 1) := by decide +kernel
theorem dX10_guessOf_101 : decode cX10_guessOf 101 = .ok (.getfield 49, 3) := by decide +kernel
theorem dX10_guessOf_104 : decode cX10_guessOf 104 = .ok (.iload 8, 2) := by decide +kernel
theorem dX10_guessOf_106 : decode cX10_guessOf 106 = .ok (.iaload, 1) := by decide +kernel
theorem dX10_guessOf_107 : decode cX10_guessOf 107 = .ok (.aload_n 0, 1) := by decide +kernel
theorem dX10_guessOf_108 : decode cX10_guessOf 108 = .ok (.getfield 49, 3) := by decide +kernel
theorem dX10_guessOf_111 : decode cX10_guessOf 111 = .ok (.iload_n 2, 1) := by decide +kernel
theorem dX10_guessOf_112 : decode cX10_guessOf 112 = .ok (.iaload, 1) := by decide +kernel
theorem dX10_guessOf_113 : decode cX10_guessOf 113 = .ok (.invokestatic 248, 3) := by decide +kernel
theorem dX10_guessOf_116 : decode cX10_guessOf 116 = .ok (.aload_n 0, 1) := by decide +kernel
theorem dX10_guessOf_117 : decode cX10_guessOf 117 = .ok (.getfield 49, 3) := by decide +kernel
theorem dX10_guessOf_120 : decode cX10_guessOf 120 = .ok (.iload 7, 2) := by decide +kernel
theorem dX10_guessOf_122 : decode cX10_guessOf 122 = .ok (.iaload, 1) := by decide +kernel
theorem dX10_guessOf_123 : decode cX10_guessOf 123 = .ok (.aload_n 0, 1) := by decide +kernel
theorem dX10_guessOf_124 : decode cX10_guessOf 124 = .ok (.getfield 49, 3) := by decide +kernel
theorem dX10_guessOf_127 : decode cX10_guessOf 127 = .ok (.iload_n 2, 1) := by decide +kernel
theorem dX10_guessOf_128 : decode cX10_guessOf 128 = .ok (.iaload, 1) := by decide +kernel
theorem dX10_guessOf_129 : decode cX10_guessOf 129 = .ok (.invokestatic 248, 3) := by decide +kernel
theorem dX10_guessOf_132 : decode cX10_guessOf 132 = .ok (.if_icmp .ge 8, 3) := by decide +kernel
theorem dX10_guessOf_135 : decode cX10_guessOf 135 = .ok (.iload 8, 2) := by decide +kernel
theorem dX10_guessOf_137 : decode cX10_guessOf 137 = .ok (.goto 5, 3) := by decide +kernel
theorem dX10_guessOf_140 : decode cX10_guessOf 140 = .ok (.iload 7, 2) := by decide +kernel
theorem dX10_guessOf_142 : decode cX10_guessOf 142 = .ok (.istore 7, 2) := by decide +kernel
theorem dX10_guessOf_144 : decode cX10_guessOf 144 = .ok (.iinc 8 1, 3) := by decide +kernel
theorem dX10_guessOf_147 : decode cX10_guessOf 147 = .ok (.goto (-109), 3) := by decide +kernel
theorem dX10_guessOf_150 : decode cX10_guessOf 150 = .ok (.iload 7, 2) := by decide +kernel
theorem dX10_guessOf_152 : decode cX10_guessOf 152 = .ok (.ifCond .lt 7, 3) := by decide +kernel
theorem dX10_guessOf_155 : decode cX10_guessOf 155 = .ok (.iconst 1, 1) := by decide +kernel
theorem dX10_guessOf_156 : decode cX10_guessOf 156 = .ok (.goto 4, 3) := by decide +kernel
theorem dX10_guessOf_159 : decode cX10_guessOf 159 = .ok (.iconst 0, 1) := by decide +kernel
theorem dX10_guessOf_160 : decode cX10_guessOf 160 = .ok (.istore 6, 2) := by decide +kernel
theorem dX10_guessOf_162 : decode cX10_guessOf 162 = .ok (.iload 6, 2) := by decide +kernel
theorem dX10_guessOf_164 : decode cX10_guessOf 164 = .ok (.ifCond .eq 36, 3) := by decide +kernel
theorem dX10_guessOf_167 : decode cX10_guessOf 167 = .ok (.iload_n 3, 1) := by decide +kernel
theorem dX10_guessOf_168 : decode cX10_guessOf 168 = .ok (.aload_n 0, 1) := by decide +kernel
theorem dX10_guessOf_169 : decode cX10_guessOf 169 = .ok (.iload 7, 2) := by decide +kernel
theorem dX10_guessOf_171 : decode cX10_guessOf 171 = .ok (.aload_n 0, 1) := by decide +kernel
theorem dX10_guessOf_172 : decode cX10_guessOf 172 = .ok (.getfield 43, 3) := by decide +kernel
theorem dX10_guessOf_175 : decode cX10_guessOf 175 = .ok (.aload_n 0, 1) := by decide +kernel
theorem dX10_guessOf_176 : decode cX10_guessOf 176 = .ok (.getfield 46, 3) := by decide +kernel
theorem dX10_guessOf_179 : decode cX10_guessOf 179 = .ok (.iload 7, 2) := by decide +kernel
theorem dX10_guessOf_181 : decode cX10_guessOf 181 = .ok (.iaload, 1) := by decide +kernel
theorem dX10_guessOf_182 : decode cX10_guessOf 182 = .ok (.iaload, 1) := by decide +kernel
theorem dX10_guessOf_183 : decode cX10_guessOf 183 = .ok (.invokevirtual 251, 3) := by decide +kernel
theorem dX10_guessOf_186 : decode cX10_guessOf 186 = .ok (.iadd, 1) := by decide +kernel
theorem dX10_guessOf_187 : decode cX10_guessOf 187 = .ok (.istore_n 3, 1) := by decide +kernel
theorem dX10_guessOf_188 : decode cX10_guessOf 188 = .ok (.iinc 4 1, 3) := by decide +kernel
theorem dX10_guessOf_191 : decode cX10_guessOf 191 = .ok (.iload 5, 2) := by decide +kernel
theorem dX10_guessOf_193 : decode cX10_guessOf 193 = .ok (.iconst 1, 1) := by decide +kernel
theorem dX10_guessOf_194 : decode cX10_guessOf 194 = .ok (.iload 7, 2) := by decide +kernel
theorem dX10_guessOf_196 : decode cX10_guessOf 196 = .ok (.ishl, 1) := by decide +kernel
theorem dX10_guessOf_197 : decode cX10_guessOf 197 = .ok (.ior, 1) := by decide +kernel
theorem dX10_guessOf_198 : decode cX10_guessOf 198 = .ok (.istore 5, 2) := by decide +kernel
theorem dX10_guessOf_200 : decode cX10_guessOf 200 = .ok (.goto (-180), 3) := by decide +kernel
theorem dX10_guessOf_203 : decode cX10_guessOf 203 = .ok (.iload 4, 2) := by decide +kernel
theorem dX10_guessOf_205 : decode cX10_guessOf 205 = .ok (.ifCond .ne 9, 3) := by decide +kernel
theorem dX10_guessOf_208 : decode cX10_guessOf 208 = .ok (.sipush 10000, 3) := by decide +kernel
theorem dX10_guessOf_211 : decode cX10_guessOf 211 = .ok (.goto 9, 3) := by decide +kernel
theorem dX10_guessOf_214 : decode cX10_guessOf 214 = .ok (.iload_n 3, 1) := by decide +kernel
theorem dX10_guessOf_215 : decode cX10_guessOf 215 = .ok (.iload 4, 2) := by decide +kernel
theorem dX10_guessOf_217 : decode cX10_guessOf 217 = .ok (.invokestatic 178, 3) := by decide +kernel
theorem dX10_guessOf_220 : decode cX10_guessOf 220 = .ok (.ireturn, 1) := by decide +kernel
theorem dX10_mendedOf_0 : decode cX10_mendedOf 0 = .ok (.aload_n 0, 1) := by decide +kernel
theorem dX10_mendedOf_1 : decode cX10_mendedOf 1 = .ok (.getfield 40, 3) := by decide +kernel
theorem dX10_mendedOf_4 : decode cX10_mendedOf 4 = .ok (.iload_n 1, 1) := by decide +kernel
theorem dX10_mendedOf_5 : decode cX10_mendedOf 5 = .ok (.iaload, 1) := by decide +kernel
theorem dX10_mendedOf_6 : decode cX10_mendedOf 6 = .ok (.iconst 1, 1) := by decide +kernel
theorem dX10_mendedOf_7 : decode cX10_mendedOf 7 = .ok (.if_icmp .ne 10, 3) := by decide +kernel
theorem dX10_mendedOf_10 : decode cX10_mendedOf 10 = .ok (.aload_n 0, 1) := by decide +kernel
theorem dX10_mendedOf_11 : decode cX10_mendedOf 11 = .ok (.getfield 43, 3) := by decide +kernel
theorem dX10_mendedOf_14 : decode cX10_mendedOf 14 = .ok (.iload_n 1, 1) := by decide +kernel
theorem dX10_mendedOf_15 : decode cX10_mendedOf 15 = .ok (.iaload, 1) := by decide +kernel
theorem dX10_mendedOf_16 : decode cX10_mendedOf 16 = .ok (.ireturn, 1) := by decide +kernel
theorem dX10_mendedOf_17 : decode cX10_mendedOf 17 = .ok (.aload_n 0, 1) := by decide +kernel
theorem dX10_mendedOf_18 : decode cX10_mendedOf 18 = .ok (.iload_n 1, 1) := by decide +kernel
theorem dX10_mendedOf_19 : decode cX10_mendedOf 19 = .ok (.invokevirtual 254, 3) := by decide +kernel
theorem dX10_mendedOf_22 : decode cX10_mendedOf 22 = .ok (.istore_n 2, 1) := by decide +kernel
theorem dX10_mendedOf_23 : decode cX10_mendedOf 23 = .ok (.bipush (-9), 2) := by decide +kernel
theorem dX10_mendedOf_25 : decode cX10_mendedOf 25 = .ok (.istore_n 3, 1) := by decide +kernel
theorem dX10_mendedOf_26 : decode cX10_mendedOf 26 = .ok (.iconst 0, 1) := by decide +kernel
theorem dX10_mendedOf_27 : decode cX10_mendedOf 27 = .ok (.istore 4, 2) := by decide +kernel
theorem dX10_mendedOf_29 : decode cX10_mendedOf 29 = .ok (.iload 4, 2) := by decide +kernel
theorem dX10_mendedOf_31 : decode cX10_mendedOf 31 = .ok (.sipush 10000, 3) := by decide +kernel
theorem dX10_mendedOf_34 : decode cX10_mendedOf 34 = .ok (.if_icmp .ge 67, 3) := by decide +kernel
theorem dX10_mendedOf_37 : decode cX10_mendedOf 37 = .ok (.aload_n 0, 1) := by decide +kernel
theorem dX10_mendedOf_38 : decode cX10_mendedOf 38 = .ok (.iload_n 1, 1) := by decide +kernel
theorem dX10_mendedOf_39 : decode cX10_mendedOf 39 = .ok (.iconst 1, 1) := by decide +kernel
theorem dX10_mendedOf_40 : decode cX10_mendedOf 40 = .ok (.iload 4, 2) := by decide +kernel
theorem dX10_mendedOf_42 : decode cX10_mendedOf 42 = .ok (.invokevirtual 208, 3) := by decide +kernel
theorem dX10_mendedOf_45 : decode cX10_mendedOf 45 = .ok (.istore 5, 2) := by decide +kernel
theorem dX10_mendedOf_47 : decode cX10_mendedOf 47 = .ok (.iload 5, 2) := by decide +kernel
theorem dX10_mendedOf_49 : decode cX10_mendedOf 49 = .ok (.ifCond .lt 46, 3) := by decide +kernel
theorem dX10_mendedOf_52 : decode cX10_mendedOf 52 = .ok (.iload_n 3, 1) := by decide +kernel
theorem dX10_mendedOf_53 : decode cX10_mendedOf 53 = .ok (.ifCond .lt 39, 3) := by decide +kernel
theorem dX10_mendedOf_56 : decode cX10_mendedOf 56 = .ok (.aload_n 0, 1) := by decide +kernel
theorem dX10_mendedOf_57 : decode cX10_mendedOf 57 = .ok (.aload_n 0, 1) := by decide +kernel
theorem dX10_mendedOf_58 : decode cX10_mendedOf 58 = .ok (.getfield 28, 3) := by decide +kernel
theorem dX10_mendedOf_61 : decode cX10_mendedOf 61 = .ok (.iload_n 1, 1) := by decide +kernel
theorem dX10_mendedOf_62 : decode cX10_mendedOf 62 = .ok (.iaload, 1) := by decide +kernel
theorem dX10_mendedOf_63 : decode cX10_mendedOf 63 = .ok (.iload 5, 2) := by decide +kernel
theorem dX10_mendedOf_65 : decode cX10_mendedOf 65 = .ok (.invokevirtual 251, 3) := by decide +kernel
theorem dX10_mendedOf_68 : decode cX10_mendedOf 68 = .ok (.iload_n 2, 1) := by decide +kernel
theorem dX10_mendedOf_69 : decode cX10_mendedOf 69 = .ok (.isub, 1) := by decide +kernel
theorem dX10_mendedOf_70 : decode cX10_mendedOf 70 = .ok (.invokestatic 195, 3) := by decide +kernel
theorem dX10_mendedOf_73 : decode cX10_mendedOf 73 = .ok (.aload_n 0, 1) := by decide +kernel
theorem dX10_mendedOf_74 : decode cX10_mendedOf 74 = .ok (.aload_n 0, 1) := by decide +kernel
theorem dX10_mendedOf_75 : decode cX10_mendedOf 75 = .ok (.getfield 28, 3) := by decide +kernel
theorem dX10_mendedOf_78 : decode cX10_mendedOf 78 = .ok (.iload_n 1, 1) := by decide +kernel
theorem dX10_mendedOf_79 : decode cX10_mendedOf 79 = .ok (.iaload, 1) := by decide +kernel
theorem dX10_mendedOf_80 : decode cX10_mendedOf 80 = .ok (.iload_n 3, 1) := by decide +kernel
theorem dX10_mendedOf_81 : decode cX10_mendedOf 81 = .ok (.invokevirtual 251, 3) := by decide +kernel
theorem dX10_mendedOf_84 : decode cX10_mendedOf 84 = .ok (.iload_n 2, 1) := by decide +kernel
theorem dX10_mendedOf_85 : decode cX10_mendedOf 85 = .ok (.isub, 1) := by decide +kernel
theorem dX10_mendedOf_86 : decode cX10_mendedOf 86 = .ok (.invokestatic 195, 3) := by decide +kernel
theorem dX10_mendedOf_89 : decode cX10_mendedOf 89 = .ok (.if_icmp .ge 6, 3) := by decide +kernel
theorem dX10_mendedOf_92 : decode cX10_mendedOf 92 = .ok (.iload 5, 2) := by decide +kernel
theorem dX10_mendedOf_94 : decode cX10_mendedOf 94 = .ok (.istore_n 3, 1) := by decide +kernel
theorem dX10_mendedOf_95 : decode cX10_mendedOf 95 = .ok (.iinc 4 1, 3) := by decide +kernel
theorem dX10_mendedOf_98 : decode cX10_mendedOf 98 = .ok (.goto (-69), 3) := by decide +kernel
theorem dX10_mendedOf_101 : decode cX10_mendedOf 101 = .ok (.iload_n 3, 1) := by decide +kernel
theorem dX10_mendedOf_102 : decode cX10_mendedOf 102 = .ok (.ireturn, 1) := by decide +kernel
theorem dX10_doQuarrel_0 : decode cX10_doQuarrel 0 = .ok (.aload_n 0, 1) := by decide +kernel
theorem dX10_doQuarrel_1 : decode cX10_doQuarrel 1 = .ok (.getfield 52, 3) := by decide +kernel
theorem dX10_doQuarrel_4 : decode cX10_doQuarrel 4 = .ok (.iload_n 1, 1) := by decide +kernel
theorem dX10_doQuarrel_5 : decode cX10_doQuarrel 5 = .ok (.iaload, 1) := by decide +kernel
theorem dX10_doQuarrel_6 : decode cX10_doQuarrel 6 = .ok (.aload_n 0, 1) := by decide +kernel
theorem dX10_doQuarrel_7 : decode cX10_doQuarrel 7 = .ok (.getfield 52, 3) := by decide +kernel
theorem dX10_doQuarrel_10 : decode cX10_doQuarrel 10 = .ok (.iload_n 2, 1) := by decide +kernel
theorem dX10_doQuarrel_11 : decode cX10_doQuarrel 11 = .ok (.iaload, 1) := by decide +kernel
theorem dX10_doQuarrel_12 : decode cX10_doQuarrel 12 = .ok (.isub, 1) := by decide +kernel
theorem dX10_doQuarrel_13 : decode cX10_doQuarrel 13 = .ok (.invokestatic 195, 3) := by decide +kernel
theorem dX10_doQuarrel_16 : decode cX10_doQuarrel 16 = .ok (.aload_n 0, 1) := by decide +kernel
theorem dX10_doQuarrel_17 : decode cX10_doQuarrel 17 = .ok (.getfield 141, 3) := by decide +kernel
theorem dX10_doQuarrel_20 : decode cX10_doQuarrel 20 = .ok (.aload_n 0, 1) := by decide +kernel
theorem dX10_doQuarrel_21 : decode cX10_doQuarrel 21 = .ok (.getfield 49, 3) := by decide +kernel
theorem dX10_doQuarrel_24 : decode cX10_doQuarrel 24 = .ok (.iload_n 1, 1) := by decide +kernel
theorem dX10_doQuarrel_25 : decode cX10_doQuarrel 25 = .ok (.iaload, 1) := by decide +kernel
theorem dX10_doQuarrel_26 : decode cX10_doQuarrel 26 = .ok (.aload_n 0, 1) := by decide +kernel
theorem dX10_doQuarrel_27 : decode cX10_doQuarrel 27 = .ok (.getfield 49, 3) := by decide +kernel
theorem dX10_doQuarrel_30 : decode cX10_doQuarrel 30 = .ok (.iload_n 2, 1) := by decide +kernel
theorem dX10_doQuarrel_31 : decode cX10_doQuarrel 31 = .ok (.iaload, 1) := by decide +kernel
theorem dX10_doQuarrel_32 : decode cX10_doQuarrel 32 = .ok (.invokestatic 257, 3) := by decide +kernel
theorem dX10_doQuarrel_35 : decode cX10_doQuarrel 35 = .ok (.imul, 1) := by decide +kernel
theorem dX10_doQuarrel_36 : decode cX10_doQuarrel 36 = .ok (.if_icmp .le 7, 3) := by decide +kernel
theorem dX10_doQuarrel_39 : decode cX10_doQuarrel 39 = .ok (.iconst 1, 1) := by decide +kernel
theorem dX10_doQuarrel_40 : decode cX10_doQuarrel 40 = .ok (.goto 4, 3) := by decide +kernel
theorem dX10_doQuarrel_43 : decode cX10_doQuarrel 43 = .ok (.iconst 0, 1) := by decide +kernel
theorem dX10_doQuarrel_44 : decode cX10_doQuarrel 44 = .ok (.ireturn, 1) := by decide +kernel
theorem dX10_count_0 : decode cX10_count 0 = .ok (.iconst 0, 1) := by decide +kernel
theorem dX10_count_1 : decode cX10_count 1 = .ok (.istore_n 1, 1) := by decide +kernel
theorem dX10_count_2 : decode cX10_count 2 = .ok (.iconst 0, 1) := by decide +kernel
theorem dX10_count_3 : decode cX10_count 3 = .ok (.istore_n 2, 1) := by decide +kernel
theorem dX10_count_4 : decode cX10_count 4 = .ok (.iload_n 2, 1) := by decide +kernel
theorem dX10_count_5 : decode cX10_count 5 = .ok (.bipush 12, 2) := by decide +kernel
theorem dX10_count_7 : decode cX10_count 7 = .ok (.if_icmp .ge 17, 3) := by decide +kernel
theorem dX10_count_10 : decode cX10_count 10 = .ok (.iload_n 1, 1) := by decide +kernel
theorem dX10_count_11 : decode cX10_count 11 = .ok (.iload_n 0, 1) := by decide +kernel
theorem dX10_count_12 : decode cX10_count 12 = .ok (.iload_n 2, 1) := by decide +kernel
theorem dX10_count_13 : decode cX10_count 13 = .ok (.ishr, 1) := by decide +kernel
theorem dX10_count_14 : decode cX10_count 14 = .ok (.iconst 1, 1) := by decide +kernel
theorem dX10_count_15 : decode cX10_count 15 = .ok (.iand, 1) := by decide +kernel
theorem dX10_count_16 : decode cX10_count 16 = .ok (.iadd, 1) := by decide +kernel
theorem dX10_count_17 : decode cX10_count 17 = .ok (.istore_n 1, 1) := by decide +kernel
theorem dX10_count_18 : decode cX10_count 18 = .ok (.iinc 2 1, 3) := by decide +kernel
theorem dX10_count_21 : decode cX10_count 21 = .ok (.goto (-17), 3) := by decide +kernel
theorem dX10_count_24 : decode cX10_count 24 = .ok (.iload_n 1, 1) := by decide +kernel
theorem dX10_count_25 : decode cX10_count 25 = .ok (.ireturn, 1) := by decide +kernel
theorem dX10_findDoubted_0 : decode cX10_findDoubted 0 = .ok (.iconst 0, 1) := by decide +kernel
theorem dX10_findDoubted_1 : decode cX10_findDoubted 1 = .ok (.istore_n 1, 1) := by decide +kernel
theorem dX10_findDoubted_2 : decode cX10_findDoubted 2 = .ok (.iconst 0, 1) := by decide +kernel
theorem dX10_findDoubted_3 : decode cX10_findDoubted 3 = .ok (.istore_n 2, 1) := by decide +kernel
theorem dX10_findDoubted_4 : decode cX10_findDoubted 4 = .ok (.iload_n 2, 1) := by decide +kernel
theorem dX10_findDoubted_5 : decode cX10_findDoubted 5 = .ok (.aload_n 0, 1) := by decide +kernel
theorem dX10_findDoubted_6 : decode cX10_findDoubted 6 = .ok (.getfield 153, 3) := by decide +kernel
theorem dX10_findDoubted_9 : decode cX10_findDoubted 9 = .ok (.if_icmp .ge 35, 3) := by decide +kernel
theorem dX10_findDoubted_12 : decode cX10_findDoubted 12 = .ok (.aload_n 0, 1) := by decide +kernel
theorem dX10_findDoubted_13 : decode cX10_findDoubted 13 = .ok (.getfield 58, 3) := by decide +kernel
theorem dX10_findDoubted_16 : decode cX10_findDoubted 16 = .ok (.iload_n 2, 1) := by decide +kernel
theorem dX10_findDoubted_17 : decode cX10_findDoubted 17 = .ok (.iconst 0, 1) := by decide +kernel
theorem dX10_findDoubted_18 : decode cX10_findDoubted 18 = .ok (.iastore, 1) := by decide +kernel
theorem dX10_findDoubted_19 : decode cX10_findDoubted 19 = .ok (.iload_n 1, 1) := by decide +kernel
theorem dX10_findDoubted_20 : decode cX10_findDoubted 20 = .ok (.aload_n 0, 1) := by decide +kernel
theorem dX10_findDoubted_21 : decode cX10_findDoubted 21 = .ok (.getfield 46, 3) := by decide +kernel
theorem dX10_findDoubted_24 : decode cX10_findDoubted 24 = .ok (.iload_n 2, 1) := by decide +kernel
theorem dX10_findDoubted_25 : decode cX10_findDoubted 25 = .ok (.iaload, 1) := by decide +kernel
theorem dX10_findDoubted_26 : decode cX10_findDoubted 26 = .ok (.ifCond .lt 9, 3) := by decide +kernel
theorem dX10_findDoubted_29 : decode cX10_findDoubted 29 = .ok (.iconst 1, 1) := by decide +kernel
theorem dX10_findDoubted_30 : decode cX10_findDoubted 30 = .ok (.iload_n 2, 1) := by decide +kernel
theorem dX10_findDoubted_31 : decode cX10_findDoubted 31 = .ok (.ishl, 1) := by decide +kernel
theorem dX10_findDoubted_32 : decode cX10_findDoubted 32 = .ok (.goto 4, 3) := by decide +kernel
theorem dX10_findDoubted_35 : decode cX10_findDoubted 35 = .ok (.iconst 0, 1) := by decide +kernel
theorem dX10_findDoubted_36 : decode cX10_findDoubted 36 = .ok (.ior, 1) := by decide +kernel
theorem dX10_findDoubted_37 : decode cX10_findDoubted 37 = .ok (.istore_n 1, 1) := by decide +kernel
theorem dX10_findDoubted_38 : decode cX10_findDoubted 38 = .ok (.iinc 2 1, 3) := by decide +kernel
theorem dX10_findDoubted_41 : decode cX10_findDoubted 41 = .ok (.goto (-37), 3) := by decide +kernel
theorem dX10_findDoubted_44 : decode cX10_findDoubted 44 = .ok (.iconst 0, 1) := by decide +kernel
theorem dX10_findDoubted_45 : decode cX10_findDoubted 45 = .ok (.istore_n 2, 1) := by decide +kernel
theorem dX10_findDoubted_46 : decode cX10_findDoubted 46 = .ok (.iload_n 2, 1) := by decide +kernel
theorem dX10_findDoubted_47 : decode cX10_findDoubted 47 = .ok (.aload_n 0, 1) := by decide +kernel
theorem dX10_findDoubted_48 : decode cX10_findDoubted 48 = .ok (.getfield 153, 3) := by decide +kernel
theorem dX10_findDoubted_51 : decode cX10_findDoubted 51 = .ok (.if_icmp .ge 73, 3) := by decide +kernel
theorem dX10_findDoubted_54 : decode cX10_findDoubted 54 = .ok (.iconst 0, 1) := by decide +kernel
theorem dX10_findDoubted_55 : decode cX10_findDoubted 55 = .ok (.istore_n 3, 1) := by decide +kernel
theorem dX10_findDoubted_56 : decode cX10_findDoubted 56 = .ok (.iload_n 3, 1) := by decide +kernel
theorem dX10_findDoubted_57 : decode cX10_findDoubted 57 = .ok (.aload_n 0, 1) := by decide +kernel
theorem dX10_findDoubted_58 : decode cX10_findDoubted 58 = .ok (.getfield 153, 3) := by decide +kernel
theorem dX10_findDoubted_61 : decode cX10_findDoubted 61 = .ok (.if_icmp .ge 57, 3) := by decide +kernel
theorem dX10_findDoubted_64 : decode cX10_findDoubted 64 = .ok (.aload_n 0, 1) := by decide +kernel
theorem dX10_findDoubted_65 : decode cX10_findDoubted 65 = .ok (.getfield 58, 3) := by decide +kernel
theorem dX10_findDoubted_68 : decode cX10_findDoubted 68 = .ok (.iload_n 2, 1) := by decide +kernel
theorem dX10_findDoubted_69 : decode cX10_findDoubted 69 = .ok (.dup2, 1) := by decide +kernel
theorem dX10_findDoubted_70 : decode cX10_findDoubted 70 = .ok (.iaload, 1) := by decide +kernel
theorem dX10_findDoubted_71 : decode cX10_findDoubted 71 = .ok (.iload_n 2, 1) := by decide +kernel
theorem dX10_findDoubted_72 : decode cX10_findDoubted 72 = .ok (.iload_n 3, 1) := by decide +kernel
theorem dX10_findDoubted_73 : decode cX10_findDoubted 73 = .ok (.if_icmp .eq 36, 3) := by decide +kernel
theorem dX10_findDoubted_76 : decode cX10_findDoubted 76 = .ok (.aload_n 0, 1) := by decide +kernel
theorem dX10_findDoubted_77 : decode cX10_findDoubted 77 = .ok (.getfield 46, 3) := by decide +kernel
theorem dX10_findDoubted_80 : decode cX10_findDoubted 80 = .ok (.iload_n 2, 1) := by decide +kernel
theorem dX10_findDoubted_81 : decode cX10_findDoubted 81 = .ok (.iaload, 1) := by decide +kernel
theorem dX10_findDoubted_82 : decode cX10_findDoubted 82 = .ok (.ifCond .lt 27, 3) := by decide +kernel
theorem dX10_findDoubted_85 : decode cX10_findDoubted 85 = .ok (.aload_n 0, 1) := by decide +kernel
theorem dX10_findDoubted_86 : decode cX10_findDoubted 86 = .ok (.getfield 46, 3) := by decide +kernel
theorem dX10_findDoubted_89 : decode cX10_findDoubted 89 = .ok (.iload_n 3, 1) := by decide +kernel
theorem dX10_findDoubted_90 : decode cX10_findDoubted 90 = .ok (.iaload, 1) := by decide +kernel
theorem dX10_findDoubted_91 : decode cX10_findDoubted 91 = .ok (.ifCond .lt 18, 3) := by decide +kernel
theorem dX10_findDoubted_94 : decode cX10_findDoubted 94 = .ok (.aload_n 0, 1) := by decide +kernel
theorem dX10_findDoubted_95 : decode cX10_findDoubted 95 = .ok (.iload_n 2, 1) := by decide +kernel
theorem dX10_findDoubted_96 : decode cX10_findDoubted 96 = .ok (.iload_n 3, 1) := by decide +kernel
theorem dX10_findDoubted_97 : decode cX10_findDoubted 97 = .ok (.invokevirtual 260, 3) := by decide +kernel
theorem dX10_findDoubted_100 : decode cX10_findDoubted 100 = .ok (.ifCond .eq 9, 3) := by decide +kernel
theorem dX10_findDoubted_103 : decode cX10_findDoubted 103 = .ok (.iconst 1, 1) := by decide +kernel
theorem dX10_findDoubted_104 : decode cX10_findDoubted 104 = .ok (.iload_n 3, 1) := by decide +kernel
theorem dX10_findDoubted_105 : decode cX10_findDoubted 105 = .ok (.ishl, 1) := by decide +kernel
theorem dX10_findDoubted_106 : decode cX10_findDoubted 106 = .ok (.goto 4, 3) := by decide +kernel
theorem dX10_findDoubted_109 : decode cX10_findDoubted 109 = .ok (.iconst 0, 1) := by decide +kernel
theorem dX10_findDoubted_110 : decode cX10_findDoubted 110 = .ok (.ior, 1) := by decide +kernel
theorem dX10_findDoubted_111 : decode cX10_findDoubted 111 = .ok (.iastore, 1) := by decide +kernel
theorem dX10_findDoubted_112 : decode cX10_findDoubted 112 = .ok (.iinc 3 1, 3) := by decide +kernel
theorem dX10_findDoubted_115 : decode cX10_findDoubted 115 = .ok (.goto (-59), 3) := by decide +kernel
theorem dX10_findDoubted_118 : decode cX10_findDoubted 118 = .ok (.iinc 2 1, 3) := by decide +kernel
theorem dX10_findDoubted_121 : decode cX10_findDoubted 121 = .ok (.goto (-75), 3) := by decide +kernel
theorem dX10_findDoubted_124 : decode cX10_findDoubted 124 = .ok (.aload_n 0, 1) := by decide +kernel
theorem dX10_findDoubted_125 : decode cX10_findDoubted 125 = .ok (.iload_n 1, 1) := by decide +kernel
theorem dX10_findDoubted_126 : decode cX10_findDoubted 126 = .ok (.putfield 263, 3) := by decide +kernel
theorem dX10_findDoubted_129 : decode cX10_findDoubted 129 = .ok (.iload_n 1, 1) := by decide +kernel
theorem dX10_findDoubted_130 : decode cX10_findDoubted 130 = .ok (.invokestatic 266, 3) := by decide +kernel
theorem dX10_findDoubted_133 : decode cX10_findDoubted 133 = .ok (.istore_n 2, 1) := by decide +kernel
theorem dX10_findDoubted_134 : decode cX10_findDoubted 134 = .ok (.iconst 0, 1) := by decide +kernel
theorem dX10_findDoubted_135 : decode cX10_findDoubted 135 = .ok (.istore_n 3, 1) := by decide +kernel
theorem dX10_findDoubted_136 : decode cX10_findDoubted 136 = .ok (.iload_n 3, 1) := by decide +kernel
theorem dX10_findDoubted_137 : decode cX10_findDoubted 137 = .ok (.iconst 1, 1) := by decide +kernel
theorem dX10_findDoubted_138 : decode cX10_findDoubted 138 = .ok (.aload_n 0, 1) := by decide +kernel
theorem dX10_findDoubted_139 : decode cX10_findDoubted 139 = .ok (.getfield 153, 3) := by decide +kernel
theorem dX10_findDoubted_142 : decode cX10_findDoubted 142 = .ok (.ishl, 1) := by decide +kernel
theorem dX10_findDoubted_143 : decode cX10_findDoubted 143 = .ok (.if_icmp .ge 47, 3) := by decide +kernel
theorem dX10_findDoubted_146 : decode cX10_findDoubted 146 = .ok (.iload_n 3, 1) := by decide +kernel
theorem dX10_findDoubted_147 : decode cX10_findDoubted 147 = .ok (.invokestatic 266, 3) := by decide +kernel
theorem dX10_findDoubted_150 : decode cX10_findDoubted 150 = .ok (.iload_n 2, 1) := by decide +kernel
theorem dX10_findDoubted_151 : decode cX10_findDoubted 151 = .ok (.if_icmp .ge 33, 3) := by decide +kernel
theorem dX10_findDoubted_154 : decode cX10_findDoubted 154 = .ok (.iload_n 3, 1) := by decide +kernel
theorem dX10_findDoubted_155 : decode cX10_findDoubted 155 = .ok (.iload_n 1, 1) := by decide +kernel
theorem dX10_findDoubted_156 : decode cX10_findDoubted 156 = .ok (.iconst (-1), 1) := by decide +kernel
theorem dX10_findDoubted_157 : decode cX10_findDoubted 157 = .ok (.ixor, 1) := by decide +kernel
theorem dX10_findDoubted_158 : decode cX10_findDoubted 158 = .ok (.iand, 1) := by decide +kernel
theorem dX10_findDoubted_159 : decode cX10_findDoubted 159 = .ok (.ifCond .ne 25, 3) := by decide +kernel
theorem dX10_findDoubted_162 : decode cX10_findDoubted 162 = .ok (.aload_n 0, 1) := by decide +kernel
theorem dX10_findDoubted_163 : decode cX10_findDoubted 163 = .ok (.iload_n 1, 1) := by decide +kernel
theorem dX10_findDoubted_164 : decode cX10_findDoubted 164 = .ok (.iload_n 3, 1) := by decide +kernel
theorem dX10_findDoubted_165 : decode cX10_findDoubted 165 = .ok (.iconst (-1), 1) := by decide +kernel
theorem dX10_findDoubted_166 : decode cX10_findDoubted 166 = .ok (.ixor, 1) := by decide +kernel
theorem dX10_findDoubted_167 : decode cX10_findDoubted 167 = .ok (.iand, 1) := by decide +kernel
theorem dX10_findDoubted_168 : decode cX10_findDoubted 168 = .ok (.invokevirtual 269, 3) := by decide +kernel
theorem dX10_findDoubted_171 : decode cX10_findDoubted 171 = .ok (.ifCond .eq 13, 3) := by decide +kernel
theorem dX10_findDoubted_174 : decode cX10_findDoubted 174 = .ok (.aload_n 0, 1) := by decide +kernel
theorem dX10_findDoubted_175 : decode cX10_findDoubted 175 = .ok (.iload_n 3, 1) := by decide +kernel
theorem dX10_findDoubted_176 : decode cX10_findDoubted 176 = .ok (.putfield 263, 3) := by decide +kernel
theorem dX10_findDoubted_179 : decode cX10_findDoubted 179 = .ok (.iload_n 3, 1) := by decide +kernel
theorem dX10_findDoubted_180 : decode cX10_findDoubted 180 = .ok (.invokestatic 266, 3) := by decide +kernel
theorem dX10_findDoubted_183 : decode cX10_findDoubted 183 = .ok (.istore_n 2, 1) := by decide +kernel
theorem dX10_findDoubted_184 : decode cX10_findDoubted 184 = .ok (.iinc 3 1, 3) := by decide +kernel
theorem dX10_findDoubted_187 : decode cX10_findDoubted 187 = .ok (.goto (-51), 3) := by decide +kernel
theorem dX10_findDoubted_190 : decode cX10_findDoubted 190 = .ok (.return_, 1) := by decide +kernel
theorem dX10_isQuiet_0 : decode cX10_isQuiet 0 = .ok (.iconst 1, 1) := by decide +kernel
theorem dX10_isQuiet_1 : decode cX10_isQuiet 1 = .ok (.istore_n 2, 1) := by decide +kernel
theorem dX10_isQuiet_2 : decode cX10_isQuiet 2 = .ok (.iconst 0, 1) := by decide +kernel
theorem dX10_isQuiet_3 : decode cX10_isQuiet 3 = .ok (.istore_n 3, 1) := by decide +kernel
theorem dX10_isQuiet_4 : decode cX10_isQuiet 4 = .ok (.iload_n 3, 1) := by decide +kernel
theorem dX10_isQuiet_5 : decode cX10_isQuiet 5 = .ok (.aload_n 0, 1) := by decide +kernel
theorem dX10_isQuiet_6 : decode cX10_isQuiet 6 = .ok (.getfield 153, 3) := by decide +kernel
theorem dX10_isQuiet_9 : decode cX10_isQuiet 9 = .ok (.if_icmp .ge 38, 3) := by decide +kernel
theorem dX10_isQuiet_12 : decode cX10_isQuiet 12 = .ok (.iload_n 2, 1) := by decide +kernel
theorem dX10_isQuiet_13 : decode cX10_isQuiet 13 = .ok (.ifCond .eq 26, 3) := by decide +kernel
theorem dX10_isQuiet_16 : decode cX10_isQuiet 16 = .ok (.iload_n 1, 1) := by decide +kernel
theorem dX10_isQuiet_17 : decode cX10_isQuiet 17 = .ok (.iload_n 3, 1) := by decide +kernel
theorem dX10_isQuiet_18 : decode cX10_isQuiet 18 = .ok (.invokestatic 245, 3) := by decide +kernel
theorem dX10_isQuiet_21 : decode cX10_isQuiet 21 = .ok (.ifCond .eq 14, 3) := by decide +kernel
theorem dX10_isQuiet_24 : decode cX10_isQuiet 24 = .ok (.aload_n 0, 1) := by decide +kernel
theorem dX10_isQuiet_25 : decode cX10_isQuiet 25 = .ok (.getfield 58, 3) := by decide +kernel
theorem dX10_isQuiet_28 : decode cX10_isQuiet 28 = .ok (.iload_n 3, 1) := by decide +kernel
theorem dX10_isQuiet_29 : decode cX10_isQuiet 29 = .ok (.iaload, 1) := by decide +kernel
theorem dX10_isQuiet_30 : decode cX10_isQuiet 30 = .ok (.iload_n 1, 1) := by decide +kernel
theorem dX10_isQuiet_31 : decode cX10_isQuiet 31 = .ok (.iand, 1) := by decide +kernel
theorem dX10_isQuiet_32 : decode cX10_isQuiet 32 = .ok (.ifCond .ne 7, 3) := by decide +kernel
theorem dX10_isQuiet_35 : decode cX10_isQuiet 35 = .ok (.iconst 1, 1) := by decide +kernel
theorem dX10_isQuiet_36 : decode cX10_isQuiet 36 = .ok (.goto 4, 3) := by decide +kernel
theorem dX10_isQuiet_39 : decode cX10_isQuiet 39 = .ok (.iconst 0, 1) := by decide +kernel
theorem dX10_isQuiet_40 : decode cX10_isQuiet 40 = .ok (.istore_n 2, 1) := by decide +kernel
theorem dX10_isQuiet_41 : decode cX10_isQuiet 41 = .ok (.iinc 3 1, 3) := by decide +kernel
theorem dX10_isQuiet_44 : decode cX10_isQuiet 44 = .ok (.goto (-40), 3) := by decide +kernel
theorem dX10_isQuiet_47 : decode cX10_isQuiet 47 = .ok (.iload_n 2, 1) := by decide +kernel
theorem dX10_isQuiet_48 : decode cX10_isQuiet 48 = .ok (.ireturn, 1) := by decide +kernel
theorem dX10_valueAt_0 : decode cX10_valueAt 0 = .ok (.bipush (-9), 2) := by decide +kernel
theorem dX10_valueAt_2 : decode cX10_valueAt 2 = .ok (.istore_n 2, 1) := by decide +kernel
theorem dX10_valueAt_3 : decode cX10_valueAt 3 = .ok (.iconst 0, 1) := by decide +kernel
theorem dX10_valueAt_4 : decode cX10_valueAt 4 = .ok (.istore_n 3, 1) := by decide +kernel
theorem dX10_valueAt_5 : decode cX10_valueAt 5 = .ok (.iload_n 3, 1) := by decide +kernel
theorem dX10_valueAt_6 : decode cX10_valueAt 6 = .ok (.aload_n 0, 1) := by decide +kernel
theorem dX10_valueAt_7 : decode cX10_valueAt 7 = .ok (.getfield 153, 3) := by decide +kernel
theorem dX10_valueAt_10 : decode cX10_valueAt 10 = .ok (.if_icmp .ge 74, 3) := by decide +kernel
theorem dX10_valueAt_13 : decode cX10_valueAt 13 = .ok (.aload_n 0, 1) := by decide +kernel
theorem dX10_valueAt_14 : decode cX10_valueAt 14 = .ok (.getfield 46, 3) := by decide +kernel
theorem dX10_valueAt_17 : decode cX10_valueAt 17 = .ok (.iload_n 3, 1) := by decide +kernel
theorem dX10_valueAt_18 : decode cX10_valueAt 18 = .ok (.iaload, 1) := by decide +kernel
theorem dX10_valueAt_19 : decode cX10_valueAt 19 = .ok (.ifCond .lt 18, 3) := by decide +kernel
theorem dX10_valueAt_22 : decode cX10_valueAt 22 = .ok (.aload_n 0, 1) := by decide +kernel
theorem dX10_valueAt_23 : decode cX10_valueAt 23 = .ok (.getfield 263, 3) := by decide +kernel
theorem dX10_valueAt_26 : decode cX10_valueAt 26 = .ok (.iload_n 3, 1) := by decide +kernel
theorem dX10_valueAt_27 : decode cX10_valueAt 27 = .ok (.invokestatic 245, 3) := by decide +kernel
theorem dX10_valueAt_30 : decode cX10_valueAt 30 = .ok (.ifCond .ne 7, 3) := by decide +kernel
theorem dX10_valueAt_33 : decode cX10_valueAt 33 = .ok (.iconst 1, 1) := by decide +kernel
theorem dX10_valueAt_34 : decode cX10_valueAt 34 = .ok (.goto 4, 3) := by decide +kernel
theorem dX10_valueAt_37 : decode cX10_valueAt 37 = .ok (.iconst 0, 1) := by decide +kernel
theorem dX10_valueAt_38 : decode cX10_valueAt 38 = .ok (.istore 4, 2) := by decide +kernel
theorem dX10_valueAt_40 : decode cX10_valueAt 40 = .ok (.iload 4, 2) := by decide +kernel
theorem dX10_valueAt_42 : decode cX10_valueAt 42 = .ok (.ifCond .eq 34, 3) := by decide +kernel
theorem dX10_valueAt_45 : decode cX10_valueAt 45 = .ok (.iload_n 2, 1) := by decide +kernel
theorem dX10_valueAt_46 : decode cX10_valueAt 46 = .ok (.ifCond .lt 26, 3) := by decide +kernel
theorem dX10_valueAt_49 : decode cX10_valueAt 49 = .ok (.aload_n 0, 1) := by decide +kernel
theorem dX10_valueAt_50 : decode cX10_valueAt 50 = .ok (.getfield 49, 3) := by decide +kernel
theorem dX10_valueAt_53 : decode cX10_valueAt 53 = .ok (.iload_n 3, 1) := by decide +kernel
theorem dX10_valueAt_54 : decode cX10_valueAt 54 = .ok (.iaload, 1) := by decide +kernel
theorem dX10_valueAt_55 : decode cX10_valueAt 55 = .ok (.iload_n 1, 1) := by decide +kernel
theorem dX10_valueAt_56 : decode cX10_valueAt 56 = .ok (.invokestatic 248, 3) := by decide +kernel
theorem dX10_valueAt_59 : decode cX10_valueAt 59 = .ok (.aload_n 0, 1) := by decide +kernel
theorem dX10_valueAt_60 : decode cX10_valueAt 60 = .ok (.getfield 49, 3) := by decide +kernel
theorem dX10_valueAt_63 : decode cX10_valueAt 63 = .ok (.iload_n 2, 1) := by decide +kernel
theorem dX10_valueAt_64 : decode cX10_valueAt 64 = .ok (.iaload, 1) := by decide +kernel
theorem dX10_valueAt_65 : decode cX10_valueAt 65 = .ok (.iload_n 1, 1) := by decide +kernel
theorem dX10_valueAt_66 : decode cX10_valueAt 66 = .ok (.invokestatic 248, 3) := by decide +kernel
theorem dX10_valueAt_69 : decode cX10_valueAt 69 = .ok (.if_icmp .ge 7, 3) := by decide +kernel
theorem dX10_valueAt_72 : decode cX10_valueAt 72 = .ok (.iload_n 3, 1) := by decide +kernel
theorem dX10_valueAt_73 : decode cX10_valueAt 73 = .ok (.goto 4, 3) := by decide +kernel
theorem dX10_valueAt_76 : decode cX10_valueAt 76 = .ok (.iload_n 2, 1) := by decide +kernel
theorem dX10_valueAt_77 : decode cX10_valueAt 77 = .ok (.istore_n 2, 1) := by decide +kernel
theorem dX10_valueAt_78 : decode cX10_valueAt 78 = .ok (.iinc 3 1, 3) := by decide +kernel
theorem dX10_valueAt_81 : decode cX10_valueAt 81 = .ok (.goto (-76), 3) := by decide +kernel
theorem dX10_valueAt_84 : decode cX10_valueAt 84 = .ok (.iload_n 2, 1) := by decide +kernel
theorem dX10_valueAt_85 : decode cX10_valueAt 85 = .ok (.ifCond .ge 8, 3) := by decide +kernel
theorem dX10_valueAt_88 : decode cX10_valueAt 88 = .ok (.bipush (-9), 2) := by decide +kernel
theorem dX10_valueAt_90 : decode cX10_valueAt 90 = .ok (.goto 9, 3) := by decide +kernel
theorem dX10_valueAt_93 : decode cX10_valueAt 93 = .ok (.aload_n 0, 1) := by decide +kernel
theorem dX10_valueAt_94 : decode cX10_valueAt 94 = .ok (.getfield 52, 3) := by decide +kernel
theorem dX10_valueAt_97 : decode cX10_valueAt 97 = .ok (.iload_n 2, 1) := by decide +kernel
theorem dX10_valueAt_98 : decode cX10_valueAt 98 = .ok (.iaload, 1) := by decide +kernel
theorem dX10_valueAt_99 : decode cX10_valueAt 99 = .ok (.ireturn, 1) := by decide +kernel
theorem dX10_layChart_0 : decode cX10_layChart 0 = .ok (.aload_n 0, 1) := by decide +kernel
theorem dX10_layChart_1 : decode cX10_layChart 1 = .ok (.getfield 174, 3) := by decide +kernel
theorem dX10_layChart_4 : decode cX10_layChart 4 = .ok (.ifCond .eq 4, 3) := by decide +kernel
theorem dX10_layChart_7 : decode cX10_layChart 7 = .ok (.return_, 1) := by decide +kernel
theorem dX10_layChart_8 : decode cX10_layChart 8 = .ok (.aload_n 0, 1) := by decide +kernel
theorem dX10_layChart_9 : decode cX10_layChart 9 = .ok (.iconst 1, 1) := by decide +kernel
theorem dX10_layChart_10 : decode cX10_layChart 10 = .ok (.putfield 174, 3) := by decide +kernel
theorem dX10_layChart_13 : decode cX10_layChart 13 = .ok (.aload_n 0, 1) := by decide +kernel
theorem dX10_layChart_14 : decode cX10_layChart 14 = .ok (.iconst 0, 1) := by decide +kernel
theorem dX10_layChart_15 : decode cX10_layChart 15 = .ok (.putfield 272, 3) := by decide +kernel
theorem dX10_layChart_18 : decode cX10_layChart 18 = .ok (.iconst 0, 1) := by decide +kernel
theorem dX10_layChart_19 : decode cX10_layChart 19 = .ok (.istore_n 1, 1) := by decide +kernel
theorem dX10_layChart_20 : decode cX10_layChart 20 = .ok (.iload_n 1, 1) := by decide +kernel
theorem dX10_layChart_21 : decode cX10_layChart 21 = .ok (.aload_n 0, 1) := by decide +kernel
theorem dX10_layChart_22 : decode cX10_layChart 22 = .ok (.getfield 153, 3) := by decide +kernel
theorem dX10_layChart_25 : decode cX10_layChart 25 = .ok (.if_icmp .ge 92, 3) := by decide +kernel
theorem dX10_layChart_28 : decode cX10_layChart 28 = .ok (.aload_n 0, 1) := by decide +kernel
theorem dX10_layChart_29 : decode cX10_layChart 29 = .ok (.getfield 49, 3) := by decide +kernel
theorem dX10_layChart_32 : decode cX10_layChart 32 = .ok (.iload_n 1, 1) := by decide +kernel
theorem dX10_layChart_33 : decode cX10_layChart 33 = .ok (.aload_n 0, 1) := by decide +kernel
theorem dX10_layChart_34 : decode cX10_layChart 34 = .ok (.iload_n 1, 1) := by decide +kernel
theorem dX10_layChart_35 : decode cX10_layChart 35 = .ok (.aload_n 0, 1) := by decide +kernel
theorem dX10_layChart_36 : decode cX10_layChart 36 = .ok (.getfield 242, 3) := by decide +kernel
theorem dX10_layChart_39 : decode cX10_layChart 39 = .ok (.invokevirtual 192, 3) := by decide +kernel
theorem dX10_layChart_42 : decode cX10_layChart 42 = .ok (.iastore, 1) := by decide +kernel
theorem dX10_layChart_43 : decode cX10_layChart 43 = .ok (.aload_n 0, 1) := by decide +kernel
theorem dX10_layChart_44 : decode cX10_layChart 44 = .ok (.getfield 49, 3) := by decide +kernel
theorem dX10_layChart_47 : decode cX10_layChart 47 = .ok (.iload_n 1, 1) := by decide +kernel
theorem dX10_layChart_48 : decode cX10_layChart 48 = .ok (.iaload, 1) := by decide +kernel
theorem dX10_layChart_49 : decode cX10_layChart 49 = .ok (.ifCond .ge 8, 3) := by decide +kernel
theorem dX10_layChart_52 : decode cX10_layChart 52 = .ok (.bipush (-9), 2) := by decide +kernel
theorem dX10_layChart_54 : decode cX10_layChart 54 = .ok (.goto 8, 3) := by decide +kernel
theorem dX10_layChart_57 : decode cX10_layChart 57 = .ok (.aload_n 0, 1) := by decide +kernel
theorem dX10_layChart_58 : decode cX10_layChart 58 = .ok (.iload_n 1, 1) := by decide +kernel
theorem dX10_layChart_59 : decode cX10_layChart 59 = .ok (.invokevirtual 275, 3) := by decide +kernel
theorem dX10_layChart_62 : decode cX10_layChart 62 = .ok (.istore_n 2, 1) := by decide +kernel
theorem dX10_layChart_63 : decode cX10_layChart 63 = .ok (.aload_n 0, 1) := by decide +kernel
theorem dX10_layChart_64 : decode cX10_layChart 64 = .ok (.getfield 46, 3) := by decide +kernel
theorem dX10_layChart_67 : decode cX10_layChart 67 = .ok (.iload_n 1, 1) := by decide +kernel
theorem dX10_layChart_68 : decode cX10_layChart 68 = .ok (.iload_n 2, 1) := by decide +kernel
theorem dX10_layChart_69 : decode cX10_layChart 69 = .ok (.ifCond .lt 16, 3) := by decide +kernel
theorem dX10_layChart_72 : decode cX10_layChart 72 = .ok (.aload_n 0, 1) := by decide +kernel
theorem dX10_layChart_73 : decode cX10_layChart 73 = .ok (.getfield 40, 3) := by decide +kernel
theorem dX10_layChart_76 : decode cX10_layChart 76 = .ok (.iload_n 2, 1) := by decide +kernel
theorem dX10_layChart_77 : decode cX10_layChart 77 = .ok (.iaload, 1) := by decide +kernel
theorem dX10_layChart_78 : decode cX10_layChart 78 = .ok (.ifCond .le 7, 3) := by decide +kernel
theorem dX10_layChart_81 : decode cX10_layChart 81 = .ok (.iload_n 2, 1) := by decide +kernel
theorem dX10_layChart_82 : decode cX10_layChart 82 = .ok (.goto 5, 3) := by decide +kernel
theorem dX10_layChart_85 : decode cX10_layChart 85 = .ok (.bipush (-9), 2) := by decide +kernel
theorem dX10_layChart_87 : decode cX10_layChart 87 = .ok (.iastore, 1) := by decide +kernel
theorem dX10_layChart_88 : decode cX10_layChart 88 = .ok (.aload_n 0, 1) := by decide +kernel
theorem dX10_layChart_89 : decode cX10_layChart 89 = .ok (.dup, 1) := by decide +kernel
theorem dX10_layChart_90 : decode cX10_layChart 90 = .ok (.getfield 272, 3) := by decide +kernel
theorem dX10_layChart_93 : decode cX10_layChart 93 = .ok (.aload_n 0, 1) := by decide +kernel
theorem dX10_layChart_94 : decode cX10_layChart 94 = .ok (.getfield 46, 3) := by decide +kernel
theorem dX10_layChart_97 : decode cX10_layChart 97 = .ok (.iload_n 1, 1) := by decide +kernel
theorem dX10_layChart_98 : decode cX10_layChart 98 = .ok (.iaload, 1) := by decide +kernel
theorem dX10_layChart_99 : decode cX10_layChart 99 = .ok (.ifCond .lt 7, 3) := by decide +kernel
theorem dX10_layChart_102 : decode cX10_layChart 102 = .ok (.iconst 1, 1) := by decide +kernel
theorem dX10_layChart_103 : decode cX10_layChart 103 = .ok (.goto 4, 3) := by decide +kernel
theorem dX10_layChart_106 : decode cX10_layChart 106 = .ok (.iconst 0, 1) := by decide +kernel
theorem dX10_layChart_107 : decode cX10_layChart 107 = .ok (.iadd, 1) := by decide +kernel
theorem dX10_layChart_108 : decode cX10_layChart 108 = .ok (.putfield 272, 3) := by decide +kernel
theorem dX10_layChart_111 : decode cX10_layChart 111 = .ok (.iinc 1 1, 3) := by decide +kernel
theorem dX10_layChart_114 : decode cX10_layChart 114 = .ok (.goto (-94), 3) := by decide +kernel
theorem dX10_layChart_117 : decode cX10_layChart 117 = .ok (.iconst 0, 1) := by decide +kernel
theorem dX10_layChart_118 : decode cX10_layChart 118 = .ok (.istore_n 1, 1) := by decide +kernel
theorem dX10_layChart_119 : decode cX10_layChart 119 = .ok (.iload_n 1, 1) := by decide +kernel
theorem dX10_layChart_120 : decode cX10_layChart 120 = .ok (.aload_n 0, 1) := by decide +kernel
theorem dX10_layChart_121 : decode cX10_layChart 121 = .ok (.getfield 153, 3) := by decide +kernel
theorem dX10_layChart_124 : decode cX10_layChart 124 = .ok (.if_icmp .ge 44, 3) := by decide +kernel
theorem dX10_layChart_127 : decode cX10_layChart 127 = .ok (.aload_n 0, 1) := by decide +kernel
theorem dX10_layChart_128 : decode cX10_layChart 128 = .ok (.getfield 52, 3) := by decide +kernel
theorem dX10_layChart_131 : decode cX10_layChart 131 = .ok (.iload_n 1, 1) := by decide +kernel
theorem dX10_layChart_132 : decode cX10_layChart 132 = .ok (.aload_n 0, 1) := by decide +kernel
theorem dX10_layChart_133 : decode cX10_layChart 133 = .ok (.getfield 46, 3) := by decide +kernel
theorem dX10_layChart_136 : decode cX10_layChart 136 = .ok (.iload_n 1, 1) := by decide +kernel
theorem dX10_layChart_137 : decode cX10_layChart 137 = .ok (.iaload, 1) := by decide +kernel
theorem dX10_layChart_138 : decode cX10_layChart 138 = .ok (.ifCond .ge 8, 3) := by decide +kernel
theorem dX10_layChart_141 : decode cX10_layChart 141 = .ok (.bipush (-9), 2) := by decide +kernel
theorem dX10_layChart_143 : decode cX10_layChart 143 = .ok (.goto 18, 3) := by decide +kernel
theorem dX10_layChart_146 : decode cX10_layChart 146 = .ok (.aload_n 0, 1) := by decide +kernel
theorem dX10_layChart_147 : decode cX10_layChart 147 = .ok (.iload_n 1, 1) := by decide +kernel
theorem dX10_layChart_148 : decode cX10_layChart 148 = .ok (.aload_n 0, 1) := by decide +kernel
theorem dX10_layChart_149 : decode cX10_layChart 149 = .ok (.aload_n 0, 1) := by decide +kernel
theorem dX10_layChart_150 : decode cX10_layChart 150 = .ok (.getfield 46, 3) := by decide +kernel
theorem dX10_layChart_153 : decode cX10_layChart 153 = .ok (.iload_n 1, 1) := by decide +kernel
theorem dX10_layChart_154 : decode cX10_layChart 154 = .ok (.iaload, 1) := by decide +kernel
theorem dX10_layChart_155 : decode cX10_layChart 155 = .ok (.invokevirtual 278, 3) := by decide +kernel
theorem dX10_layChart_158 : decode cX10_layChart 158 = .ok (.invokevirtual 251, 3) := by decide +kernel
theorem dX10_layChart_161 : decode cX10_layChart 161 = .ok (.iastore, 1) := by decide +kernel
theorem dX10_layChart_162 : decode cX10_layChart 162 = .ok (.iinc 1 1, 3) := by decide +kernel
theorem dX10_layChart_165 : decode cX10_layChart 165 = .ok (.goto (-46), 3) := by decide +kernel
theorem dX10_layChart_168 : decode cX10_layChart 168 = .ok (.aload_n 0, 1) := by decide +kernel
theorem dX10_layChart_169 : decode cX10_layChart 169 = .ok (.invokevirtual 281, 3) := by decide +kernel
theorem dX10_layChart_172 : decode cX10_layChart 172 = .ok (.iconst 0, 1) := by decide +kernel
theorem dX10_layChart_173 : decode cX10_layChart 173 = .ok (.istore_n 1, 1) := by decide +kernel
theorem dX10_layChart_174 : decode cX10_layChart 174 = .ok (.iload_n 1, 1) := by decide +kernel
theorem dX10_layChart_175 : decode cX10_layChart 175 = .ok (.sipush 144, 3) := by decide +kernel
theorem dX10_layChart_178 : decode cX10_layChart 178 = .ok (.if_icmp .ge 20, 3) := by decide +kernel
theorem dX10_layChart_181 : decode cX10_layChart 181 = .ok (.aload_n 0, 1) := by decide +kernel
theorem dX10_layChart_182 : decode cX10_layChart 182 = .ok (.getfield 55, 3) := by decide +kernel
theorem dX10_layChart_185 : decode cX10_layChart 185 = .ok (.iload_n 1, 1) := by decide +kernel
theorem dX10_layChart_186 : decode cX10_layChart 186 = .ok (.aload_n 0, 1) := by decide +kernel
theorem dX10_layChart_187 : decode cX10_layChart 187 = .ok (.iload_n 1, 1) := by decide +kernel
theorem dX10_layChart_188 : decode cX10_layChart 188 = .ok (.invokevirtual 284, 3) := by decide +kernel
theorem dX10_layChart_191 : decode cX10_layChart 191 = .ok (.iastore, 1) := by decide +kernel
theorem dX10_layChart_192 : decode cX10_layChart 192 = .ok (.iinc 1 1, 3) := by decide +kernel
theorem dX10_layChart_195 : decode cX10_layChart 195 = .ok (.goto (-21), 3) := by decide +kernel
theorem dX10_layChart_198 : decode cX10_layChart 198 = .ok (.return_, 1) := by decide +kernel
theorem dX10_about_0 : decode cX10_about 0 = .ok (.aload_n 0, 1) := by decide +kernel
theorem dX10_about_1 : decode cX10_about 1 = .ok (.iload_n 1, 1) := by decide +kernel
theorem dX10_about_2 : decode cX10_about 2 = .ok (.invokevirtual 186, 3) := by decide +kernel
theorem dX10_about_5 : decode cX10_about 5 = .ok (.ifCond .eq 5, 3) := by decide +kernel
theorem dX10_about_8 : decode cX10_about 8 = .ok (.iconst (-1), 1) := by decide +kernel
theorem dX10_about_9 : decode cX10_about 9 = .ok (.ireturn, 1) := by decide +kernel
theorem dX10_about_10 : decode cX10_about 10 = .ok (.aload_n 0, 1) := by decide +kernel
theorem dX10_about_11 : decode cX10_about 11 = .ok (.invokevirtual 237, 3) := by decide +kernel
theorem dX10_about_14 : decode cX10_about 14 = .ok (.iconst 0, 1) := by decide +kernel
theorem dX10_about_15 : decode cX10_about 15 = .ok (.istore_n 3, 1) := by decide +kernel
theorem dX10_about_16 : decode cX10_about 16 = .ok (.iload_n 2, 1) := by decide +kernel
theorem dX10_about_17 : decode cX10_about 17 = .ok (.tableswitch 134 0 6 #[43, 50, 57, 64, 71, 110, 117], 43) := by decide +kernel
theorem dX10_about_60 : decode cX10_about 60 = .ok (.aload_n 0, 1) := by decide +kernel
theorem dX10_about_61 : decode cX10_about 61 = .ok (.getfield 7, 3) := by decide +kernel
theorem dX10_about_64 : decode cX10_about 64 = .ok (.iload_n 1, 1) := by decide +kernel
theorem dX10_about_65 : decode cX10_about 65 = .ok (.iaload, 1) := by decide +kernel
theorem dX10_about_66 : decode cX10_about 66 = .ok (.ireturn, 1) := by decide +kernel
theorem dX10_about_67 : decode cX10_about 67 = .ok (.aload_n 0, 1) := by decide +kernel
theorem dX10_about_68 : decode cX10_about 68 = .ok (.getfield 13, 3) := by decide +kernel
theorem dX10_about_71 : decode cX10_about 71 = .ok (.iload_n 1, 1) := by decide +kernel
theorem dX10_about_72 : decode cX10_about 72 = .ok (.iaload, 1) := by decide +kernel
theorem dX10_about_73 : decode cX10_about 73 = .ok (.ireturn, 1) := by decide +kernel
theorem dX10_about_74 : decode cX10_about 74 = .ok (.aload_n 0, 1) := by decide +kernel
theorem dX10_about_75 : decode cX10_about 75 = .ok (.getfield 16, 3) := by decide +kernel
theorem dX10_about_78 : decode cX10_about 78 = .ok (.iload_n 1, 1) := by decide +kernel
theorem dX10_about_79 : decode cX10_about 79 = .ok (.iaload, 1) := by decide +kernel
theorem dX10_about_80 : decode cX10_about 80 = .ok (.ireturn, 1) := by decide +kernel
theorem dX10_about_81 : decode cX10_about 81 = .ok (.aload_n 0, 1) := by decide +kernel
theorem dX10_about_82 : decode cX10_about 82 = .ok (.getfield 19, 3) := by decide +kernel
theorem dX10_about_85 : decode cX10_about 85 = .ok (.iload_n 1, 1) := by decide +kernel
theorem dX10_about_86 : decode cX10_about 86 = .ok (.iaload, 1) := by decide +kernel
theorem dX10_about_87 : decode cX10_about 87 = .ok (.ireturn, 1) := by decide +kernel
theorem dX10_about_88 : decode cX10_about 88 = .ok (.iconst 0, 1) := by decide +kernel
theorem dX10_about_89 : decode cX10_about 89 = .ok (.istore 4, 2) := by decide +kernel
theorem dX10_about_91 : decode cX10_about 91 = .ok (.iload 4, 2) := by decide +kernel
theorem dX10_about_93 : decode cX10_about 93 = .ok (.aload_n 0, 1) := by decide +kernel
theorem dX10_about_94 : decode cX10_about 94 = .ok (.getfield 201, 3) := by decide +kernel
theorem dX10_about_97 : decode cX10_about 97 = .ok (.if_icmp .ge 28, 3) := by decide +kernel
theorem dX10_about_100 : decode cX10_about 100 = .ok (.iload_n 3, 1) := by decide +kernel
theorem dX10_about_101 : decode cX10_about 101 = .ok (.aload_n 0, 1) := by decide +kernel
theorem dX10_about_102 : decode cX10_about 102 = .ok (.getfield 28, 3) := by decide +kernel
theorem dX10_about_105 : decode cX10_about 105 = .ok (.iload 4, 2) := by decide +kernel
theorem dX10_about_107 : decode cX10_about 107 = .ok (.iaload, 1) := by decide +kernel
theorem dX10_about_108 : decode cX10_about 108 = .ok (.iload_n 1, 1) := by decide +kernel
theorem dX10_about_109 : decode cX10_about 109 = .ok (.if_icmp .ne 7, 3) := by decide +kernel
theorem dX10_about_112 : decode cX10_about 112 = .ok (.iconst 1, 1) := by decide +kernel
theorem dX10_about_113 : decode cX10_about 113 = .ok (.goto 4, 3) := by decide +kernel
theorem dX10_about_116 : decode cX10_about 116 = .ok (.iconst 0, 1) := by decide +kernel
theorem dX10_about_117 : decode cX10_about 117 = .ok (.iadd, 1) := by decide +kernel
theorem dX10_about_118 : decode cX10_about 118 = .ok (.istore_n 3, 1) := by decide +kernel
theorem dX10_about_119 : decode cX10_about 119 = .ok (.iinc 4 1, 3) := by decide +kernel
theorem dX10_about_122 : decode cX10_about 122 = .ok (.goto (-31), 3) := by decide +kernel
theorem dX10_about_125 : decode cX10_about 125 = .ok (.iload_n 3, 1) := by decide +kernel
theorem dX10_about_126 : decode cX10_about 126 = .ok (.ireturn, 1) := by decide +kernel
theorem dX10_about_127 : decode cX10_about 127 = .ok (.aload_n 0, 1) := by decide +kernel
theorem dX10_about_128 : decode cX10_about 128 = .ok (.getfield 46, 3) := by decide +kernel
theorem dX10_about_131 : decode cX10_about 131 = .ok (.iload_n 1, 1) := by decide +kernel
theorem dX10_about_132 : decode cX10_about 132 = .ok (.iaload, 1) := by decide +kernel
theorem dX10_about_133 : decode cX10_about 133 = .ok (.ireturn, 1) := by decide +kernel
theorem dX10_about_134 : decode cX10_about 134 = .ok (.aload_n 0, 1) := by decide +kernel
theorem dX10_about_135 : decode cX10_about 135 = .ok (.getfield 263, 3) := by decide +kernel
theorem dX10_about_138 : decode cX10_about 138 = .ok (.iload_n 1, 1) := by decide +kernel
theorem dX10_about_139 : decode cX10_about 139 = .ok (.invokestatic 245, 3) := by decide +kernel
theorem dX10_about_142 : decode cX10_about 142 = .ok (.ifCond .eq 7, 3) := by decide +kernel
theorem dX10_about_145 : decode cX10_about 145 = .ok (.iconst 1, 1) := by decide +kernel
theorem dX10_about_146 : decode cX10_about 146 = .ok (.goto 4, 3) := by decide +kernel
theorem dX10_about_149 : decode cX10_about 149 = .ok (.iconst 0, 1) := by decide +kernel
theorem dX10_about_150 : decode cX10_about 150 = .ok (.ireturn, 1) := by decide +kernel
theorem dX10_about_151 : decode cX10_about 151 = .ok (.bipush (-2), 2) := by decide +kernel
theorem dX10_about_153 : decode cX10_about 153 = .ok (.ireturn, 1) := by decide +kernel
theorem dX10_view_0 : decode cX10_view 0 = .ok (.iload_n 1, 1) := by decide +kernel
theorem dX10_view_1 : decode cX10_view 1 = .ok (.i2l, 1) := by decide +kernel
theorem dX10_view_2 : decode cX10_view 2 = .ok (.lconst 0, 1) := by decide +kernel
theorem dX10_view_3 : decode cX10_view 3 = .ok (.ldc2_w 190, 3) := by decide +kernel
theorem dX10_view_6 : decode cX10_view 6 = .ok (.invokestatic 156, 3) := by decide +kernel
theorem dX10_view_9 : decode cX10_view 9 = .ok (.ifCond .eq 15, 3) := by decide +kernel
theorem dX10_view_12 : decode cX10_view 12 = .ok (.iload_n 2, 1) := by decide +kernel
theorem dX10_view_13 : decode cX10_view 13 = .ok (.i2l, 1) := by decide +kernel
theorem dX10_view_14 : decode cX10_view 14 = .ok (.lconst 0, 1) := by decide +kernel
theorem dX10_view_15 : decode cX10_view 15 = .ok (.ldc2_w 190, 3) := by decide +kernel
theorem dX10_view_18 : decode cX10_view 18 = .ok (.invokestatic 156, 3) := by decide +kernel
theorem dX10_view_21 : decode cX10_view 21 = .ok (.ifCond .ne 6, 3) := by decide +kernel
theorem dX10_view_24 : decode cX10_view 24 = .ok (.bipush (-2), 2) := by decide +kernel
theorem dX10_view_26 : decode cX10_view 26 = .ok (.ireturn, 1) := by decide +kernel
theorem dX10_view_27 : decode cX10_view 27 = .ok (.aload_n 0, 1) := by decide +kernel
theorem dX10_view_28 : decode cX10_view 28 = .ok (.iload_n 1, 1) := by decide +kernel
theorem dX10_view_29 : decode cX10_view 29 = .ok (.putfield 242, 3) := by decide +kernel
theorem dX10_view_32 : decode cX10_view 32 = .ok (.aload_n 0, 1) := by decide +kernel
theorem dX10_view_33 : decode cX10_view 33 = .ok (.iload_n 2, 1) := by decide +kernel
theorem dX10_view_34 : decode cX10_view 34 = .ok (.putfield 137, 3) := by decide +kernel
theorem dX10_view_37 : decode cX10_view 37 = .ok (.aload_n 0, 1) := by decide +kernel
theorem dX10_view_38 : decode cX10_view 38 = .ok (.iconst 0, 1) := by decide +kernel
theorem dX10_view_39 : decode cX10_view 39 = .ok (.putfield 174, 3) := by decide +kernel
theorem dX10_view_42 : decode cX10_view 42 = .ok (.aload_n 0, 1) := by decide +kernel
theorem dX10_view_43 : decode cX10_view 43 = .ok (.invokevirtual 237, 3) := by decide +kernel
theorem dX10_view_46 : decode cX10_view 46 = .ok (.aload_n 0, 1) := by decide +kernel
theorem dX10_view_47 : decode cX10_view 47 = .ok (.getfield 272, 3) := by decide +kernel
theorem dX10_view_50 : decode cX10_view 50 = .ok (.ireturn, 1) := by decide +kernel
theorem dX10_noAsking_0 : decode cX10_noAsking 0 = .ok (.aload_n 0, 1) := by decide +kernel
theorem dX10_noAsking_1 : decode cX10_noAsking 1 = .ok (.iload_n 1, 1) := by decide +kernel
theorem dX10_noAsking_2 : decode cX10_noAsking 2 = .ok (.invokevirtual 234, 3) := by decide +kernel
theorem dX10_noAsking_5 : decode cX10_noAsking 5 = .ok (.ifCond .eq 5, 3) := by decide +kernel
theorem dX10_noAsking_8 : decode cX10_noAsking 8 = .ok (.iconst (-1), 1) := by decide +kernel
theorem dX10_noAsking_9 : decode cX10_noAsking 9 = .ok (.ireturn, 1) := by decide +kernel
theorem dX10_noAsking_10 : decode cX10_noAsking 10 = .ok (.aload_n 0, 1) := by decide +kernel
theorem dX10_noAsking_11 : decode cX10_noAsking 11 = .ok (.invokevirtual 237, 3) := by decide +kernel
theorem dX10_noAsking_14 : decode cX10_noAsking 14 = .ok (.aload_n 0, 1) := by decide +kernel
theorem dX10_noAsking_15 : decode cX10_noAsking 15 = .ok (.getfield 49, 3) := by decide +kernel
theorem dX10_noAsking_18 : decode cX10_noAsking 18 = .ok (.aload_n 0, 1) := by decide +kernel
theorem dX10_noAsking_19 : decode cX10_noAsking 19 = .ok (.getfield 28, 3) := by decide +kernel
theorem dX10_noAsking_22 : decode cX10_noAsking 22 = .ok (.iload_n 1, 1) := by decide +kernel
theorem dX10_noAsking_23 : decode cX10_noAsking 23 = .ok (.iaload, 1) := by decide +kernel
theorem dX10_noAsking_24 : decode cX10_noAsking 24 = .ok (.iaload, 1) := by decide +kernel
theorem dX10_noAsking_25 : decode cX10_noAsking 25 = .ok (.ifCond .lt 16, 3) := by decide +kernel
theorem dX10_noAsking_28 : decode cX10_noAsking 28 = .ok (.iload_n 2, 1) := by decide +kernel
theorem dX10_noAsking_29 : decode cX10_noAsking 29 = .ok (.ifCond .eq 17, 3) := by decide +kernel
theorem dX10_noAsking_32 : decode cX10_noAsking 32 = .ok (.aload_n 0, 1) := by decide +kernel
theorem dX10_noAsking_33 : decode cX10_noAsking 33 = .ok (.getfield 40, 3) := by decide +kernel
theorem dX10_noAsking_36 : decode cX10_noAsking 36 = .ok (.iload_n 1, 1) := by decide +kernel
theorem dX10_noAsking_37 : decode cX10_noAsking 37 = .ok (.iaload, 1) := by decide +kernel
theorem dX10_noAsking_38 : decode cX10_noAsking 38 = .ok (.ifCond .ne 8, 3) := by decide +kernel
theorem dX10_noAsking_41 : decode cX10_noAsking 41 = .ok (.bipush (-3), 2) := by decide +kernel
theorem dX10_noAsking_43 : decode cX10_noAsking 43 = .ok (.goto 4, 3) := by decide +kernel
theorem dX10_noAsking_46 : decode cX10_noAsking 46 = .ok (.iconst 0, 1) := by decide +kernel
theorem dX10_noAsking_47 : decode cX10_noAsking 47 = .ok (.ireturn, 1) := by decide +kernel
theorem dX10_guess_0 : decode cX10_guess 0 = .ok (.aload_n 0, 1) := by decide +kernel
theorem dX10_guess_1 : decode cX10_guess 1 = .ok (.iload_n 1, 1) := by decide +kernel
theorem dX10_guess_2 : decode cX10_guess 2 = .ok (.iconst 0, 1) := by decide +kernel
theorem dX10_guess_3 : decode cX10_guess 3 = .ok (.invokevirtual 287, 3) := by decide +kernel
theorem dX10_guess_6 : decode cX10_guess 6 = .ok (.istore_n 2, 1) := by decide +kernel
theorem dX10_guess_7 : decode cX10_guess 7 = .ok (.iload_n 2, 1) := by decide +kernel
theorem dX10_guess_8 : decode cX10_guess 8 = .ok (.ifCond .ge 7, 3) := by decide +kernel
theorem dX10_guess_11 : decode cX10_guess 11 = .ok (.iload_n 2, 1) := by decide +kernel
theorem dX10_guess_12 : decode cX10_guess 12 = .ok (.goto 8, 3) := by decide +kernel
theorem dX10_guess_15 : decode cX10_guess 15 = .ok (.aload_n 0, 1) := by decide +kernel
theorem dX10_guess_16 : decode cX10_guess 16 = .ok (.iload_n 1, 1) := by decide +kernel
theorem dX10_guess_17 : decode cX10_guess 17 = .ok (.invokevirtual 254, 3) := by decide +kernel
theorem dX10_guess_20 : decode cX10_guess 20 = .ok (.ireturn, 1) := by decide +kernel
theorem dX10_mended_0 : decode cX10_mended 0 = .ok (.aload_n 0, 1) := by decide +kernel
theorem dX10_mended_1 : decode cX10_mended 1 = .ok (.iload_n 1, 1) := by decide +kernel
theorem dX10_mended_2 : decode cX10_mended 2 = .ok (.iconst 1, 1) := by decide +kernel
theorem dX10_mended_3 : decode cX10_mended 3 = .ok (.invokevirtual 287, 3) := by decide +kernel
theorem dX10_mended_6 : decode cX10_mended 6 = .ok (.istore_n 2, 1) := by decide +kernel
theorem dX10_mended_7 : decode cX10_mended 7 = .ok (.iload_n 2, 1) := by decide +kernel
theorem dX10_mended_8 : decode cX10_mended 8 = .ok (.ifCond .ge 7, 3) := by decide +kernel
theorem dX10_mended_11 : decode cX10_mended 11 = .ok (.iload_n 2, 1) := by decide +kernel
theorem dX10_mended_12 : decode cX10_mended 12 = .ok (.goto 8, 3) := by decide +kernel
theorem dX10_mended_15 : decode cX10_mended 15 = .ok (.aload_n 0, 1) := by decide +kernel
theorem dX10_mended_16 : decode cX10_mended 16 = .ok (.iload_n 1, 1) := by decide +kernel
theorem dX10_mended_17 : decode cX10_mended 17 = .ok (.invokevirtual 278, 3) := by decide +kernel
theorem dX10_mended_20 : decode cX10_mended 20 = .ok (.ireturn, 1) := by decide +kernel
theorem dX10_level_0 : decode cX10_level 0 = .ok (.aload_n 0, 1) := by decide +kernel
theorem dX10_level_1 : decode cX10_level 1 = .ok (.iload_n 1, 1) := by decide +kernel
theorem dX10_level_2 : decode cX10_level 2 = .ok (.iconst 1, 1) := by decide +kernel
theorem dX10_level_3 : decode cX10_level 3 = .ok (.invokevirtual 287, 3) := by decide +kernel
theorem dX10_level_6 : decode cX10_level 6 = .ok (.istore_n 2, 1) := by decide +kernel
theorem dX10_level_7 : decode cX10_level 7 = .ok (.iload_n 2, 1) := by decide +kernel
theorem dX10_level_8 : decode cX10_level 8 = .ok (.ifCond .ge 7, 3) := by decide +kernel
theorem dX10_level_11 : decode cX10_level 11 = .ok (.iload_n 2, 1) := by decide +kernel
theorem dX10_level_12 : decode cX10_level 12 = .ok (.goto 18, 3) := by decide +kernel
theorem dX10_level_15 : decode cX10_level 15 = .ok (.aload_n 0, 1) := by decide +kernel
theorem dX10_level_16 : decode cX10_level 16 = .ok (.aload_n 0, 1) := by decide +kernel
theorem dX10_level_17 : decode cX10_level 17 = .ok (.getfield 28, 3) := by decide +kernel
theorem dX10_level_20 : decode cX10_level 20 = .ok (.iload_n 1, 1) := by decide +kernel
theorem dX10_level_21 : decode cX10_level 21 = .ok (.iaload, 1) := by decide +kernel
theorem dX10_level_22 : decode cX10_level 22 = .ok (.aload_n 0, 1) := by decide +kernel
theorem dX10_level_23 : decode cX10_level 23 = .ok (.iload_n 1, 1) := by decide +kernel
theorem dX10_level_24 : decode cX10_level 24 = .ok (.invokevirtual 278, 3) := by decide +kernel
theorem dX10_level_27 : decode cX10_level 27 = .ok (.invokevirtual 251, 3) := by decide +kernel
theorem dX10_level_30 : decode cX10_level 30 = .ok (.ireturn, 1) := by decide +kernel
theorem dX10_steep_0 : decode cX10_steep 0 = .ok (.iload_n 1, 1) := by decide +kernel
theorem dX10_steep_1 : decode cX10_steep 1 = .ok (.i2l, 1) := by decide +kernel
theorem dX10_steep_2 : decode cX10_steep 2 = .ok (.lconst 1, 1) := by decide +kernel
theorem dX10_steep_3 : decode cX10_steep 3 = .ok (.ldc2_w 291, 3) := by decide +kernel
theorem dX10_steep_6 : decode cX10_steep 6 = .ok (.invokestatic 156, 3) := by decide +kernel
theorem dX10_steep_9 : decode cX10_steep 9 = .ok (.ifCond .ne 6, 3) := by decide +kernel
theorem dX10_steep_12 : decode cX10_steep 12 = .ok (.bipush (-2), 2) := by decide +kernel
theorem dX10_steep_14 : decode cX10_steep 14 = .ok (.ireturn, 1) := by decide +kernel
theorem dX10_steep_15 : decode cX10_steep 15 = .ok (.aload_n 0, 1) := by decide +kernel
theorem dX10_steep_16 : decode cX10_steep 16 = .ok (.getfield 141, 3) := by decide +kernel
theorem dX10_steep_19 : decode cX10_steep 19 = .ok (.istore_n 2, 1) := by decide +kernel
theorem dX10_steep_20 : decode cX10_steep 20 = .ok (.aload_n 0, 1) := by decide +kernel
theorem dX10_steep_21 : decode cX10_steep 21 = .ok (.iload_n 1, 1) := by decide +kernel
theorem dX10_steep_22 : decode cX10_steep 22 = .ok (.putfield 141, 3) := by decide +kernel
theorem dX10_steep_25 : decode cX10_steep 25 = .ok (.aload_n 0, 1) := by decide +kernel
theorem dX10_steep_26 : decode cX10_steep 26 = .ok (.iconst 0, 1) := by decide +kernel
theorem dX10_steep_27 : decode cX10_steep 27 = .ok (.putfield 174, 3) := by decide +kernel
theorem dX10_steep_30 : decode cX10_steep 30 = .ok (.iload_n 2, 1) := by decide +kernel
theorem dX10_steep_31 : decode cX10_steep 31 = .ok (.ireturn, 1) := by decide +kernel
theorem dX10_quarrel_0 : decode cX10_quarrel 0 = .ok (.aload_n 0, 1) := by decide +kernel
theorem dX10_quarrel_1 : decode cX10_quarrel 1 = .ok (.iload_n 1, 1) := by decide +kernel
theorem dX10_quarrel_2 : decode cX10_quarrel 2 = .ok (.invokevirtual 186, 3) := by decide +kernel
theorem dX10_quarrel_5 : decode cX10_quarrel 5 = .ok (.ifCond .ne 11, 3) := by decide +kernel
theorem dX10_quarrel_8 : decode cX10_quarrel 8 = .ok (.aload_n 0, 1) := by decide +kernel
theorem dX10_quarrel_9 : decode cX10_quarrel 9 = .ok (.iload_n 2, 1) := by decide +kernel
theorem dX10_quarrel_10 : decode cX10_quarrel 10 = .ok (.invokevirtual 186, 3) := by decide +kernel
theorem dX10_quarrel_13 : decode cX10_quarrel 13 = .ok (.ifCond .eq 5, 3) := by decide +kernel
theorem dX10_quarrel_16 : decode cX10_quarrel 16 = .ok (.iconst (-1), 1) := by decide +kernel
theorem dX10_quarrel_17 : decode cX10_quarrel 17 = .ok (.ireturn, 1) := by decide +kernel
theorem dX10_quarrel_18 : decode cX10_quarrel 18 = .ok (.aload_n 0, 1) := by decide +kernel
theorem dX10_quarrel_19 : decode cX10_quarrel 19 = .ok (.invokevirtual 237, 3) := by decide +kernel
theorem dX10_quarrel_22 : decode cX10_quarrel 22 = .ok (.iload_n 1, 1) := by decide +kernel
theorem dX10_quarrel_23 : decode cX10_quarrel 23 = .ok (.iload_n 2, 1) := by decide +kernel
theorem dX10_quarrel_24 : decode cX10_quarrel 24 = .ok (.if_icmp .eq 21, 3) := by decide +kernel
theorem dX10_quarrel_27 : decode cX10_quarrel 27 = .ok (.aload_n 0, 1) := by decide +kernel
theorem dX10_quarrel_28 : decode cX10_quarrel 28 = .ok (.getfield 46, 3) := by decide +kernel
theorem dX10_quarrel_31 : decode cX10_quarrel 31 = .ok (.iload_n 1, 1) := by decide +kernel
theorem dX10_quarrel_32 : decode cX10_quarrel 32 = .ok (.iaload, 1) := by decide +kernel
theorem dX10_quarrel_33 : decode cX10_quarrel 33 = .ok (.ifCond .lt 12, 3) := by decide +kernel
theorem dX10_quarrel_36 : decode cX10_quarrel 36 = .ok (.aload_n 0, 1) := by decide +kernel
theorem dX10_quarrel_37 : decode cX10_quarrel 37 = .ok (.getfield 46, 3) := by decide +kernel
theorem dX10_quarrel_40 : decode cX10_quarrel 40 = .ok (.iload_n 2, 1) := by decide +kernel
theorem dX10_quarrel_41 : decode cX10_quarrel 41 = .ok (.iaload, 1) := by decide +kernel
theorem dX10_quarrel_42 : decode cX10_quarrel 42 = .ok (.ifCond .ge 6, 3) := by decide +kernel
theorem dX10_quarrel_45 : decode cX10_quarrel 45 = .ok (.bipush (-3), 2) := by decide +kernel
theorem dX10_quarrel_47 : decode cX10_quarrel 47 = .ok (.ireturn, 1) := by decide +kernel
theorem dX10_quarrel_48 : decode cX10_quarrel 48 = .ok (.aload_n 0, 1) := by decide +kernel
theorem dX10_quarrel_49 : decode cX10_quarrel 49 = .ok (.iload_n 1, 1) := by decide +kernel
theorem dX10_quarrel_50 : decode cX10_quarrel 50 = .ok (.iload_n 2, 1) := by decide +kernel
theorem dX10_quarrel_51 : decode cX10_quarrel 51 = .ok (.invokevirtual 260, 3) := by decide +kernel
theorem dX10_quarrel_54 : decode cX10_quarrel 54 = .ok (.ifCond .eq 7, 3) := by decide +kernel
theorem dX10_quarrel_57 : decode cX10_quarrel 57 = .ok (.iconst 1, 1) := by decide +kernel
theorem dX10_quarrel_58 : decode cX10_quarrel 58 = .ok (.goto 4, 3) := by decide +kernel
theorem dX10_quarrel_61 : decode cX10_quarrel 61 = .ok (.iconst 0, 1) := by decide +kernel
theorem dX10_quarrel_62 : decode cX10_quarrel 62 = .ok (.ireturn, 1) := by decide +kernel
theorem dX10_doubted_0 : decode cX10_doubted 0 = .ok (.aload_n 0, 1) := by decide +kernel
theorem dX10_doubted_1 : decode cX10_doubted 1 = .ok (.invokevirtual 237, 3) := by decide +kernel
theorem dX10_doubted_4 : decode cX10_doubted 4 = .ok (.aload_n 0, 1) := by decide +kernel
theorem dX10_doubted_5 : decode cX10_doubted 5 = .ok (.getfield 263, 3) := by decide +kernel
theorem dX10_doubted_8 : decode cX10_doubted 8 = .ok (.ireturn, 1) := by decide +kernel
theorem dX10_value_0 : decode cX10_value 0 = .ok (.iload_n 1, 1) := by decide +kernel
theorem dX10_value_1 : decode cX10_value 1 = .ok (.iload_n 2, 1) := by decide +kernel
theorem dX10_value_2 : decode cX10_value 2 = .ok (.invokestatic 164, 3) := by decide +kernel
theorem dX10_value_5 : decode cX10_value 5 = .ok (.ifCond .ne 5, 3) := by decide +kernel
theorem dX10_value_8 : decode cX10_value 8 = .ok (.iconst (-1), 1) := by decide +kernel
theorem dX10_value_9 : decode cX10_value 9 = .ok (.ireturn, 1) := by decide +kernel
theorem dX10_value_10 : decode cX10_value 10 = .ok (.aload_n 0, 1) := by decide +kernel
theorem dX10_value_11 : decode cX10_value 11 = .ok (.invokevirtual 237, 3) := by decide +kernel
theorem dX10_value_14 : decode cX10_value 14 = .ok (.aload_n 0, 1) := by decide +kernel
theorem dX10_value_15 : decode cX10_value 15 = .ok (.getfield 55, 3) := by decide +kernel
theorem dX10_value_18 : decode cX10_value 18 = .ok (.bipush 12, 2) := by decide +kernel
theorem dX10_value_20 : decode cX10_value 20 = .ok (.iload_n 2, 1) := by decide +kernel
theorem dX10_value_21 : decode cX10_value 21 = .ok (.imul, 1) := by decide +kernel
theorem dX10_value_22 : decode cX10_value 22 = .ok (.iload_n 1, 1) := by decide +kernel
theorem dX10_value_23 : decode cX10_value 23 = .ok (.iadd, 1) := by decide +kernel
theorem dX10_value_24 : decode cX10_value 24 = .ok (.iaload, 1) := by decide +kernel
theorem dX10_value_25 : decode cX10_value 25 = .ok (.ireturn, 1) := by decide +kernel
theorem dX10_isBelow_0 : decode cX10_isBelow 0 = .ok (.aload_n 0, 1) := by decide +kernel
theorem dX10_isBelow_1 : decode cX10_isBelow 1 = .ok (.getfield 55, 3) := by decide +kernel
theorem dX10_isBelow_4 : decode cX10_isBelow 4 = .ok (.iload_n 1, 1) := by decide +kernel
theorem dX10_isBelow_5 : decode cX10_isBelow 5 = .ok (.iaload, 1) := by decide +kernel
theorem dX10_isBelow_6 : decode cX10_isBelow 6 = .ok (.iload_n 2, 1) := by decide +kernel
theorem dX10_isBelow_7 : decode cX10_isBelow 7 = .ok (.if_icmp .ge 7, 3) := by decide +kernel
theorem dX10_isBelow_10 : decode cX10_isBelow 10 = .ok (.iconst 1, 1) := by decide +kernel
theorem dX10_isBelow_11 : decode cX10_isBelow 11 = .ok (.goto 4, 3) := by decide +kernel
theorem dX10_isBelow_14 : decode cX10_isBelow 14 = .ok (.iconst 0, 1) := by decide +kernel
theorem dX10_isBelow_15 : decode cX10_isBelow 15 = .ok (.ireturn, 1) := by decide +kernel
theorem dX10_lengthOf_0 : decode cX10_lengthOf 0 = .ok (.iconst 0, 1) := by decide +kernel
theorem dX10_lengthOf_1 : decode cX10_lengthOf 1 = .ok (.istore_n 2, 1) := by decide +kernel
theorem dX10_lengthOf_2 : decode cX10_lengthOf 2 = .ok (.iconst 0, 1) := by decide +kernel
theorem dX10_lengthOf_3 : decode cX10_lengthOf 3 = .ok (.istore_n 3, 1) := by decide +kernel
theorem dX10_lengthOf_4 : decode cX10_lengthOf 4 = .ok (.iload_n 3, 1) := by decide +kernel
theorem dX10_lengthOf_5 : decode cX10_lengthOf 5 = .ok (.sipush 144, 3) := by decide +kernel
theorem dX10_lengthOf_8 : decode cX10_lengthOf 8 = .ok (.if_icmp .ge 76, 3) := by decide +kernel
theorem dX10_lengthOf_11 : decode cX10_lengthOf 11 = .ok (.iload_n 2, 1) := by decide +kernel
theorem dX10_lengthOf_12 : decode cX10_lengthOf 12 = .ok (.iload_n 3, 1) := by decide +kernel
theorem dX10_lengthOf_13 : decode cX10_lengthOf 13 = .ok (.bipush 12, 2) := by decide +kernel
theorem dX10_lengthOf_15 : decode cX10_lengthOf 15 = .ok (.irem, 1) := by decide +kernel
theorem dX10_lengthOf_16 : decode cX10_lengthOf 16 = .ok (.bipush 11, 2) := by decide +kernel
theorem dX10_lengthOf_18 : decode cX10_lengthOf 18 = .ok (.if_icmp .ge 24, 3) := by decide +kernel
theorem dX10_lengthOf_21 : decode cX10_lengthOf 21 = .ok (.aload_n 0, 1) := by decide +kernel
theorem dX10_lengthOf_22 : decode cX10_lengthOf 22 = .ok (.iload_n 3, 1) := by decide +kernel
theorem dX10_lengthOf_23 : decode cX10_lengthOf 23 = .ok (.iload_n 1, 1) := by decide +kernel
theorem dX10_lengthOf_24 : decode cX10_lengthOf 24 = .ok (.invokevirtual 293, 3) := by decide +kernel
theorem dX10_lengthOf_27 : decode cX10_lengthOf 27 = .ok (.aload_n 0, 1) := by decide +kernel
theorem dX10_lengthOf_28 : decode cX10_lengthOf 28 = .ok (.iload_n 3, 1) := by decide +kernel
theorem dX10_lengthOf_29 : decode cX10_lengthOf 29 = .ok (.iconst 1, 1) := by decide +kernel
theorem dX10_lengthOf_30 : decode cX10_lengthOf 30 = .ok (.iadd, 1) := by decide +kernel
theorem dX10_lengthOf_31 : decode cX10_lengthOf 31 = .ok (.iload_n 1, 1) := by decide +kernel
theorem dX10_lengthOf_32 : decode cX10_lengthOf 32 = .ok (.invokevirtual 293, 3) := by decide +kernel
theorem dX10_lengthOf_35 : decode cX10_lengthOf 35 = .ok (.if_icmp .eq 7, 3) := by decide +kernel
theorem dX10_lengthOf_38 : decode cX10_lengthOf 38 = .ok (.iconst 1, 1) := by decide +kernel
theorem dX10_lengthOf_39 : decode cX10_lengthOf 39 = .ok (.goto 4, 3) := by decide +kernel
theorem dX10_lengthOf_42 : decode cX10_lengthOf 42 = .ok (.iconst 0, 1) := by decide +kernel
theorem dX10_lengthOf_43 : decode cX10_lengthOf 43 = .ok (.iadd, 1) := by decide +kernel
theorem dX10_lengthOf_44 : decode cX10_lengthOf 44 = .ok (.istore_n 2, 1) := by decide +kernel
theorem dX10_lengthOf_45 : decode cX10_lengthOf 45 = .ok (.iload_n 2, 1) := by decide +kernel
theorem dX10_lengthOf_46 : decode cX10_lengthOf 46 = .ok (.iload_n 3, 1) := by decide +kernel
theorem dX10_lengthOf_47 : decode cX10_lengthOf 47 = .ok (.sipush 132, 3) := by decide +kernel
theorem dX10_lengthOf_50 : decode cX10_lengthOf 50 = .ok (.if_icmp .ge 25, 3) := by decide +kernel
theorem dX10_lengthOf_53 : decode cX10_lengthOf 53 = .ok (.aload_n 0, 1) := by decide +kernel
theorem dX10_lengthOf_54 : decode cX10_lengthOf 54 = .ok (.iload_n 3, 1) := by decide +kernel
theorem dX10_lengthOf_55 : decode cX10_lengthOf 55 = .ok (.iload_n 1, 1) := by decide +kernel
theorem dX10_lengthOf_56 : decode cX10_lengthOf 56 = .ok (.invokevirtual 293, 3) := by decide +kernel
theorem dX10_lengthOf_59 : decode cX10_lengthOf 59 = .ok (.aload_n 0, 1) := by decide +kernel
theorem dX10_lengthOf_60 : decode cX10_lengthOf 60 = .ok (.iload_n 3, 1) := by decide +kernel
theorem dX10_lengthOf_61 : decode cX10_lengthOf 61 = .ok (.bipush 12, 2) := by decide +kernel
theorem dX10_lengthOf_63 : decode cX10_lengthOf 63 = .ok (.iadd, 1) := by decide +kernel
theorem dX10_lengthOf_64 : decode cX10_lengthOf 64 = .ok (.iload_n 1, 1) := by decide +kernel
theorem dX10_lengthOf_65 : decode cX10_lengthOf 65 = .ok (.invokevirtual 293, 3) := by decide +kernel
theorem dX10_lengthOf_68 : decode cX10_lengthOf 68 = .ok (.if_icmp .eq 7, 3) := by decide +kernel
theorem dX10_lengthOf_71 : decode cX10_lengthOf 71 = .ok (.iconst 1, 1) := by decide +kernel
theorem dX10_lengthOf_72 : decode cX10_lengthOf 72 = .ok (.goto 4, 3) := by decide +kernel
theorem dX10_lengthOf_75 : decode cX10_lengthOf 75 = .ok (.iconst 0, 1) := by decide +kernel
theorem dX10_lengthOf_76 : decode cX10_lengthOf 76 = .ok (.iadd, 1) := by decide +kernel
theorem dX10_lengthOf_77 : decode cX10_lengthOf 77 = .ok (.istore_n 2, 1) := by decide +kernel
theorem dX10_lengthOf_78 : decode cX10_lengthOf 78 = .ok (.iinc 3 1, 3) := by decide +kernel
theorem dX10_lengthOf_81 : decode cX10_lengthOf 81 = .ok (.goto (-77), 3) := by decide +kernel
theorem dX10_lengthOf_84 : decode cX10_lengthOf 84 = .ok (.iload_n 2, 1) := by decide +kernel
theorem dX10_lengthOf_85 : decode cX10_lengthOf 85 = .ok (.ireturn, 1) := by decide +kernel
theorem dX10_mayGo_0 : decode cX10_mayGo 0 = .ok (.aload_n 0, 1) := by decide +kernel
theorem dX10_mayGo_1 : decode cX10_mayGo 1 = .ok (.getfield 64, 3) := by decide +kernel
theorem dX10_mayGo_4 : decode cX10_mayGo 4 = .ok (.iload_n 1, 1) := by decide +kernel
theorem dX10_mayGo_5 : decode cX10_mayGo 5 = .ok (.baload, 1) := by decide +kernel
theorem dX10_mayGo_6 : decode cX10_mayGo 6 = .ok (.ifCond .ne 17, 3) := by decide +kernel
theorem dX10_mayGo_9 : decode cX10_mayGo 9 = .ok (.aload_n 0, 1) := by decide +kernel
theorem dX10_mayGo_10 : decode cX10_mayGo 10 = .ok (.iload_n 1, 1) := by decide +kernel
theorem dX10_mayGo_11 : decode cX10_mayGo 11 = .ok (.iload_n 3, 1) := by decide +kernel
theorem dX10_mayGo_12 : decode cX10_mayGo 12 = .ok (.invokevirtual 293, 3) := by decide +kernel
theorem dX10_mayGo_15 : decode cX10_mayGo 15 = .ok (.iload_n 2, 1) := by decide +kernel
theorem dX10_mayGo_16 : decode cX10_mayGo 16 = .ok (.if_icmp .ne 7, 3) := by decide +kernel
theorem dX10_mayGo_19 : decode cX10_mayGo 19 = .ok (.iconst 1, 1) := by decide +kernel
theorem dX10_mayGo_20 : decode cX10_mayGo 20 = .ok (.goto 4, 3) := by decide +kernel
theorem dX10_mayGo_23 : decode cX10_mayGo 23 = .ok (.iconst 0, 1) := by decide +kernel
theorem dX10_mayGo_24 : decode cX10_mayGo 24 = .ok (.ireturn, 1) := by decide +kernel
theorem dX10_fill_0 : decode cX10_fill 0 = .ok (.iconst 1, 1) := by decide +kernel
theorem dX10_fill_1 : decode cX10_fill 1 = .ok (.istore 4, 2) := by decide +kernel
theorem dX10_fill_3 : decode cX10_fill 3 = .ok (.aload_n 0, 1) := by decide +kernel
theorem dX10_fill_4 : decode cX10_fill 4 = .ok (.getfield 61, 3) := by decide +kernel
theorem dX10_fill_7 : decode cX10_fill 7 = .ok (.iconst 0, 1) := by decide +kernel
theorem dX10_fill_8 : decode cX10_fill 8 = .ok (.iload_n 1, 1) := by decide +kernel
theorem dX10_fill_9 : decode cX10_fill 9 = .ok (.iastore, 1) := by decide +kernel
theorem dX10_fill_10 : decode cX10_fill 10 = .ok (.aload_n 0, 1) := by decide +kernel
theorem dX10_fill_11 : decode cX10_fill 11 = .ok (.getfield 64, 3) := by decide +kernel
theorem dX10_fill_14 : decode cX10_fill 14 = .ok (.iload_n 1, 1) := by decide +kernel
theorem dX10_fill_15 : decode cX10_fill 15 = .ok (.iconst 1, 1) := by decide +kernel
theorem dX10_fill_16 : decode cX10_fill 16 = .ok (.bastore, 1) := by decide +kernel
theorem dX10_fill_17 : decode cX10_fill 17 = .ok (.iload 4, 2) := by decide +kernel
theorem dX10_fill_19 : decode cX10_fill 19 = .ok (.ifCond .le 187, 3) := by decide +kernel
theorem dX10_fill_22 : decode cX10_fill 22 = .ok (.iinc 4 (-1), 3) := by decide +kernel
theorem dX10_fill_25 : decode cX10_fill 25 = .ok (.aload_n 0, 1) := by decide +kernel
theorem dX10_fill_26 : decode cX10_fill 26 = .ok (.getfield 61, 3) := by decide +kernel
theorem dX10_fill_29 : decode cX10_fill 29 = .ok (.iload 4, 2) := by decide +kernel
theorem dX10_fill_31 : decode cX10_fill 31 = .ok (.iaload, 1) := by decide +kernel
theorem dX10_fill_32 : decode cX10_fill 32 = .ok (.istore 5, 2) := by decide +kernel
theorem dX10_fill_34 : decode cX10_fill 34 = .ok (.iconst 0, 1) := by decide +kernel
theorem dX10_fill_35 : decode cX10_fill 35 = .ok (.istore 6, 2) := by decide +kernel
theorem dX10_fill_37 : decode cX10_fill 37 = .ok (.iload 6, 2) := by decide +kernel
theorem dX10_fill_39 : decode cX10_fill 39 = .ok (.iconst 4, 1) := by decide +kernel
theorem dX10_fill_40 : decode cX10_fill 40 = .ok (.if_icmp .ge 163, 3) := by decide +kernel
theorem dX10_fill_43 : decode cX10_fill 43 = .ok (.iload 6, 2) := by decide +kernel
theorem dX10_fill_45 : decode cX10_fill 45 = .ok (.ifCond .ne 21, 3) := by decide +kernel
theorem dX10_fill_48 : decode cX10_fill 48 = .ok (.iload 5, 2) := by decide +kernel
theorem dX10_fill_50 : decode cX10_fill 50 = .ok (.bipush 12, 2) := by decide +kernel
theorem dX10_fill_52 : decode cX10_fill 52 = .ok (.irem, 1) := by decide +kernel
theorem dX10_fill_53 : decode cX10_fill 53 = .ok (.bipush 11, 2) := by decide +kernel
theorem dX10_fill_55 : decode cX10_fill 55 = .ok (.if_icmp .ge 7, 3) := by decide +kernel
theorem dX10_fill_58 : decode cX10_fill 58 = .ok (.iconst 1, 1) := by decide +kernel
theorem dX10_fill_59 : decode cX10_fill 59 = .ok (.goto 63, 3) := by decide +kernel
theorem dX10_fill_62 : decode cX10_fill 62 = .ok (.iconst 0, 1) := by decide +kernel
theorem dX10_fill_63 : decode cX10_fill 63 = .ok (.goto 59, 3) := by decide +kernel
theorem dX10_fill_66 : decode cX10_fill 66 = .ok (.iload 6, 2) := by decide +kernel
theorem dX10_fill_68 : decode cX10_fill 68 = .ok (.iconst 1, 1) := by decide +kernel
theorem dX10_fill_69 : decode cX10_fill 69 = .ok (.if_icmp .ne 19, 3) := by decide +kernel
theorem dX10_fill_72 : decode cX10_fill 72 = .ok (.iload 5, 2) := by decide +kernel
theorem dX10_fill_74 : decode cX10_fill 74 = .ok (.bipush 12, 2) := by decide +kernel
theorem dX10_fill_76 : decode cX10_fill 76 = .ok (.irem, 1) := by decide +kernel
theorem dX10_fill_77 : decode cX10_fill 77 = .ok (.ifCond .le 7, 3) := by decide +kernel
theorem dX10_fill_80 : decode cX10_fill 80 = .ok (.iconst 1, 1) := by decide +kernel
theorem dX10_fill_81 : decode cX10_fill 81 = .ok (.goto 41, 3) := by decide +kernel
theorem dX10_fill_84 : decode cX10_fill 84 = .ok (.iconst 0, 1) := by decide +kernel
theorem dX10_fill_85 : decode cX10_fill 85 = .ok (.goto 37, 3) := by decide +kernel
theorem dX10_fill_88 : decode cX10_fill 88 = .ok (.iload 6, 2) := by decide +kernel
theorem dX10_fill_90 : decode cX10_fill 90 = .ok (.iconst 2, 1) := by decide +kernel
theorem dX10_fill_91 : decode cX10_fill 91 = .ok (.if_icmp .ne 19, 3) := by decide +kernel
theorem dX10_fill_94 : decode cX10_fill 94 = .ok (.iload 5, 2) := by decide +kernel
theorem dX10_fill_96 : decode cX10_fill 96 = .ok (.sipush 132, 3) := by decide +kernel
theorem dX10_fill_99 : decode cX10_fill 99 = .ok (.if_icmp .ge 7, 3) := by decide +kernel
theorem dX10_fill_102 : decode cX10_fill 102 = .ok (.iconst 1, 1) := by decide +kernel
theorem dX10_fill_103 : decode cX10_fill 103 = .ok (.goto 19, 3) := by decide +kernel
theorem dX10_fill_106 : decode cX10_fill 106 = .ok (.iconst 0, 1) := by decide +kernel
theorem dX10_fill_107 : decode cX10_fill 107 = .ok (.goto 15, 3) := by decide +kernel
theorem dX10_fill_110 : decode cX10_fill 110 = .ok (.iload 5, 2) := by decide +kernel
theorem dX10_fill_112 : decode cX10_fill 112 = .ok (.bipush 11, 2) := by decide +kernel
theorem dX10_fill_114 : decode cX10_fill 114 = .ok (.if_icmp .le 7, 3) := by decide +kernel
theorem dX10_fill_117 : decode cX10_fill 117 = .ok (.iconst 1, 1) := by decide +kernel
theorem dX10_fill_118 : decode cX10_fill 118 = .ok (.goto 4, 3) := by decide +kernel
theorem dX10_fill_121 : decode cX10_fill 121 = .ok (.iconst 0, 1) := by decide +kernel
theorem dX10_fill_122 : decode cX10_fill 122 = .ok (.istore 7, 2) := by decide +kernel
theorem dX10_fill_124 : decode cX10_fill 124 = .ok (.iload 5, 2) := by decide +kernel
theorem dX10_fill_126 : decode cX10_fill 126 = .ok (.iload 6, 2) := by decide +kernel
theorem dX10_fill_128 : decode cX10_fill 128 = .ok (.ifCond .ne 7, 3) := by decide +kernel
theorem dX10_fill_131 : decode cX10_fill 131 = .ok (.iconst 1, 1) := by decide +kernel
theorem dX10_fill_132 : decode cX10_fill 132 = .ok (.goto 26, 3) := by decide +kernel
theorem dX10_fill_135 : decode cX10_fill 135 = .ok (.iload 6, 2) := by decide +kernel
theorem dX10_fill_137 : decode cX10_fill 137 = .ok (.iconst 1, 1) := by decide +kernel
theorem dX10_fill_138 : decode cX10_fill 138 = .ok (.if_icmp .ne 7, 3) := by decide +kernel
theorem dX10_fill_141 : decode cX10_fill 141 = .ok (.iconst (-1), 1) := by decide +kernel
theorem dX10_fill_142 : decode cX10_fill 142 = .ok (.goto 16, 3) := by decide +kernel
theorem dX10_fill_145 : decode cX10_fill 145 = .ok (.iload 6, 2) := by decide +kernel
theorem dX10_fill_147 : decode cX10_fill 147 = .ok (.iconst 2, 1) := by decide +kernel
theorem dX10_fill_148 : decode cX10_fill 148 = .ok (.if_icmp .ne 8, 3) := by decide +kernel
theorem dX10_fill_151 : decode cX10_fill 151 = .ok (.bipush 12, 2) := by decide +kernel
theorem dX10_fill_153 : decode cX10_fill 153 = .ok (.goto 5, 3) := by decide +kernel
theorem dX10_fill_156 : decode cX10_fill 156 = .ok (.bipush (-12), 2) := by decide +kernel
theorem dX10_fill_158 : decode cX10_fill 158 = .ok (.iadd, 1) := by decide +kernel
theorem dX10_fill_159 : decode cX10_fill 159 = .ok (.istore 8, 2) := by decide +kernel
theorem dX10_fill_161 : decode cX10_fill 161 = .ok (.iload 7, 2) := by decide +kernel
theorem dX10_fill_163 : decode cX10_fill 163 = .ok (.ifCond .eq 34, 3) := by decide +kernel
theorem dX10_fill_166 : decode cX10_fill 166 = .ok (.aload_n 0, 1) := by decide +kernel
theorem dX10_fill_167 : decode cX10_fill 167 = .ok (.iload 8, 2) := by decide +kernel
theorem dX10_fill_169 : decode cX10_fill 169 = .ok (.iload_n 2, 1) := by decide +kernel
theorem dX10_fill_170 : decode cX10_fill 170 = .ok (.iload_n 3, 1) := by decide +kernel
theorem dX10_fill_171 : decode cX10_fill 171 = .ok (.invokevirtual 296, 3) := by decide +kernel
theorem dX10_fill_174 : decode cX10_fill 174 = .ok (.ifCond .eq 23, 3) := by decide +kernel
theorem dX10_fill_177 : decode cX10_fill 177 = .ok (.aload_n 0, 1) := by decide +kernel
theorem dX10_fill_178 : decode cX10_fill 178 = .ok (.getfield 64, 3) := by decide +kernel
theorem dX10_fill_181 : decode cX10_fill 181 = .ok (.iload 8, 2) := by decide +kernel
theorem dX10_fill_183 : decode cX10_fill 183 = .ok (.iconst 1, 1) := by decide +kernel
theorem dX10_fill_184 : decode cX10_fill 184 = .ok (.bastore, 1) := by decide +kernel
theorem dX10_fill_185 : decode cX10_fill 185 = .ok (.aload_n 0, 1) := by decide +kernel
theorem dX10_fill_186 : decode cX10_fill 186 = .ok (.getfield 61, 3) := by decide +kernel
theorem dX10_fill_189 : decode cX10_fill 189 = .ok (.iload 4, 2) := by decide +kernel
theorem dX10_fill_191 : decode cX10_fill 191 = .ok (.iload 8, 2) := by decide +kernel
theorem dX10_fill_193 : decode cX10_fill 193 = .ok (.iastore, 1) := by decide +kernel
theorem dX10_fill_194 : decode cX10_fill 194 = .ok (.iinc 4 1, 3) := by decide +kernel
theorem dX10_fill_197 : decode cX10_fill 197 = .ok (.iinc 6 1, 3) := by decide +kernel
theorem dX10_fill_200 : decode cX10_fill 200 = .ok (.goto (-163), 3) := by decide +kernel
theorem dX10_fill_203 : decode cX10_fill 203 = .ok (.goto (-186), 3) := by decide +kernel
theorem dX10_fill_206 : decode cX10_fill 206 = .ok (.return_, 1) := by decide +kernel
theorem dX10_piecesOf_0 : decode cX10_piecesOf 0 = .ok (.iconst 0, 1) := by decide +kernel
theorem dX10_piecesOf_1 : decode cX10_piecesOf 1 = .ok (.istore_n 3, 1) := by decide +kernel
theorem dX10_piecesOf_2 : decode cX10_piecesOf 2 = .ok (.iload_n 3, 1) := by decide +kernel
theorem dX10_piecesOf_3 : decode cX10_piecesOf 3 = .ok (.sipush 144, 3) := by decide +kernel
theorem dX10_piecesOf_6 : decode cX10_piecesOf 6 = .ok (.if_icmp .ge 16, 3) := by decide +kernel
theorem dX10_piecesOf_9 : decode cX10_piecesOf 9 = .ok (.aload_n 0, 1) := by decide +kernel
theorem dX10_piecesOf_10 : decode cX10_piecesOf 10 = .ok (.getfield 64, 3) := by decide +kernel
theorem dX10_piecesOf_13 : decode cX10_piecesOf 13 = .ok (.iload_n 3, 1) := by decide +kernel
theorem dX10_piecesOf_14 : decode cX10_piecesOf 14 = .ok (.iconst 0, 1) := by decide +kernel
theorem dX10_piecesOf_15 : decode cX10_piecesOf 15 = .ok (.bastore, 1) := by decide +kernel
theorem dX10_piecesOf_16 : decode cX10_piecesOf 16 = .ok (.iinc 3 1, 3) := by decide +kernel
theorem dX10_piecesOf_19 : decode cX10_piecesOf 19 = .ok (.goto (-17), 3) := by decide +kernel
theorem dX10_piecesOf_22 : decode cX10_piecesOf 22 = .ok (.iconst 0, 1) := by decide +kernel
theorem dX10_piecesOf_23 : decode cX10_piecesOf 23 = .ok (.istore_n 3, 1) := by decide +kernel
theorem dX10_piecesOf_24 : decode cX10_piecesOf 24 = .ok (.iconst 0, 1) := by decide +kernel
theorem dX10_piecesOf_25 : decode cX10_piecesOf 25 = .ok (.istore 4, 2) := by decide +kernel
theorem dX10_piecesOf_27 : decode cX10_piecesOf 27 = .ok (.iload 4, 2) := by decide +kernel
theorem dX10_piecesOf_29 : decode cX10_piecesOf 29 = .ok (.sipush 144, 3) := by decide +kernel
theorem dX10_piecesOf_32 : decode cX10_piecesOf 32 = .ok (.if_icmp .ge 31, 3) := by decide +kernel
theorem dX10_piecesOf_35 : decode cX10_piecesOf 35 = .ok (.aload_n 0, 1) := by decide +kernel
theorem dX10_piecesOf_36 : decode cX10_piecesOf 36 = .ok (.iload 4, 2) := by decide +kernel
theorem dX10_piecesOf_38 : decode cX10_piecesOf 38 = .ok (.iload_n 2, 1) := by decide +kernel
theorem dX10_piecesOf_39 : decode cX10_piecesOf 39 = .ok (.iload_n 1, 1) := by decide +kernel
theorem dX10_piecesOf_40 : decode cX10_piecesOf 40 = .ok (.invokevirtual 296, 3) := by decide +kernel
theorem dX10_piecesOf_43 : decode cX10_piecesOf 43 = .ok (.ifCond .eq 14, 3) := by decide +kernel
theorem dX10_piecesOf_46 : decode cX10_piecesOf 46 = .ok (.aload_n 0, 1) := by decide +kernel
theorem dX10_piecesOf_47 : decode cX10_piecesOf 47 = .ok (.iload 4, 2) := by decide +kernel
theorem dX10_piecesOf_49 : decode cX10_piecesOf 49 = .ok (.iload_n 2, 1) := by decide +kernel
theorem dX10_piecesOf_50 : decode cX10_piecesOf 50 = .ok (.iload_n 1, 1) := by decide +kernel
theorem dX10_piecesOf_51 : decode cX10_piecesOf 51 = .ok (.invokevirtual 300, 3) := by decide +kernel
theorem dX10_piecesOf_54 : decode cX10_piecesOf 54 = .ok (.iinc 3 1, 3) := by decide +kernel
theorem dX10_piecesOf_57 : decode cX10_piecesOf 57 = .ok (.iinc 4 1, 3) := by decide +kernel
theorem dX10_piecesOf_60 : decode cX10_piecesOf 60 = .ok (.goto (-33), 3) := by decide +kernel
theorem dX10_piecesOf_63 : decode cX10_piecesOf 63 = .ok (.iload_n 3, 1) := by decide +kernel
theorem dX10_piecesOf_64 : decode cX10_piecesOf 64 = .ok (.ireturn, 1) := by decide +kernel
theorem dX10_wrongOf_0 : decode cX10_wrongOf 0 = .ok (.iconst 0, 1) := by decide +kernel
theorem dX10_wrongOf_1 : decode cX10_wrongOf 1 = .ok (.istore_n 2, 1) := by decide +kernel
theorem dX10_wrongOf_2 : decode cX10_wrongOf 2 = .ok (.iconst 0, 1) := by decide +kernel
theorem dX10_wrongOf_3 : decode cX10_wrongOf 3 = .ok (.istore_n 3, 1) := by decide +kernel
theorem dX10_wrongOf_4 : decode cX10_wrongOf 4 = .ok (.iload_n 3, 1) := by decide +kernel
theorem dX10_wrongOf_5 : decode cX10_wrongOf 5 = .ok (.aload_n 0, 1) := by decide +kernel
theorem dX10_wrongOf_6 : decode cX10_wrongOf 6 = .ok (.getfield 153, 3) := by decide +kernel
theorem dX10_wrongOf_9 : decode cX10_wrongOf 9 = .ok (.if_icmp .ge 55, 3) := by decide +kernel
theorem dX10_wrongOf_12 : decode cX10_wrongOf 12 = .ok (.iload_n 2, 1) := by decide +kernel
theorem dX10_wrongOf_13 : decode cX10_wrongOf 13 = .ok (.aload_n 0, 1) := by decide +kernel
theorem dX10_wrongOf_14 : decode cX10_wrongOf 14 = .ok (.getfield 46, 3) := by decide +kernel
theorem dX10_wrongOf_17 : decode cX10_wrongOf 17 = .ok (.iload_n 3, 1) := by decide +kernel
theorem dX10_wrongOf_18 : decode cX10_wrongOf 18 = .ok (.iaload, 1) := by decide +kernel
theorem dX10_wrongOf_19 : decode cX10_wrongOf 19 = .ok (.ifCond .lt 36, 3) := by decide +kernel
theorem dX10_wrongOf_22 : decode cX10_wrongOf 22 = .ok (.aload_n 0, 1) := by decide +kernel
theorem dX10_wrongOf_23 : decode cX10_wrongOf 23 = .ok (.getfield 52, 3) := by decide +kernel
theorem dX10_wrongOf_26 : decode cX10_wrongOf 26 = .ok (.iload_n 3, 1) := by decide +kernel
theorem dX10_wrongOf_27 : decode cX10_wrongOf 27 = .ok (.iaload, 1) := by decide +kernel
theorem dX10_wrongOf_28 : decode cX10_wrongOf 28 = .ok (.iload_n 1, 1) := by decide +kernel
theorem dX10_wrongOf_29 : decode cX10_wrongOf 29 = .ok (.if_icmp .ge 7, 3) := by decide +kernel
theorem dX10_wrongOf_32 : decode cX10_wrongOf 32 = .ok (.iconst 1, 1) := by decide +kernel
theorem dX10_wrongOf_33 : decode cX10_wrongOf 33 = .ok (.goto 4, 3) := by decide +kernel
theorem dX10_wrongOf_36 : decode cX10_wrongOf 36 = .ok (.iconst 0, 1) := by decide +kernel
theorem dX10_wrongOf_37 : decode cX10_wrongOf 37 = .ok (.aload_n 0, 1) := by decide +kernel
theorem dX10_wrongOf_38 : decode cX10_wrongOf 38 = .ok (.aload_n 0, 1) := by decide +kernel
theorem dX10_wrongOf_39 : decode cX10_wrongOf 39 = .ok (.getfield 49, 3) := by decide +kernel
theorem dX10_wrongOf_42 : decode cX10_wrongOf 42 = .ok (.iload_n 3, 1) := by decide +kernel
theorem dX10_wrongOf_43 : decode cX10_wrongOf 43 = .ok (.iaload, 1) := by decide +kernel
theorem dX10_wrongOf_44 : decode cX10_wrongOf 44 = .ok (.iload_n 1, 1) := by decide +kernel
theorem dX10_wrongOf_45 : decode cX10_wrongOf 45 = .ok (.invokevirtual 293, 3) := by decide +kernel
theorem dX10_wrongOf_48 : decode cX10_wrongOf 48 = .ok (.if_icmp .eq 7, 3) := by decide +kernel
theorem dX10_wrongOf_51 : decode cX10_wrongOf 51 = .ok (.iconst 1, 1) := by decide +kernel
theorem dX10_wrongOf_52 : decode cX10_wrongOf 52 = .ok (.goto 4, 3) := by decide +kernel
theorem dX10_wrongOf_55 : decode cX10_wrongOf 55 = .ok (.iconst 0, 1) := by decide +kernel
theorem dX10_wrongOf_56 : decode cX10_wrongOf 56 = .ok (.iadd, 1) := by decide +kernel
theorem dX10_wrongOf_57 : decode cX10_wrongOf 57 = .ok (.istore_n 2, 1) := by decide +kernel
theorem dX10_wrongOf_58 : decode cX10_wrongOf 58 = .ok (.iinc 3 1, 3) := by decide +kernel
theorem dX10_wrongOf_61 : decode cX10_wrongOf 61 = .ok (.goto (-57), 3) := by decide +kernel
theorem dX10_wrongOf_64 : decode cX10_wrongOf 64 = .ok (.iload_n 2, 1) := by decide +kernel
theorem dX10_wrongOf_65 : decode cX10_wrongOf 65 = .ok (.ireturn, 1) := by decide +kernel
theorem dX10_line_0 : decode cX10_line 0 = .ok (.iload_n 1, 1) := by decide +kernel
theorem dX10_line_1 : decode cX10_line 1 = .ok (.i2l, 1) := by decide +kernel
theorem dX10_line_2 : decode cX10_line 2 = .ok (.lconst 0, 1) := by decide +kernel
theorem dX10_line_3 : decode cX10_line 3 = .ok (.ldc2_w 304, 3) := by decide +kernel
theorem dX10_line_6 : decode cX10_line 6 = .ok (.invokestatic 156, 3) := by decide +kernel
theorem dX10_line_9 : decode cX10_line 9 = .ok (.ifCond .eq 15, 3) := by decide +kernel
theorem dX10_line_12 : decode cX10_line 12 = .ok (.iload_n 2, 1) := by decide +kernel
theorem dX10_line_13 : decode cX10_line 13 = .ok (.i2l, 1) := by decide +kernel
theorem dX10_line_14 : decode cX10_line 14 = .ok (.lconst 0, 1) := by decide +kernel
theorem dX10_line_15 : decode cX10_line 15 = .ok (.ldc2_w 240, 3) := by decide +kernel
theorem dX10_line_18 : decode cX10_line 18 = .ok (.invokestatic 156, 3) := by decide +kernel
theorem dX10_line_21 : decode cX10_line 21 = .ok (.ifCond .ne 6, 3) := by decide +kernel
theorem dX10_line_24 : decode cX10_line 24 = .ok (.bipush (-2), 2) := by decide +kernel
theorem dX10_line_26 : decode cX10_line 26 = .ok (.ireturn, 1) := by decide +kernel
theorem dX10_line_27 : decode cX10_line 27 = .ok (.aload_n 0, 1) := by decide +kernel
theorem dX10_line_28 : decode cX10_line 28 = .ok (.invokevirtual 237, 3) := by decide +kernel
theorem dX10_line_31 : decode cX10_line 31 = .ok (.aload_n 0, 1) := by decide +kernel
theorem dX10_line_32 : decode cX10_line 32 = .ok (.getfield 55, 3) := by decide +kernel
theorem dX10_line_35 : decode cX10_line 35 = .ok (.iconst 0, 1) := by decide +kernel
theorem dX10_line_36 : decode cX10_line 36 = .ok (.iaload, 1) := by decide +kernel
theorem dX10_line_37 : decode cX10_line 37 = .ok (.bipush (-9), 2) := by decide +kernel
theorem dX10_line_39 : decode cX10_line 39 = .ok (.if_icmp .ne 6, 3) := by decide +kernel
theorem dX10_line_42 : decode cX10_line 42 = .ok (.bipush (-3), 2) := by decide +kernel
theorem dX10_line_44 : decode cX10_line 44 = .ok (.ireturn, 1) := by decide +kernel
theorem dX10_line_45 : decode cX10_line 45 = .ok (.iconst 0, 1) := by decide +kernel
theorem dX10_line_46 : decode cX10_line 46 = .ok (.istore_n 3, 1) := by decide +kernel
theorem dX10_line_47 : decode cX10_line 47 = .ok (.iload_n 2, 1) := by decide +kernel
theorem dX10_line_48 : decode cX10_line 48 = .ok (.tableswitch 89 0 3 #[32, 38, 45, 52], 32) := by decide +kernel
theorem dX10_line_80 : decode cX10_line 80 = .ok (.aload_n 0, 1) := by decide +kernel
theorem dX10_line_81 : decode cX10_line 81 = .ok (.iload_n 1, 1) := by decide +kernel
theorem dX10_line_82 : decode cX10_line 82 = .ok (.invokevirtual 306, 3) := by decide +kernel
theorem dX10_line_85 : decode cX10_line 85 = .ok (.ireturn, 1) := by decide +kernel
theorem dX10_line_86 : decode cX10_line 86 = .ok (.aload_n 0, 1) := by decide +kernel
theorem dX10_line_87 : decode cX10_line 87 = .ok (.iload_n 1, 1) := by decide +kernel
theorem dX10_line_88 : decode cX10_line 88 = .ok (.iconst 1, 1) := by decide +kernel
theorem dX10_line_89 : decode cX10_line 89 = .ok (.invokevirtual 309, 3) := by decide +kernel
theorem dX10_line_92 : decode cX10_line 92 = .ok (.ireturn, 1) := by decide +kernel
theorem dX10_line_93 : decode cX10_line 93 = .ok (.aload_n 0, 1) := by decide +kernel
theorem dX10_line_94 : decode cX10_line 94 = .ok (.iload_n 1, 1) := by decide +kernel
theorem dX10_line_95 : decode cX10_line 95 = .ok (.iconst 0, 1) := by decide +kernel
theorem dX10_line_96 : decode cX10_line 96 = .ok (.invokevirtual 309, 3) := by decide +kernel
theorem dX10_line_99 : decode cX10_line 99 = .ok (.ireturn, 1) := by decide +kernel
theorem dX10_line_100 : decode cX10_line 100 = .ok (.iconst 0, 1) := by decide +kernel
theorem dX10_line_101 : decode cX10_line 101 = .ok (.istore 4, 2) := by decide +kernel
theorem dX10_line_103 : decode cX10_line 103 = .ok (.iload 4, 2) := by decide +kernel
theorem dX10_line_105 : decode cX10_line 105 = .ok (.sipush 144, 3) := by decide +kernel
theorem dX10_line_108 : decode cX10_line 108 = .ok (.if_icmp .ge 27, 3) := by decide +kernel
theorem dX10_line_111 : decode cX10_line 111 = .ok (.iload_n 3, 1) := by decide +kernel
theorem dX10_line_112 : decode cX10_line 112 = .ok (.aload_n 0, 1) := by decide +kernel
theorem dX10_line_113 : decode cX10_line 113 = .ok (.iload 4, 2) := by decide +kernel
theorem dX10_line_115 : decode cX10_line 115 = .ok (.iload_n 1, 1) := by decide +kernel
theorem dX10_line_116 : decode cX10_line 116 = .ok (.invokevirtual 293, 3) := by decide +kernel
theorem dX10_line_119 : decode cX10_line 119 = .ok (.ifCond .eq 7, 3) := by decide +kernel
theorem dX10_line_122 : decode cX10_line 122 = .ok (.iconst 1, 1) := by decide +kernel
theorem dX10_line_123 : decode cX10_line 123 = .ok (.goto 4, 3) := by decide +kernel
theorem dX10_line_126 : decode cX10_line 126 = .ok (.iconst 0, 1) := by decide +kernel
theorem dX10_line_127 : decode cX10_line 127 = .ok (.iadd, 1) := by decide +kernel
theorem dX10_line_128 : decode cX10_line 128 = .ok (.istore_n 3, 1) := by decide +kernel
theorem dX10_line_129 : decode cX10_line 129 = .ok (.iinc 4 1, 3) := by decide +kernel
theorem dX10_line_132 : decode cX10_line 132 = .ok (.goto (-29), 3) := by decide +kernel
theorem dX10_line_135 : decode cX10_line 135 = .ok (.iload_n 3, 1) := by decide +kernel
theorem dX10_line_136 : decode cX10_line 136 = .ok (.ireturn, 1) := by decide +kernel
theorem dX10_line_137 : decode cX10_line 137 = .ok (.aload_n 0, 1) := by decide +kernel
theorem dX10_line_138 : decode cX10_line 138 = .ok (.iload_n 1, 1) := by decide +kernel
theorem dX10_line_139 : decode cX10_line 139 = .ok (.invokevirtual 312, 3) := by decide +kernel
theorem dX10_line_142 : decode cX10_line 142 = .ok (.ireturn, 1) := by decide +kernel
theorem dX10_isLet_0 : decode cX10_isLet 0 = .ok (.iload_n 2, 1) := by decide +kernel
theorem dX10_isLet_1 : decode cX10_isLet 1 = .ok (.i2l, 1) := by decide +kernel
theorem dX10_isLet_2 : decode cX10_isLet 2 = .ok (.lconst 0, 1) := by decide +kernel
theorem dX10_isLet_3 : decode cX10_isLet 3 = .ok (.ldc2_w 160, 3) := by decide +kernel
theorem dX10_isLet_6 : decode cX10_isLet 6 = .ok (.invokestatic 156, 3) := by decide +kernel
theorem dX10_isLet_9 : decode cX10_isLet 9 = .ok (.ifCond .eq 27, 3) := by decide +kernel
theorem dX10_isLet_12 : decode cX10_isLet 12 = .ok (.iload_n 2, 1) := by decide +kernel
theorem dX10_isLet_13 : decode cX10_isLet 13 = .ok (.aload_n 0, 1) := by decide +kernel
theorem dX10_isLet_14 : decode cX10_isLet 14 = .ok (.getfield 86, 3) := by decide +kernel
theorem dX10_isLet_17 : decode cX10_isLet 17 = .ok (.iload_n 1, 1) := by decide +kernel
theorem dX10_isLet_18 : decode cX10_isLet 18 = .ok (.iaload, 1) := by decide +kernel
theorem dX10_isLet_19 : decode cX10_isLet 19 = .ok (.if_icmp .lt 17, 3) := by decide +kernel
theorem dX10_isLet_22 : decode cX10_isLet 22 = .ok (.iload_n 2, 1) := by decide +kernel
theorem dX10_isLet_23 : decode cX10_isLet 23 = .ok (.aload_n 0, 1) := by decide +kernel
theorem dX10_isLet_24 : decode cX10_isLet 24 = .ok (.getfield 89, 3) := by decide +kernel
theorem dX10_isLet_27 : decode cX10_isLet 27 = .ok (.iload_n 1, 1) := by decide +kernel
theorem dX10_isLet_28 : decode cX10_isLet 28 = .ok (.iaload, 1) := by decide +kernel
theorem dX10_isLet_29 : decode cX10_isLet 29 = .ok (.if_icmp .gt 7, 3) := by decide +kernel
theorem dX10_isLet_32 : decode cX10_isLet 32 = .ok (.iconst 1, 1) := by decide +kernel
theorem dX10_isLet_33 : decode cX10_isLet 33 = .ok (.goto 4, 3) := by decide +kernel
theorem dX10_isLet_36 : decode cX10_isLet 36 = .ok (.iconst 0, 1) := by decide +kernel
theorem dX10_isLet_37 : decode cX10_isLet 37 = .ok (.ireturn, 1) := by decide +kernel
theorem dX10_bendsAt_0 : decode cX10_bendsAt 0 = .ok (.iload_n 1, 1) := by decide +kernel
theorem dX10_bendsAt_1 : decode cX10_bendsAt 1 = .ok (.iload 4, 2) := by decide +kernel
theorem dX10_bendsAt_3 : decode cX10_bendsAt 3 = .ok (.if_icmp .ne 5, 3) := by decide +kernel
theorem dX10_bendsAt_6 : decode cX10_bendsAt 6 = .ok (.iconst 0, 1) := by decide +kernel
theorem dX10_bendsAt_7 : decode cX10_bendsAt 7 = .ok (.ireturn, 1) := by decide +kernel
theorem dX10_bendsAt_8 : decode cX10_bendsAt 8 = .ok (.ldc_w 315, 3) := by decide +kernel
theorem dX10_bendsAt_11 : decode cX10_bendsAt 11 = .ok (.istore 5, 2) := by decide +kernel
theorem dX10_bendsAt_13 : decode cX10_bendsAt 13 = .ok (.bipush (-2), 2) := by decide +kernel
theorem dX10_bendsAt_15 : decode cX10_bendsAt 15 = .ok (.istore 6, 2) := by decide +kernel
theorem dX10_bendsAt_17 : decode cX10_bendsAt 17 = .ok (.iload 6, 2) := by decide +kernel
theorem dX10_bendsAt_19 : decode cX10_bendsAt 19 = .ok (.iconst 2, 1) := by decide +kernel
theorem dX10_bendsAt_20 : decode cX10_bendsAt 20 = .ok (.if_icmp .gt 83, 3) := by decide +kernel
theorem dX10_bendsAt_23 : decode cX10_bendsAt 23 = .ok (.aload_n 0, 1) := by decide +kernel
theorem dX10_bendsAt_24 : decode cX10_bendsAt 24 = .ok (.iload_n 1, 1) := by decide +kernel
theorem dX10_bendsAt_25 : decode cX10_bendsAt 25 = .ok (.iconst 1, 1) := by decide +kernel
theorem dX10_bendsAt_26 : decode cX10_bendsAt 26 = .ok (.iadd, 1) := by decide +kernel
theorem dX10_bendsAt_27 : decode cX10_bendsAt 27 = .ok (.iload_n 2, 1) := by decide +kernel
theorem dX10_bendsAt_28 : decode cX10_bendsAt 28 = .ok (.iload 6, 2) := by decide +kernel
theorem dX10_bendsAt_30 : decode cX10_bendsAt 30 = .ok (.iadd, 1) := by decide +kernel
theorem dX10_bendsAt_31 : decode cX10_bendsAt 31 = .ok (.invokevirtual 316, 3) := by decide +kernel
theorem dX10_bendsAt_34 : decode cX10_bendsAt 34 = .ok (.ifCond .eq 63, 3) := by decide +kernel
theorem dX10_bendsAt_37 : decode cX10_bendsAt 37 = .ok (.iload_n 3, 1) := by decide +kernel
theorem dX10_bendsAt_38 : decode cX10_bendsAt 38 = .ok (.iconst 5, 1) := by decide +kernel
theorem dX10_bendsAt_39 : decode cX10_bendsAt 39 = .ok (.if_icmp .ne 7, 3) := by decide +kernel
theorem dX10_bendsAt_42 : decode cX10_bendsAt 42 = .ok (.iconst 0, 1) := by decide +kernel
theorem dX10_bendsAt_43 : decode cX10_bendsAt 43 = .ok (.goto 12, 3) := by decide +kernel
theorem dX10_bendsAt_46 : decode cX10_bendsAt 46 = .ok (.iload 6, 2) := by decide +kernel
theorem dX10_bendsAt_48 : decode cX10_bendsAt 48 = .ok (.iconst 2, 1) := by decide +kernel
theorem dX10_bendsAt_49 : decode cX10_bendsAt 49 = .ok (.iadd, 1) := by decide +kernel
theorem dX10_bendsAt_50 : decode cX10_bendsAt 50 = .ok (.iload_n 3, 1) := by decide +kernel
theorem dX10_bendsAt_51 : decode cX10_bendsAt 51 = .ok (.isub, 1) := by decide +kernel
theorem dX10_bendsAt_52 : decode cX10_bendsAt 52 = .ok (.invokestatic 195, 3) := by decide +kernel
theorem dX10_bendsAt_55 : decode cX10_bendsAt 55 = .ok (.aload_n 0, 1) := by decide +kernel
theorem dX10_bendsAt_56 : decode cX10_bendsAt 56 = .ok (.getfield 92, 3) := by decide +kernel
theorem dX10_bendsAt_59 : decode cX10_bendsAt 59 = .ok (.bipush 60, 2) := by decide +kernel
theorem dX10_bendsAt_61 : decode cX10_bendsAt 61 = .ok (.iload_n 1, 1) := by decide +kernel
theorem dX10_bendsAt_62 : decode cX10_bendsAt 62 = .ok (.iconst 1, 1) := by decide +kernel
theorem dX10_bendsAt_63 : decode cX10_bendsAt 63 = .ok (.iadd, 1) := by decide +kernel
theorem dX10_bendsAt_64 : decode cX10_bendsAt 64 = .ok (.imul, 1) := by decide +kernel
theorem dX10_bendsAt_65 : decode cX10_bendsAt 65 = .ok (.iconst 5, 1) := by decide +kernel
theorem dX10_bendsAt_66 : decode cX10_bendsAt 66 = .ok (.iload_n 2, 1) := by decide +kernel
theorem dX10_bendsAt_67 : decode cX10_bendsAt 67 = .ok (.iload 6, 2) := by decide +kernel
theorem dX10_bendsAt_69 : decode cX10_bendsAt 69 = .ok (.iadd, 1) := by decide +kernel
theorem dX10_bendsAt_70 : decode cX10_bendsAt 70 = .ok (.imul, 1) := by decide +kernel
theorem dX10_bendsAt_71 : decode cX10_bendsAt 71 = .ok (.iadd, 1) := by decide +kernel
theorem dX10_bendsAt_72 : decode cX10_bendsAt 72 = .ok (.iload 6, 2) := by decide +kernel
theorem dX10_bendsAt_74 : decode cX10_bendsAt 74 = .ok (.iadd, 1) := by decide +kernel
theorem dX10_bendsAt_75 : decode cX10_bendsAt 75 = .ok (.iconst 2, 1) := by decide +kernel
theorem dX10_bendsAt_76 : decode cX10_bendsAt 76 = .ok (.iadd, 1) := by decide +kernel
theorem dX10_bendsAt_77 : decode cX10_bendsAt 77 = .ok (.iaload, 1) := by decide +kernel
theorem dX10_bendsAt_78 : decode cX10_bendsAt 78 = .ok (.iadd, 1) := by decide +kernel
theorem dX10_bendsAt_79 : decode cX10_bendsAt 79 = .ok (.istore 7, 2) := by decide +kernel
theorem dX10_bendsAt_81 : decode cX10_bendsAt 81 = .ok (.iload 7, 2) := by decide +kernel
theorem dX10_bendsAt_83 : decode cX10_bendsAt 83 = .ok (.iload 5, 2) := by decide +kernel
theorem dX10_bendsAt_85 : decode cX10_bendsAt 85 = .ok (.if_icmp .ge 8, 3) := by decide +kernel
theorem dX10_bendsAt_88 : decode cX10_bendsAt 88 = .ok (.iload 7, 2) := by decide +kernel
theorem dX10_bendsAt_90 : decode cX10_bendsAt 90 = .ok (.goto 5, 3) := by decide +kernel
theorem dX10_bendsAt_93 : decode cX10_bendsAt 93 = .ok (.iload 5, 2) := by decide +kernel
theorem dX10_bendsAt_95 : decode cX10_bendsAt 95 = .ok (.istore 5, 2) := by decide +kernel
theorem dX10_bendsAt_97 : decode cX10_bendsAt 97 = .ok (.iinc 6 1, 3) := by decide +kernel
theorem dX10_bendsAt_100 : decode cX10_bendsAt 100 = .ok (.goto (-83), 3) := by decide +kernel
theorem dX10_bendsAt_103 : decode cX10_bendsAt 103 = .ok (.iload 5, 2) := by decide +kernel
theorem dX10_bendsAt_105 : decode cX10_bendsAt 105 = .ok (.ireturn, 1) := by decide +kernel
theorem dX10_layToCome_0 : decode cX10_layToCome 0 = .ok (.iload_n 2, 1) := by decide +kernel
theorem dX10_layToCome_1 : decode cX10_layToCome 1 = .ok (.istore_n 3, 1) := by decide +kernel
theorem dX10_layToCome_2 : decode cX10_layToCome 2 = .ok (.iload_n 3, 1) := by decide +kernel
theorem dX10_layToCome_3 : decode cX10_layToCome 3 = .ok (.iload_n 1, 1) := by decide +kernel
theorem dX10_layToCome_4 : decode cX10_layToCome 4 = .ok (.if_icmp .le 67, 3) := by decide +kernel
theorem dX10_layToCome_7 : decode cX10_layToCome 7 = .ok (.iconst 0, 1) := by decide +kernel
theorem dX10_layToCome_8 : decode cX10_layToCome 8 = .ok (.istore 4, 2) := by decide +kernel
theorem dX10_layToCome_10 : decode cX10_layToCome 10 = .ok (.iload 4, 2) := by decide +kernel
theorem dX10_layToCome_12 : decode cX10_layToCome 12 = .ok (.bipush 12, 2) := by decide +kernel
theorem dX10_layToCome_14 : decode cX10_layToCome 14 = .ok (.if_icmp .ge 51, 3) := by decide +kernel
theorem dX10_layToCome_17 : decode cX10_layToCome 17 = .ok (.iconst 0, 1) := by decide +kernel
theorem dX10_layToCome_18 : decode cX10_layToCome 18 = .ok (.istore 5, 2) := by decide +kernel
theorem dX10_layToCome_20 : decode cX10_layToCome 20 = .ok (.iload 5, 2) := by decide +kernel
theorem dX10_layToCome_22 : decode cX10_layToCome 22 = .ok (.iconst 5, 1) := by decide +kernel
theorem dX10_layToCome_23 : decode cX10_layToCome 23 = .ok (.if_icmp .ge 36, 3) := by decide +kernel
theorem dX10_layToCome_26 : decode cX10_layToCome 26 = .ok (.aload_n 0, 1) := by decide +kernel
theorem dX10_layToCome_27 : decode cX10_layToCome 27 = .ok (.getfield 92, 3) := by decide +kernel
theorem dX10_layToCome_30 : decode cX10_layToCome 30 = .ok (.bipush 60, 2) := by decide +kernel
theorem dX10_layToCome_32 : decode cX10_layToCome 32 = .ok (.iload_n 3, 1) := by decide +kernel
theorem dX10_layToCome_33 : decode cX10_layToCome 33 = .ok (.imul, 1) := by decide +kernel
theorem dX10_layToCome_34 : decode cX10_layToCome 34 = .ok (.iconst 5, 1) := by decide +kernel
theorem dX10_layToCome_35 : decode cX10_layToCome 35 = .ok (.iload 4, 2) := by decide +kernel
theorem dX10_layToCome_37 : decode cX10_layToCome 37 = .ok (.imul, 1) := by decide +kernel
theorem dX10_layToCome_38 : decode cX10_layToCome 38 = .ok (.iadd, 1) := by decide +kernel
theorem dX10_layToCome_39 : decode cX10_layToCome 39 = .ok (.iload 5, 2) := by decide +kernel
theorem dX10_layToCome_41 : decode cX10_layToCome 41 = .ok (.iadd, 1) := by decide +kernel
theorem dX10_layToCome_42 : decode cX10_layToCome 42 = .ok (.aload_n 0, 1) := by decide +kernel
theorem dX10_layToCome_43 : decode cX10_layToCome 43 = .ok (.iload_n 3, 1) := by decide +kernel
theorem dX10_layToCome_44 : decode cX10_layToCome 44 = .ok (.iload 4, 2) := by decide +kernel
theorem dX10_layToCome_46 : decode cX10_layToCome 46 = .ok (.iload 5, 2) := by decide +kernel
theorem dX10_layToCome_48 : decode cX10_layToCome 48 = .ok (.iload_n 2, 1) := by decide +kernel
theorem dX10_layToCome_49 : decode cX10_layToCome 49 = .ok (.invokevirtual 319, 3) := by decide +kernel
theorem dX10_layToCome_52 : decode cX10_layToCome 52 = .ok (.iastore, 1) := by decide +kernel
theorem dX10_layToCome_53 : decode cX10_layToCome 53 = .ok (.iinc 5 1, 3) := by decide +kernel
theorem dX10_layToCome_56 : decode cX10_layToCome 56 = .ok (.goto (-36), 3) := by decide +kernel
theorem dX10_layToCome_59 : decode cX10_layToCome 59 = .ok (.iinc 4 1, 3) := by decide +kernel
theorem dX10_layToCome_62 : decode cX10_layToCome 62 = .ok (.goto (-52), 3) := by decide +kernel
theorem dX10_layToCome_65 : decode cX10_layToCome 65 = .ok (.iinc 3 (-1), 3) := by decide +kernel
theorem dX10_layToCome_68 : decode cX10_layToCome 68 = .ok (.goto (-66), 3) := by decide +kernel
theorem dX10_layToCome_71 : decode cX10_layToCome 71 = .ok (.return_, 1) := by decide +kernel
theorem dX10_drawInto_0 : decode cX10_drawInto 0 = .ok (.aload_n 0, 1) := by decide +kernel
theorem dX10_drawInto_1 : decode cX10_drawInto 1 = .ok (.iload_n 2, 1) := by decide +kernel
theorem dX10_drawInto_2 : decode cX10_drawInto 2 = .ok (.iload_n 3, 1) := by decide +kernel
theorem dX10_drawInto_3 : decode cX10_drawInto 3 = .ok (.invokevirtual 323, 3) := by decide +kernel
theorem dX10_drawInto_6 : decode cX10_drawInto 6 = .ok (.bipush (-9), 2) := by decide +kernel
theorem dX10_drawInto_8 : decode cX10_drawInto 8 = .ok (.istore 4, 2) := by decide +kernel
theorem dX10_drawInto_10 : decode cX10_drawInto 10 = .ok (.ldc_w 315, 3) := by decide +kernel
theorem dX10_drawInto_13 : decode cX10_drawInto 13 = .ok (.istore 5, 2) := by decide +kernel
theorem dX10_drawInto_15 : decode cX10_drawInto 15 = .ok (.iconst 0, 1) := by decide +kernel
theorem dX10_drawInto_16 : decode cX10_drawInto 16 = .ok (.istore 6, 2) := by decide +kernel
theorem dX10_drawInto_18 : decode cX10_drawInto 18 = .ok (.iload 6, 2) := by decide +kernel
theorem dX10_drawInto_20 : decode cX10_drawInto 20 = .ok (.bipush 12, 2) := by decide +kernel
theorem dX10_drawInto_22 : decode cX10_drawInto 22 = .ok (.if_icmp .ge 68, 3) := by decide +kernel
theorem dX10_drawInto_25 : decode cX10_drawInto 25 = .ok (.aload_n 0, 1) := by decide +kernel
theorem dX10_drawInto_26 : decode cX10_drawInto 26 = .ok (.iload_n 2, 1) := by decide +kernel
theorem dX10_drawInto_27 : decode cX10_drawInto 27 = .ok (.iload 6, 2) := by decide +kernel
theorem dX10_drawInto_29 : decode cX10_drawInto 29 = .ok (.invokevirtual 316, 3) := by decide +kernel
theorem dX10_drawInto_32 : decode cX10_drawInto 32 = .ok (.ifCond .eq 15, 3) := by decide +kernel
theorem dX10_drawInto_35 : decode cX10_drawInto 35 = .ok (.aload_n 0, 1) := by decide +kernel
theorem dX10_drawInto_36 : decode cX10_drawInto 36 = .ok (.iload_n 2, 1) := by decide +kernel
theorem dX10_drawInto_37 : decode cX10_drawInto 37 = .ok (.iload 6, 2) := by decide +kernel
theorem dX10_drawInto_39 : decode cX10_drawInto 39 = .ok (.iconst 5, 1) := by decide +kernel
theorem dX10_drawInto_40 : decode cX10_drawInto 40 = .ok (.iload_n 3, 1) := by decide +kernel
theorem dX10_drawInto_41 : decode cX10_drawInto 41 = .ok (.invokevirtual 319, 3) := by decide +kernel
theorem dX10_drawInto_44 : decode cX10_drawInto 44 = .ok (.goto 6, 3) := by decide +kernel
theorem dX10_drawInto_47 : decode cX10_drawInto 47 = .ok (.ldc_w 315, 3) := by decide +kernel
theorem dX10_drawInto_50 : decode cX10_drawInto 50 = .ok (.istore 7, 2) := by decide +kernel
theorem dX10_drawInto_52 : decode cX10_drawInto 52 = .ok (.iload 7, 2) := by decide +kernel
theorem dX10_drawInto_54 : decode cX10_drawInto 54 = .ok (.iload 5, 2) := by decide +kernel
theorem dX10_drawInto_56 : decode cX10_drawInto 56 = .ok (.if_icmp .ge 8, 3) := by decide +kernel
theorem dX10_drawInto_59 : decode cX10_drawInto 59 = .ok (.iload 6, 2) := by decide +kernel
theorem dX10_drawInto_61 : decode cX10_drawInto 61 = .ok (.goto 5, 3) := by decide +kernel
theorem dX10_drawInto_64 : decode cX10_drawInto 64 = .ok (.iload 4, 2) := by decide +kernel
theorem dX10_drawInto_66 : decode cX10_drawInto 66 = .ok (.istore 4, 2) := by decide +kernel
theorem dX10_drawInto_68 : decode cX10_drawInto 68 = .ok (.iload 7, 2) := by decide +kernel
theorem dX10_drawInto_70 : decode cX10_drawInto 70 = .ok (.iload 5, 2) := by decide +kernel
theorem dX10_drawInto_72 : decode cX10_drawInto 72 = .ok (.if_icmp .ge 8, 3) := by decide +kernel
theorem dX10_drawInto_75 : decode cX10_drawInto 75 = .ok (.iload 7, 2) := by decide +kernel
theorem dX10_drawInto_77 : decode cX10_drawInto 77 = .ok (.goto 5, 3) := by decide +kernel
theorem dX10_drawInto_80 : decode cX10_drawInto 80 = .ok (.iload 5, 2) := by decide +kernel
theorem dX10_drawInto_82 : decode cX10_drawInto 82 = .ok (.istore 5, 2) := by decide +kernel
theorem dX10_drawInto_84 : decode cX10_drawInto 84 = .ok (.iinc 6 1, 3) := by decide +kernel
theorem dX10_drawInto_87 : decode cX10_drawInto 87 = .ok (.goto (-69), 3) := by decide +kernel
theorem dX10_drawInto_90 : decode cX10_drawInto 90 = .ok (.iload 5, 2) := by decide +kernel
theorem dX10_drawInto_92 : decode cX10_drawInto 92 = .ok (.ldc_w 315, 3) := by decide +kernel
theorem dX10_drawInto_95 : decode cX10_drawInto 95 = .ok (.if_icmp .ne 7, 3) := by decide +kernel
theorem dX10_drawInto_98 : decode cX10_drawInto 98 = .ok (.ldc_w 315, 3) := by decide +kernel
theorem dX10_drawInto_101 : decode cX10_drawInto 101 = .ok (.ireturn, 1) := by decide +kernel
theorem dX10_drawInto_102 : decode cX10_drawInto 102 = .ok (.iload 4, 2) := by decide +kernel
theorem dX10_drawInto_104 : decode cX10_drawInto 104 = .ok (.istore 6, 2) := by decide +kernel
theorem dX10_drawInto_106 : decode cX10_drawInto 106 = .ok (.iconst 5, 1) := by decide +kernel
theorem dX10_drawInto_107 : decode cX10_drawInto 107 = .ok (.istore 7, 2) := by decide +kernel
theorem dX10_drawInto_109 : decode cX10_drawInto 109 = .ok (.iload 5, 2) := by decide +kernel
theorem dX10_drawInto_111 : decode cX10_drawInto 111 = .ok (.istore 8, 2) := by decide +kernel
theorem dX10_drawInto_113 : decode cX10_drawInto 113 = .ok (.aload_n 0, 1) := by decide +kernel
theorem dX10_drawInto_114 : decode cX10_drawInto 114 = .ok (.getfield 83, 3) := by decide +kernel
theorem dX10_drawInto_117 : decode cX10_drawInto 117 = .ok (.bipush 12, 2) := by decide +kernel
theorem dX10_drawInto_119 : decode cX10_drawInto 119 = .ok (.iload_n 1, 1) := by decide +kernel
theorem dX10_drawInto_120 : decode cX10_drawInto 120 = .ok (.imul, 1) := by decide +kernel
theorem dX10_drawInto_121 : decode cX10_drawInto 121 = .ok (.iload_n 2, 1) := by decide +kernel
theorem dX10_drawInto_122 : decode cX10_drawInto 122 = .ok (.iadd, 1) := by decide +kernel
theorem dX10_drawInto_123 : decode cX10_drawInto 123 = .ok (.iload 6, 2) := by decide +kernel
theorem dX10_drawInto_125 : decode cX10_drawInto 125 = .ok (.iastore, 1) := by decide +kernel
theorem dX10_drawInto_126 : decode cX10_drawInto 126 = .ok (.iload_n 2, 1) := by decide +kernel
theorem dX10_drawInto_127 : decode cX10_drawInto 127 = .ok (.istore 9, 2) := by decide +kernel
theorem dX10_drawInto_129 : decode cX10_drawInto 129 = .ok (.iload 9, 2) := by decide +kernel
theorem dX10_drawInto_131 : decode cX10_drawInto 131 = .ok (.iload_n 3, 1) := by decide +kernel
theorem dX10_drawInto_132 : decode cX10_drawInto 132 = .ok (.if_icmp .ge 90, 3) := by decide +kernel
theorem dX10_drawInto_135 : decode cX10_drawInto 135 = .ok (.bipush (-2), 2) := by decide +kernel
theorem dX10_drawInto_137 : decode cX10_drawInto 137 = .ok (.istore 10, 2) := by decide +kernel
theorem dX10_drawInto_139 : decode cX10_drawInto 139 = .ok (.aload_n 0, 1) := by decide +kernel
theorem dX10_drawInto_140 : decode cX10_drawInto 140 = .ok (.iload 9, 2) := by decide +kernel
theorem dX10_drawInto_142 : decode cX10_drawInto 142 = .ok (.iload 6, 2) := by decide +kernel
theorem dX10_drawInto_144 : decode cX10_drawInto 144 = .ok (.iload 10, 2) := by decide +kernel
theorem dX10_drawInto_146 : decode cX10_drawInto 146 = .ok (.iload 7, 2) := by decide +kernel
theorem dX10_drawInto_148 : decode cX10_drawInto 148 = .ok (.iload 8, 2) := by decide +kernel
theorem dX10_drawInto_150 : decode cX10_drawInto 150 = .ok (.invokevirtual 327, 3) := by decide +kernel
theorem dX10_drawInto_153 : decode cX10_drawInto 153 = .ok (.ifCond .ne 9, 3) := by decide +kernel
theorem dX10_drawInto_156 : decode cX10_drawInto 156 = .ok (.iinc 10 1, 3) := by decide +kernel
theorem dX10_drawInto_159 : decode cX10_drawInto 159 = .ok (.goto (-20), 3) := by decide +kernel
theorem dX10_drawInto_162 : decode cX10_drawInto 162 = .ok (.iload 8, 2) := by decide +kernel
theorem dX10_drawInto_164 : decode cX10_drawInto 164 = .ok (.iload 7, 2) := by decide +kernel
theorem dX10_drawInto_166 : decode cX10_drawInto 166 = .ok (.iconst 5, 1) := by decide +kernel
theorem dX10_drawInto_167 : decode cX10_drawInto 167 = .ok (.if_icmp .ne 7, 3) := by decide +kernel
theorem dX10_drawInto_170 : decode cX10_drawInto 170 = .ok (.iconst 0, 1) := by decide +kernel
theorem dX10_drawInto_171 : decode cX10_drawInto 171 = .ok (.goto 13, 3) := by decide +kernel
theorem dX10_drawInto_174 : decode cX10_drawInto 174 = .ok (.iload 10, 2) := by decide +kernel
theorem dX10_drawInto_176 : decode cX10_drawInto 176 = .ok (.iconst 2, 1) := by decide +kernel
theorem dX10_drawInto_177 : decode cX10_drawInto 177 = .ok (.iadd, 1) := by decide +kernel
theorem dX10_drawInto_178 : decode cX10_drawInto 178 = .ok (.iload 7, 2) := by decide +kernel
theorem dX10_drawInto_180 : decode cX10_drawInto 180 = .ok (.isub, 1) := by decide +kernel
theorem dX10_drawInto_181 : decode cX10_drawInto 181 = .ok (.invokestatic 195, 3) := by decide +kernel
theorem dX10_drawInto_184 : decode cX10_drawInto 184 = .ok (.isub, 1) := by decide +kernel
theorem dX10_drawInto_185 : decode cX10_drawInto 185 = .ok (.istore 8, 2) := by decide +kernel
theorem dX10_drawInto_187 : decode cX10_drawInto 187 = .ok (.iload 6, 2) := by decide +kernel
theorem dX10_drawInto_189 : decode cX10_drawInto 189 = .ok (.iload 10, 2) := by decide +kernel
theorem dX10_drawInto_191 : decode cX10_drawInto 191 = .ok (.iadd, 1) := by decide +kernel
theorem dX10_drawInto_192 : decode cX10_drawInto 192 = .ok (.istore 6, 2) := by decide +kernel
theorem dX10_drawInto_194 : decode cX10_drawInto 194 = .ok (.iload 10, 2) := by decide +kernel
theorem dX10_drawInto_196 : decode cX10_drawInto 196 = .ok (.iconst 2, 1) := by decide +kernel
theorem dX10_drawInto_197 : decode cX10_drawInto 197 = .ok (.iadd, 1) := by decide +kernel
theorem dX10_drawInto_198 : decode cX10_drawInto 198 = .ok (.istore 7, 2) := by decide +kernel
theorem dX10_drawInto_200 : decode cX10_drawInto 200 = .ok (.aload_n 0, 1) := by decide +kernel
theorem dX10_drawInto_201 : decode cX10_drawInto 201 = .ok (.getfield 83, 3) := by decide +kernel
theorem dX10_drawInto_204 : decode cX10_drawInto 204 = .ok (.bipush 12, 2) := by decide +kernel
theorem dX10_drawInto_206 : decode cX10_drawInto 206 = .ok (.iload_n 1, 1) := by decide +kernel
theorem dX10_drawInto_207 : decode cX10_drawInto 207 = .ok (.imul, 1) := by decide +kernel
theorem dX10_drawInto_208 : decode cX10_drawInto 208 = .ok (.iload 9, 2) := by decide +kernel
theorem dX10_drawInto_210 : decode cX10_drawInto 210 = .ok (.iadd, 1) := by decide +kernel
theorem dX10_drawInto_211 : decode cX10_drawInto 211 = .ok (.iconst 1, 1) := by decide +kernel
theorem dX10_drawInto_212 : decode cX10_drawInto 212 = .ok (.iadd, 1) := by decide +kernel
theorem dX10_drawInto_213 : decode cX10_drawInto 213 = .ok (.iload 6, 2) := by decide +kernel
theorem dX10_drawInto_215 : decode cX10_drawInto 215 = .ok (.iastore, 1) := by decide +kernel
theorem dX10_drawInto_216 : decode cX10_drawInto 216 = .ok (.iinc 9 1, 3) := by decide +kernel
theorem dX10_drawInto_219 : decode cX10_drawInto 219 = .ok (.goto (-90), 3) := by decide +kernel
theorem dX10_drawInto_222 : decode cX10_drawInto 222 = .ok (.iload 5, 2) := by decide +kernel
theorem dX10_drawInto_224 : decode cX10_drawInto 224 = .ok (.ireturn, 1) := by decide +kernel
theorem dX10_goesOn_0 : decode cX10_goesOn 0 = .ok (.aload_n 0, 1) := by decide +kernel
theorem dX10_goesOn_1 : decode cX10_goesOn 1 = .ok (.iload_n 1, 1) := by decide +kernel
theorem dX10_goesOn_2 : decode cX10_goesOn 2 = .ok (.iconst 1, 1) := by decide +kernel
theorem dX10_goesOn_3 : decode cX10_goesOn 3 = .ok (.iadd, 1) := by decide +kernel
theorem dX10_goesOn_4 : decode cX10_goesOn 4 = .ok (.iload_n 2, 1) := by decide +kernel
theorem dX10_goesOn_5 : decode cX10_goesOn 5 = .ok (.iload_n 3, 1) := by decide +kernel
theorem dX10_goesOn_6 : decode cX10_goesOn 6 = .ok (.iadd, 1) := by decide +kernel
theorem dX10_goesOn_7 : decode cX10_goesOn 7 = .ok (.invokevirtual 316, 3) := by decide +kernel
theorem dX10_goesOn_10 : decode cX10_goesOn 10 = .ok (.ifCond .eq 53, 3) := by decide +kernel
theorem dX10_goesOn_13 : decode cX10_goesOn 13 = .ok (.iload 4, 2) := by decide +kernel
theorem dX10_goesOn_15 : decode cX10_goesOn 15 = .ok (.iconst 5, 1) := by decide +kernel
theorem dX10_goesOn_16 : decode cX10_goesOn 16 = .ok (.if_icmp .ne 7, 3) := by decide +kernel
theorem dX10_goesOn_19 : decode cX10_goesOn 19 = .ok (.iconst 0, 1) := by decide +kernel
theorem dX10_goesOn_20 : decode cX10_goesOn 20 = .ok (.goto 12, 3) := by decide +kernel
theorem dX10_goesOn_23 : decode cX10_goesOn 23 = .ok (.iload_n 3, 1) := by decide +kernel
theorem dX10_goesOn_24 : decode cX10_goesOn 24 = .ok (.iconst 2, 1) := by decide +kernel
theorem dX10_goesOn_25 : decode cX10_goesOn 25 = .ok (.iadd, 1) := by decide +kernel
theorem dX10_goesOn_26 : decode cX10_goesOn 26 = .ok (.iload 4, 2) := by decide +kernel
theorem dX10_goesOn_28 : decode cX10_goesOn 28 = .ok (.isub, 1) := by decide +kernel
theorem dX10_goesOn_29 : decode cX10_goesOn 29 = .ok (.invokestatic 195, 3) := by decide +kernel
theorem dX10_goesOn_32 : decode cX10_goesOn 32 = .ok (.aload_n 0, 1) := by decide +kernel
theorem dX10_goesOn_33 : decode cX10_goesOn 33 = .ok (.getfield 92, 3) := by decide +kernel
theorem dX10_goesOn_36 : decode cX10_goesOn 36 = .ok (.bipush 60, 2) := by decide +kernel
theorem dX10_goesOn_38 : decode cX10_goesOn 38 = .ok (.iload_n 1, 1) := by decide +kernel
theorem dX10_goesOn_39 : decode cX10_goesOn 39 = .ok (.iconst 1, 1) := by decide +kernel
theorem dX10_goesOn_40 : decode cX10_goesOn 40 = .ok (.iadd, 1) := by decide +kernel
theorem dX10_goesOn_41 : decode cX10_goesOn 41 = .ok (.imul, 1) := by decide +kernel
theorem dX10_goesOn_42 : decode cX10_goesOn 42 = .ok (.iconst 5, 1) := by decide +kernel
theorem dX10_goesOn_43 : decode cX10_goesOn 43 = .ok (.iload_n 2, 1) := by decide +kernel
theorem dX10_goesOn_44 : decode cX10_goesOn 44 = .ok (.iload_n 3, 1) := by decide +kernel
theorem dX10_goesOn_45 : decode cX10_goesOn 45 = .ok (.iadd, 1) := by decide +kernel
theorem dX10_goesOn_46 : decode cX10_goesOn 46 = .ok (.imul, 1) := by decide +kernel
theorem dX10_goesOn_47 : decode cX10_goesOn 47 = .ok (.iadd, 1) := by decide +kernel
theorem dX10_goesOn_48 : decode cX10_goesOn 48 = .ok (.iload_n 3, 1) := by decide +kernel
theorem dX10_goesOn_49 : decode cX10_goesOn 49 = .ok (.iadd, 1) := by decide +kernel
theorem dX10_goesOn_50 : decode cX10_goesOn 50 = .ok (.iconst 2, 1) := by decide +kernel
theorem dX10_goesOn_51 : decode cX10_goesOn 51 = .ok (.iadd, 1) := by decide +kernel
theorem dX10_goesOn_52 : decode cX10_goesOn 52 = .ok (.iaload, 1) := by decide +kernel
theorem dX10_goesOn_53 : decode cX10_goesOn 53 = .ok (.iadd, 1) := by decide +kernel
theorem dX10_goesOn_54 : decode cX10_goesOn 54 = .ok (.iload 5, 2) := by decide +kernel
theorem dX10_goesOn_56 : decode cX10_goesOn 56 = .ok (.if_icmp .ne 7, 3) := by decide +kernel
theorem dX10_goesOn_59 : decode cX10_goesOn 59 = .ok (.iconst 1, 1) := by decide +kernel
theorem dX10_goesOn_60 : decode cX10_goesOn 60 = .ok (.goto 4, 3) := by decide +kernel
theorem dX10_goesOn_63 : decode cX10_goesOn 63 = .ok (.iconst 0, 1) := by decide +kernel
theorem dX10_goesOn_64 : decode cX10_goesOn 64 = .ok (.ireturn, 1) := by decide +kernel
theorem dX10_areGates_0 : decode cX10_areGates 0 = .ok (.iconst 1, 1) := by decide +kernel
theorem dX10_areGates_1 : decode cX10_areGates 1 = .ok (.istore_n 3, 1) := by decide +kernel
theorem dX10_areGates_2 : decode cX10_areGates 2 = .ok (.iconst 0, 1) := by decide +kernel
theorem dX10_areGates_3 : decode cX10_areGates 3 = .ok (.istore 4, 2) := by decide +kernel
theorem dX10_areGates_5 : decode cX10_areGates 5 = .ok (.iload 4, 2) := by decide +kernel
theorem dX10_areGates_7 : decode cX10_areGates 7 = .ok (.iload_n 2, 1) := by decide +kernel
theorem dX10_areGates_8 : decode cX10_areGates 8 = .ok (.if_icmp .ge 94, 3) := by decide +kernel
theorem dX10_areGates_11 : decode cX10_areGates 11 = .ok (.iload_n 1, 1) := by decide +kernel
theorem dX10_areGates_12 : decode cX10_areGates 12 = .ok (.iconst 3, 1) := by decide +kernel
theorem dX10_areGates_13 : decode cX10_areGates 13 = .ok (.iload 4, 2) := by decide +kernel
theorem dX10_areGates_15 : decode cX10_areGates 15 = .ok (.imul, 1) := by decide +kernel
theorem dX10_areGates_16 : decode cX10_areGates 16 = .ok (.iadd, 1) := by decide +kernel
theorem dX10_areGates_17 : decode cX10_areGates 17 = .ok (.istore 5, 2) := by decide +kernel
theorem dX10_areGates_19 : decode cX10_areGates 19 = .ok (.iload_n 3, 1) := by decide +kernel
theorem dX10_areGates_20 : decode cX10_areGates 20 = .ok (.ifCond .eq 74, 3) := by decide +kernel
theorem dX10_areGates_23 : decode cX10_areGates 23 = .ok (.aload_n 0, 1) := by decide +kernel
theorem dX10_areGates_24 : decode cX10_areGates 24 = .ok (.getfield 131, 3) := by decide +kernel
theorem dX10_areGates_27 : decode cX10_areGates 27 = .ok (.iload 5, 2) := by decide +kernel
theorem dX10_areGates_29 : decode cX10_areGates 29 = .ok (.iaload, 1) := by decide +kernel
theorem dX10_areGates_30 : decode cX10_areGates 30 = .ok (.i2l, 1) := by decide +kernel
theorem dX10_areGates_31 : decode cX10_areGates 31 = .ok (.lconst 0, 1) := by decide +kernel
theorem dX10_areGates_32 : decode cX10_areGates 32 = .ok (.ldc2_w 160, 3) := by decide +kernel
theorem dX10_areGates_35 : decode cX10_areGates 35 = .ok (.invokestatic 156, 3) := by decide +kernel
theorem dX10_areGates_38 : decode cX10_areGates 38 = .ok (.ifCond .eq 56, 3) := by decide +kernel
theorem dX10_areGates_41 : decode cX10_areGates 41 = .ok (.aload_n 0, 1) := by decide +kernel
theorem dX10_areGates_42 : decode cX10_areGates 42 = .ok (.getfield 131, 3) := by decide +kernel
theorem dX10_areGates_45 : decode cX10_areGates 45 = .ok (.iload 5, 2) := by decide +kernel
theorem dX10_areGates_47 : decode cX10_areGates 47 = .ok (.iconst 1, 1) := by decide +kernel
theorem dX10_areGates_48 : decode cX10_areGates 48 = .ok (.iadd, 1) := by decide +kernel
theorem dX10_areGates_49 : decode cX10_areGates 49 = .ok (.iaload, 1) := by decide +kernel
theorem dX10_areGates_50 : decode cX10_areGates 50 = .ok (.i2l, 1) := by decide +kernel
theorem dX10_areGates_51 : decode cX10_areGates 51 = .ok (.lconst 0, 1) := by decide +kernel
theorem dX10_areGates_52 : decode cX10_areGates 52 = .ok (.ldc2_w 160, 3) := by decide +kernel
theorem dX10_areGates_55 : decode cX10_areGates 55 = .ok (.invokestatic 156, 3) := by decide +kernel
theorem dX10_areGates_58 : decode cX10_areGates 58 = .ok (.ifCond .eq 36, 3) := by decide +kernel
theorem dX10_areGates_61 : decode cX10_areGates 61 = .ok (.aload_n 0, 1) := by decide +kernel
theorem dX10_areGates_62 : decode cX10_areGates 62 = .ok (.getfield 131, 3) := by decide +kernel
theorem dX10_areGates_65 : decode cX10_areGates 65 = .ok (.iload 5, 2) := by decide +kernel
theorem dX10_areGates_67 : decode cX10_areGates 67 = .ok (.iconst 2, 1) := by decide +kernel
theorem dX10_areGates_68 : decode cX10_areGates 68 = .ok (.iadd, 1) := by decide +kernel
theorem dX10_areGates_69 : decode cX10_areGates 69 = .ok (.iaload, 1) := by decide +kernel
theorem dX10_areGates_70 : decode cX10_areGates 70 = .ok (.i2l, 1) := by decide +kernel
theorem dX10_areGates_71 : decode cX10_areGates 71 = .ok (.aload_n 0, 1) := by decide +kernel
theorem dX10_areGates_72 : decode cX10_areGates 72 = .ok (.getfield 131, 3) := by decide +kernel
theorem dX10_areGates_75 : decode cX10_areGates 75 = .ok (.iload 5, 2) := by decide +kernel
theorem dX10_areGates_77 : decode cX10_areGates 77 = .ok (.iconst 1, 1) := by decide +kernel
theorem dX10_areGates_78 : decode cX10_areGates 78 = .ok (.iadd, 1) := by decide +kernel
theorem dX10_areGates_79 : decode cX10_areGates 79 = .ok (.iaload, 1) := by decide +kernel
theorem dX10_areGates_80 : decode cX10_areGates 80 = .ok (.i2l, 1) := by decide +kernel
theorem dX10_areGates_81 : decode cX10_areGates 81 = .ok (.ldc2_w 160, 3) := by decide +kernel
theorem dX10_areGates_84 : decode cX10_areGates 84 = .ok (.invokestatic 156, 3) := by decide +kernel
theorem dX10_areGates_87 : decode cX10_areGates 87 = .ok (.ifCond .eq 7, 3) := by decide +kernel
theorem dX10_areGates_90 : decode cX10_areGates 90 = .ok (.iconst 1, 1) := by decide +kernel
theorem dX10_areGates_91 : decode cX10_areGates 91 = .ok (.goto 4, 3) := by decide +kernel
theorem dX10_areGates_94 : decode cX10_areGates 94 = .ok (.iconst 0, 1) := by decide +kernel
theorem dX10_areGates_95 : decode cX10_areGates 95 = .ok (.istore_n 3, 1) := by decide +kernel
theorem dX10_areGates_96 : decode cX10_areGates 96 = .ok (.iinc 4 1, 3) := by decide +kernel
theorem dX10_areGates_99 : decode cX10_areGates 99 = .ok (.goto (-94), 3) := by decide +kernel
theorem dX10_areGates_102 : decode cX10_areGates 102 = .ok (.iload_n 3, 1) := by decide +kernel
theorem dX10_areGates_103 : decode cX10_areGates 103 = .ok (.ireturn, 1) := by decide +kernel
theorem dX10_layGates_0 : decode cX10_layGates 0 = .ok (.iconst 0, 1) := by decide +kernel
theorem dX10_layGates_1 : decode cX10_layGates 1 = .ok (.istore_n 3, 1) := by decide +kernel
theorem dX10_layGates_2 : decode cX10_layGates 2 = .ok (.iload_n 3, 1) := by decide +kernel
theorem dX10_layGates_3 : decode cX10_layGates 3 = .ok (.bipush 12, 2) := by decide +kernel
theorem dX10_layGates_5 : decode cX10_layGates 5 = .ok (.if_icmp .ge 24, 3) := by decide +kernel
theorem dX10_layGates_8 : decode cX10_layGates 8 = .ok (.aload_n 0, 1) := by decide +kernel
theorem dX10_layGates_9 : decode cX10_layGates 9 = .ok (.getfield 86, 3) := by decide +kernel
theorem dX10_layGates_12 : decode cX10_layGates 12 = .ok (.iload_n 3, 1) := by decide +kernel
theorem dX10_layGates_13 : decode cX10_layGates 13 = .ok (.iconst 0, 1) := by decide +kernel
theorem dX10_layGates_14 : decode cX10_layGates 14 = .ok (.iastore, 1) := by decide +kernel
theorem dX10_layGates_15 : decode cX10_layGates 15 = .ok (.aload_n 0, 1) := by decide +kernel
theorem dX10_layGates_16 : decode cX10_layGates 16 = .ok (.getfield 89, 3) := by decide +kernel
theorem dX10_layGates_19 : decode cX10_layGates 19 = .ok (.iload_n 3, 1) := by decide +kernel
theorem dX10_layGates_20 : decode cX10_layGates 20 = .ok (.bipush 11, 2) := by decide +kernel
theorem dX10_layGates_22 : decode cX10_layGates 22 = .ok (.iastore, 1) := by decide +kernel
theorem dX10_layGates_23 : decode cX10_layGates 23 = .ok (.iinc 3 1, 3) := by decide +kernel
theorem dX10_layGates_26 : decode cX10_layGates 26 = .ok (.goto (-24), 3) := by decide +kernel
theorem dX10_layGates_29 : decode cX10_layGates 29 = .ok (.iconst 0, 1) := by decide +kernel
theorem dX10_layGates_30 : decode cX10_layGates 30 = .ok (.istore_n 3, 1) := by decide +kernel
theorem dX10_layGates_31 : decode cX10_layGates 31 = .ok (.iload_n 3, 1) := by decide +kernel
theorem dX10_layGates_32 : decode cX10_layGates 32 = .ok (.iload_n 2, 1) := by decide +kernel
theorem dX10_layGates_33 : decode cX10_layGates 33 = .ok (.if_icmp .ge 96, 3) := by decide +kernel
theorem dX10_layGates_36 : decode cX10_layGates 36 = .ok (.iload_n 1, 1) := by decide +kernel
theorem dX10_layGates_37 : decode cX10_layGates 37 = .ok (.iconst 3, 1) := by decide +kernel
theorem dX10_layGates_38 : decode cX10_layGates 38 = .ok (.iload_n 3, 1) := by decide +kernel
theorem dX10_layGates_39 : decode cX10_layGates 39 = .ok (.imul, 1) := by decide +kernel
theorem dX10_layGates_40 : decode cX10_layGates 40 = .ok (.iadd, 1) := by decide +kernel
theorem dX10_layGates_41 : decode cX10_layGates 41 = .ok (.istore 4, 2) := by decide +kernel
theorem dX10_layGates_43 : decode cX10_layGates 43 = .ok (.aload_n 0, 1) := by decide +kernel
theorem dX10_layGates_44 : decode cX10_layGates 44 = .ok (.getfield 131, 3) := by decide +kernel
theorem dX10_layGates_47 : decode cX10_layGates 47 = .ok (.iload 4, 2) := by decide +kernel
theorem dX10_layGates_49 : decode cX10_layGates 49 = .ok (.iaload, 1) := by decide +kernel
theorem dX10_layGates_50 : decode cX10_layGates 50 = .ok (.istore 5, 2) := by decide +kernel
theorem dX10_layGates_52 : decode cX10_layGates 52 = .ok (.aload_n 0, 1) := by decide +kernel
theorem dX10_layGates_53 : decode cX10_layGates 53 = .ok (.getfield 86, 3) := by decide +kernel
theorem dX10_layGates_56 : decode cX10_layGates 56 = .ok (.iload 5, 2) := by decide +kernel
theorem dX10_layGates_58 : decode cX10_layGates 58 = .ok (.aload_n 0, 1) := by decide +kernel
theorem dX10_layGates_59 : decode cX10_layGates 59 = .ok (.getfield 86, 3) := by decide +kernel
theorem dX10_layGates_62 : decode cX10_layGates 62 = .ok (.iload 5, 2) := by decide +kernel
theorem dX10_layGates_64 : decode cX10_layGates 64 = .ok (.iaload, 1) := by decide +kernel
theorem dX10_layGates_65 : decode cX10_layGates 65 = .ok (.aload_n 0, 1) := by decide +kernel
theorem dX10_layGates_66 : decode cX10_layGates 66 = .ok (.getfield 131, 3) := by decide +kernel
theorem dX10_layGates_69 : decode cX10_layGates 69 = .ok (.iload 4, 2) := by decide +kernel
theorem dX10_layGates_71 : decode cX10_layGates 71 = .ok (.iconst 1, 1) := by decide +kernel
theorem dX10_layGates_72 : decode cX10_layGates 72 = .ok (.iadd, 1) := by decide +kernel
theorem dX10_layGates_73 : decode cX10_layGates 73 = .ok (.iaload, 1) := by decide +kernel
theorem dX10_layGates_74 : decode cX10_layGates 74 = .ok (.invokestatic 198, 3) := by decide +kernel
theorem dX10_layGates_77 : decode cX10_layGates 77 = .ok (.iastore, 1) := by decide +kernel
theorem dX10_layGates_78 : decode cX10_layGates 78 = .ok (.aload_n 0, 1) := by decide +kernel
theorem dX10_layGates_79 : decode cX10_layGates 79 = .ok (.getfield 89, 3) := by decide +kernel
theorem dX10_layGates_82 : decode cX10_layGates 82 = .ok (.iload 5, 2) := by decide +kernel
theorem dX10_layGates_84 : decode cX10_layGates 84 = .ok (.aload_n 0, 1) := by decide +kernel
theorem dX10_layGates_85 : decode cX10_layGates 85 = .ok (.getfield 131, 3) := by decide +kernel
theorem dX10_layGates_88 : decode cX10_layGates 88 = .ok (.iload 4, 2) := by decide +kernel
theorem dX10_layGates_90 : decode cX10_layGates 90 = .ok (.iconst 2, 1) := by decide +kernel
theorem dX10_layGates_91 : decode cX10_layGates 91 = .ok (.iadd, 1) := by decide +kernel
theorem dX10_layGates_92 : decode cX10_layGates 92 = .ok (.iaload, 1) := by decide +kernel
theorem dX10_layGates_93 : decode cX10_layGates 93 = .ok (.aload_n 0, 1) := by decide +kernel
theorem dX10_layGates_94 : decode cX10_layGates 94 = .ok (.getfield 89, 3) := by decide +kernel
theorem dX10_layGates_97 : decode cX10_layGates 97 = .ok (.iload 5, 2) := by decide +kernel
theorem dX10_layGates_99 : decode cX10_layGates 99 = .ok (.iaload, 1) := by decide +kernel
theorem dX10_layGates_100 : decode cX10_layGates 100 = .ok (.if_icmp .ge 15, 3) := by decide +kernel
theorem dX10_layGates_103 : decode cX10_layGates 103 = .ok (.aload_n 0, 1) := by decide +kernel
theorem dX10_layGates_104 : decode cX10_layGates 104 = .ok (.getfield 131, 3) := by decide +kernel
theorem dX10_layGates_107 : decode cX10_layGates 107 = .ok (.iload 4, 2) := by decide +kernel
theorem dX10_layGates_109 : decode cX10_layGates 109 = .ok (.iconst 2, 1) := by decide +kernel
theorem dX10_layGates_110 : decode cX10_layGates 110 = .ok (.iadd, 1) := by decide +kernel
theorem dX10_layGates_111 : decode cX10_layGates 111 = .ok (.iaload, 1) := by decide +kernel
theorem dX10_layGates_112 : decode cX10_layGates 112 = .ok (.goto 10, 3) := by decide +kernel
theorem dX10_layGates_115 : decode cX10_layGates 115 = .ok (.aload_n 0, 1) := by decide +kernel
theorem dX10_layGates_116 : decode cX10_layGates 116 = .ok (.getfield 89, 3) := by decide +kernel
theorem dX10_layGates_119 : decode cX10_layGates 119 = .ok (.iload 5, 2) := by decide +kernel
theorem dX10_layGates_121 : decode cX10_layGates 121 = .ok (.iaload, 1) := by decide +kernel
theorem dX10_layGates_122 : decode cX10_layGates 122 = .ok (.iastore, 1) := by decide +kernel
theorem dX10_layGates_123 : decode cX10_layGates 123 = .ok (.iinc 3 1, 3) := by decide +kernel
theorem dX10_layGates_126 : decode cX10_layGates 126 = .ok (.goto (-95), 3) := by decide +kernel
theorem dX10_layGates_129 : decode cX10_layGates 129 = .ok (.return_, 1) := by decide +kernel
theorem dX10_drawn_0 : decode cX10_drawn 0 = .ok (.aload_n 0, 1) := by decide +kernel
theorem dX10_drawn_1 : decode cX10_drawn 1 = .ok (.iload 5, 2) := by decide +kernel
theorem dX10_drawn_3 : decode cX10_drawn 3 = .ok (.iload 6, 2) := by decide +kernel
theorem dX10_drawn_5 : decode cX10_drawn 5 = .ok (.invokevirtual 331, 3) := by decide +kernel
theorem dX10_drawn_8 : decode cX10_drawn 8 = .ok (.ifCond .ne 6, 3) := by decide +kernel
theorem dX10_drawn_11 : decode cX10_drawn 11 = .ok (.bipush (-2), 2) := by decide +kernel
theorem dX10_drawn_13 : decode cX10_drawn 13 = .ok (.ireturn, 1) := by decide +kernel
theorem dX10_drawn_14 : decode cX10_drawn 14 = .ok (.aload_n 0, 1) := by decide +kernel
theorem dX10_drawn_15 : decode cX10_drawn 15 = .ok (.iload 5, 2) := by decide +kernel
theorem dX10_drawn_17 : decode cX10_drawn 17 = .ok (.iload 6, 2) := by decide +kernel
theorem dX10_drawn_19 : decode cX10_drawn 19 = .ok (.invokevirtual 334, 3) := by decide +kernel
theorem dX10_drawn_22 : decode cX10_drawn 22 = .ok (.aload_n 0, 1) := by decide +kernel
theorem dX10_drawn_23 : decode cX10_drawn 23 = .ok (.getfield 68, 3) := by decide +kernel
theorem dX10_drawn_26 : decode cX10_drawn 26 = .ok (.iload_n 1, 1) := by decide +kernel
theorem dX10_drawn_27 : decode cX10_drawn 27 = .ok (.iaload, 1) := by decide +kernel
theorem dX10_drawn_28 : decode cX10_drawn 28 = .ok (.iconst 5, 1) := by decide +kernel
theorem dX10_drawn_29 : decode cX10_drawn 29 = .ok (.if_icmp .ne 7, 3) := by decide +kernel
theorem dX10_drawn_32 : decode cX10_drawn 32 = .ok (.iconst 1, 1) := by decide +kernel
theorem dX10_drawn_33 : decode cX10_drawn 33 = .ok (.goto 4, 3) := by decide +kernel
theorem dX10_drawn_36 : decode cX10_drawn 36 = .ok (.iconst 0, 1) := by decide +kernel
theorem dX10_drawn_37 : decode cX10_drawn 37 = .ok (.istore 7, 2) := by decide +kernel
theorem dX10_drawn_39 : decode cX10_drawn 39 = .ok (.iload 7, 2) := by decide +kernel
theorem dX10_drawn_41 : decode cX10_drawn 41 = .ok (.ifCond .eq 91, 3) := by decide +kernel
theorem dX10_drawn_44 : decode cX10_drawn 44 = .ok (.aload_n 0, 1) := by decide +kernel
theorem dX10_drawn_45 : decode cX10_drawn 45 = .ok (.iload_n 3, 1) := by decide +kernel
theorem dX10_drawn_46 : decode cX10_drawn 46 = .ok (.iload 4, 2) := by decide +kernel
theorem dX10_drawn_48 : decode cX10_drawn 48 = .ok (.invokevirtual 323, 3) := by decide +kernel
theorem dX10_drawn_51 : decode cX10_drawn 51 = .ok (.ldc_w 315, 3) := by decide +kernel
theorem dX10_drawn_54 : decode cX10_drawn 54 = .ok (.istore 8, 2) := by decide +kernel
theorem dX10_drawn_56 : decode cX10_drawn 56 = .ok (.iconst 0, 1) := by decide +kernel
theorem dX10_drawn_57 : decode cX10_drawn 57 = .ok (.istore 9, 2) := by decide +kernel
theorem dX10_drawn_59 : decode cX10_drawn 59 = .ok (.iload 9, 2) := by decide +kernel
theorem dX10_drawn_61 : decode cX10_drawn 61 = .ok (.bipush 12, 2) := by decide +kernel
theorem dX10_drawn_63 : decode cX10_drawn 63 = .ok (.if_icmp .ge 53, 3) := by decide +kernel
theorem dX10_drawn_66 : decode cX10_drawn 66 = .ok (.aload_n 0, 1) := by decide +kernel
theorem dX10_drawn_67 : decode cX10_drawn 67 = .ok (.iload_n 3, 1) := by decide +kernel
theorem dX10_drawn_68 : decode cX10_drawn 68 = .ok (.iload 9, 2) := by decide +kernel
theorem dX10_drawn_70 : decode cX10_drawn 70 = .ok (.invokevirtual 316, 3) := by decide +kernel
theorem dX10_drawn_73 : decode cX10_drawn 73 = .ok (.ifCond .eq 16, 3) := by decide +kernel
theorem dX10_drawn_76 : decode cX10_drawn 76 = .ok (.aload_n 0, 1) := by decide +kernel
theorem dX10_drawn_77 : decode cX10_drawn 77 = .ok (.iload_n 3, 1) := by decide +kernel
theorem dX10_drawn_78 : decode cX10_drawn 78 = .ok (.iload 9, 2) := by decide +kernel
theorem dX10_drawn_80 : decode cX10_drawn 80 = .ok (.iconst 5, 1) := by decide +kernel
theorem dX10_drawn_81 : decode cX10_drawn 81 = .ok (.iload 4, 2) := by decide +kernel
theorem dX10_drawn_83 : decode cX10_drawn 83 = .ok (.invokevirtual 319, 3) := by decide +kernel
theorem dX10_drawn_86 : decode cX10_drawn 86 = .ok (.goto 6, 3) := by decide +kernel
theorem dX10_drawn_89 : decode cX10_drawn 89 = .ok (.ldc_w 315, 3) := by decide +kernel
theorem dX10_drawn_92 : decode cX10_drawn 92 = .ok (.istore 10, 2) := by decide +kernel
theorem dX10_drawn_94 : decode cX10_drawn 94 = .ok (.iload 10, 2) := by decide +kernel
theorem dX10_drawn_96 : decode cX10_drawn 96 = .ok (.iload 8, 2) := by decide +kernel
theorem dX10_drawn_98 : decode cX10_drawn 98 = .ok (.if_icmp .ge 8, 3) := by decide +kernel
theorem dX10_drawn_101 : decode cX10_drawn 101 = .ok (.iload 10, 2) := by decide +kernel
theorem dX10_drawn_103 : decode cX10_drawn 103 = .ok (.goto 5, 3) := by decide +kernel
theorem dX10_drawn_106 : decode cX10_drawn 106 = .ok (.iload 8, 2) := by decide +kernel
theorem dX10_drawn_108 : decode cX10_drawn 108 = .ok (.istore 8, 2) := by decide +kernel
theorem dX10_drawn_110 : decode cX10_drawn 110 = .ok (.iinc 9 1, 3) := by decide +kernel
theorem dX10_drawn_113 : decode cX10_drawn 113 = .ok (.goto (-54), 3) := by decide +kernel
theorem dX10_drawn_116 : decode cX10_drawn 116 = .ok (.iload 8, 2) := by decide +kernel
theorem dX10_drawn_118 : decode cX10_drawn 118 = .ok (.ldc_w 315, 3) := by decide +kernel
theorem dX10_drawn_121 : decode cX10_drawn 121 = .ok (.if_icmp .ne 8, 3) := by decide +kernel
theorem dX10_drawn_124 : decode cX10_drawn 124 = .ok (.bipush (-3), 2) := by decide +kernel
theorem dX10_drawn_126 : decode cX10_drawn 126 = .ok (.goto 5, 3) := by decide +kernel
theorem dX10_drawn_129 : decode cX10_drawn 129 = .ok (.bipush (-4), 2) := by decide +kernel
theorem dX10_drawn_131 : decode cX10_drawn 131 = .ok (.ireturn, 1) := by decide +kernel
theorem dX10_drawn_132 : decode cX10_drawn 132 = .ok (.iconst 5, 1) := by decide +kernel
theorem dX10_drawn_133 : decode cX10_drawn 133 = .ok (.iload_n 1, 1) := by decide +kernel
theorem dX10_drawn_134 : decode cX10_drawn 134 = .ok (.imul, 1) := by decide +kernel
theorem dX10_drawn_135 : decode cX10_drawn 135 = .ok (.aload_n 0, 1) := by decide +kernel
theorem dX10_drawn_136 : decode cX10_drawn 136 = .ok (.getfield 68, 3) := by decide +kernel
theorem dX10_drawn_139 : decode cX10_drawn 139 = .ok (.iload_n 1, 1) := by decide +kernel
theorem dX10_drawn_140 : decode cX10_drawn 140 = .ok (.iaload, 1) := by decide +kernel
theorem dX10_drawn_141 : decode cX10_drawn 141 = .ok (.iadd, 1) := by decide +kernel
theorem dX10_drawn_142 : decode cX10_drawn 142 = .ok (.istore 8, 2) := by decide +kernel
theorem dX10_drawn_144 : decode cX10_drawn 144 = .ok (.aload_n 0, 1) := by decide +kernel
theorem dX10_drawn_145 : decode cX10_drawn 145 = .ok (.iload 8, 2) := by decide +kernel
theorem dX10_drawn_147 : decode cX10_drawn 147 = .ok (.iload_n 3, 1) := by decide +kernel
theorem dX10_drawn_148 : decode cX10_drawn 148 = .ok (.iload 4, 2) := by decide +kernel
theorem dX10_drawn_150 : decode cX10_drawn 150 = .ok (.invokevirtual 337, 3) := by decide +kernel
theorem dX10_drawn_153 : decode cX10_drawn 153 = .ok (.istore 9, 2) := by decide +kernel
theorem dX10_drawn_155 : decode cX10_drawn 155 = .ok (.iload 9, 2) := by decide +kernel
theorem dX10_drawn_157 : decode cX10_drawn 157 = .ok (.ldc_w 315, 3) := by decide +kernel
theorem dX10_drawn_160 : decode cX10_drawn 160 = .ok (.if_icmp .ne 6, 3) := by decide +kernel
theorem dX10_drawn_163 : decode cX10_drawn 163 = .ok (.bipush (-3), 2) := by decide +kernel
theorem dX10_drawn_165 : decode cX10_drawn 165 = .ok (.ireturn, 1) := by decide +kernel
theorem dX10_drawn_166 : decode cX10_drawn 166 = .ok (.aload_n 0, 1) := by decide +kernel
theorem dX10_drawn_167 : decode cX10_drawn 167 = .ok (.getfield 71, 3) := by decide +kernel
theorem dX10_drawn_170 : decode cX10_drawn 170 = .ok (.iload 8, 2) := by decide +kernel
theorem dX10_drawn_172 : decode cX10_drawn 172 = .ok (.iload_n 2, 1) := by decide +kernel
theorem dX10_drawn_173 : decode cX10_drawn 173 = .ok (.iastore, 1) := by decide +kernel
theorem dX10_drawn_174 : decode cX10_drawn 174 = .ok (.aload_n 0, 1) := by decide +kernel
theorem dX10_drawn_175 : decode cX10_drawn 175 = .ok (.getfield 74, 3) := by decide +kernel
theorem dX10_drawn_178 : decode cX10_drawn 178 = .ok (.iload 8, 2) := by decide +kernel
theorem dX10_drawn_180 : decode cX10_drawn 180 = .ok (.iload_n 3, 1) := by decide +kernel
theorem dX10_drawn_181 : decode cX10_drawn 181 = .ok (.iastore, 1) := by decide +kernel
theorem dX10_drawn_182 : decode cX10_drawn 182 = .ok (.aload_n 0, 1) := by decide +kernel
theorem dX10_drawn_183 : decode cX10_drawn 183 = .ok (.getfield 77, 3) := by decide +kernel
theorem dX10_drawn_186 : decode cX10_drawn 186 = .ok (.iload 8, 2) := by decide +kernel
theorem dX10_drawn_188 : decode cX10_drawn 188 = .ok (.iload 4, 2) := by decide +kernel
theorem dX10_drawn_190 : decode cX10_drawn 190 = .ok (.iastore, 1) := by decide +kernel
theorem dX10_drawn_191 : decode cX10_drawn 191 = .ok (.aload_n 0, 1) := by decide +kernel
theorem dX10_drawn_192 : decode cX10_drawn 192 = .ok (.getfield 80, 3) := by decide +kernel
theorem dX10_drawn_195 : decode cX10_drawn 195 = .ok (.iload 8, 2) := by decide +kernel
theorem dX10_drawn_197 : decode cX10_drawn 197 = .ok (.iload 9, 2) := by decide +kernel
theorem dX10_drawn_199 : decode cX10_drawn 199 = .ok (.iastore, 1) := by decide +kernel
theorem dX10_drawn_200 : decode cX10_drawn 200 = .ok (.aload_n 0, 1) := by decide +kernel
theorem dX10_drawn_201 : decode cX10_drawn 201 = .ok (.getfield 68, 3) := by decide +kernel
theorem dX10_drawn_204 : decode cX10_drawn 204 = .ok (.iload_n 1, 1) := by decide +kernel
theorem dX10_drawn_205 : decode cX10_drawn 205 = .ok (.dup2, 1) := by decide +kernel
theorem dX10_drawn_206 : decode cX10_drawn 206 = .ok (.iaload, 1) := by decide +kernel
theorem dX10_drawn_207 : decode cX10_drawn 207 = .ok (.iconst 1, 1) := by decide +kernel
theorem dX10_drawn_208 : decode cX10_drawn 208 = .ok (.iadd, 1) := by decide +kernel
theorem dX10_drawn_209 : decode cX10_drawn 209 = .ok (.iastore, 1) := by decide +kernel
theorem dX10_drawn_210 : decode cX10_drawn 210 = .ok (.aload_n 0, 1) := by decide +kernel
theorem dX10_drawn_211 : decode cX10_drawn 211 = .ok (.getfield 68, 3) := by decide +kernel
theorem dX10_drawn_214 : decode cX10_drawn 214 = .ok (.iload_n 1, 1) := by decide +kernel
theorem dX10_drawn_215 : decode cX10_drawn 215 = .ok (.iaload, 1) := by decide +kernel
theorem dX10_drawn_216 : decode cX10_drawn 216 = .ok (.iconst 1, 1) := by decide +kernel
theorem dX10_drawn_217 : decode cX10_drawn 217 = .ok (.isub, 1) := by decide +kernel
theorem dX10_drawn_218 : decode cX10_drawn 218 = .ok (.ireturn, 1) := by decide +kernel
theorem dX10_draw_0 : decode cX10_draw 0 = .ok (.iload 5, 2) := by decide +kernel
theorem dX10_draw_2 : decode cX10_draw 2 = .ok (.invokestatic 212, 3) := by decide +kernel
theorem dX10_draw_5 : decode cX10_draw 5 = .ok (.ifCond .eq 9, 3) := by decide +kernel
theorem dX10_draw_8 : decode cX10_draw 8 = .ok (.aload_n 0, 1) := by decide +kernel
theorem dX10_draw_9 : decode cX10_draw 9 = .ok (.iconst (-1), 1) := by decide +kernel
theorem dX10_draw_10 : decode cX10_draw 10 = .ok (.invokevirtual 215, 3) := by decide +kernel
theorem dX10_draw_13 : decode cX10_draw 13 = .ok (.ireturn, 1) := by decide +kernel
theorem dX10_draw_14 : decode cX10_draw 14 = .ok (.iload 6, 2) := by decide +kernel
theorem dX10_draw_16 : decode cX10_draw 16 = .ok (.i2l, 1) := by decide +kernel
theorem dX10_draw_17 : decode cX10_draw 17 = .ok (.lconst 0, 1) := by decide +kernel
theorem dX10_draw_18 : decode cX10_draw 18 = .ok (.ldc2_w 162, 3) := by decide +kernel
theorem dX10_draw_21 : decode cX10_draw 21 = .ok (.invokestatic 156, 3) := by decide +kernel
theorem dX10_draw_24 : decode cX10_draw 24 = .ok (.ifCond .eq 53, 3) := by decide +kernel
theorem dX10_draw_27 : decode cX10_draw 27 = .ok (.iload_n 1, 1) := by decide +kernel
theorem dX10_draw_28 : decode cX10_draw 28 = .ok (.i2l, 1) := by decide +kernel
theorem dX10_draw_29 : decode cX10_draw 29 = .ok (.lconst 0, 1) := by decide +kernel
theorem dX10_draw_30 : decode cX10_draw 30 = .ok (.lconst 1, 1) := by decide +kernel
theorem dX10_draw_31 : decode cX10_draw 31 = .ok (.invokestatic 156, 3) := by decide +kernel
theorem dX10_draw_34 : decode cX10_draw 34 = .ok (.ifCond .eq 43, 3) := by decide +kernel
theorem dX10_draw_37 : decode cX10_draw 37 = .ok (.iload_n 2, 1) := by decide +kernel
theorem dX10_draw_38 : decode cX10_draw 38 = .ok (.i2l, 1) := by decide +kernel
theorem dX10_draw_39 : decode cX10_draw 39 = .ok (.lconst 0, 1) := by decide +kernel
theorem dX10_draw_40 : decode cX10_draw 40 = .ok (.ldc2_w 162, 3) := by decide +kernel
theorem dX10_draw_43 : decode cX10_draw 43 = .ok (.invokestatic 156, 3) := by decide +kernel
theorem dX10_draw_46 : decode cX10_draw 46 = .ok (.ifCond .eq 31, 3) := by decide +kernel
theorem dX10_draw_49 : decode cX10_draw 49 = .ok (.iload_n 3, 1) := by decide +kernel
theorem dX10_draw_50 : decode cX10_draw 50 = .ok (.i2l, 1) := by decide +kernel
theorem dX10_draw_51 : decode cX10_draw 51 = .ok (.lconst 0, 1) := by decide +kernel
theorem dX10_draw_52 : decode cX10_draw 52 = .ok (.ldc2_w 160, 3) := by decide +kernel
theorem dX10_draw_55 : decode cX10_draw 55 = .ok (.invokestatic 156, 3) := by decide +kernel
theorem dX10_draw_58 : decode cX10_draw 58 = .ok (.ifCond .eq 19, 3) := by decide +kernel
theorem dX10_draw_61 : decode cX10_draw 61 = .ok (.iload 4, 2) := by decide +kernel
theorem dX10_draw_63 : decode cX10_draw 63 = .ok (.i2l, 1) := by decide +kernel
theorem dX10_draw_64 : decode cX10_draw 64 = .ok (.iload_n 3, 1) := by decide +kernel
theorem dX10_draw_65 : decode cX10_draw 65 = .ok (.i2l, 1) := by decide +kernel
theorem dX10_draw_66 : decode cX10_draw 66 = .ok (.lconst 1, 1) := by decide +kernel
theorem dX10_draw_67 : decode cX10_draw 67 = .ok (.ladd, 1) := by decide +kernel
theorem dX10_draw_68 : decode cX10_draw 68 = .ok (.ldc2_w 160, 3) := by decide +kernel
theorem dX10_draw_71 : decode cX10_draw 71 = .ok (.invokestatic 156, 3) := by decide +kernel
theorem dX10_draw_74 : decode cX10_draw 74 = .ok (.ifCond .ne 10, 3) := by decide +kernel
theorem dX10_draw_77 : decode cX10_draw 77 = .ok (.aload_n 0, 1) := by decide +kernel
theorem dX10_draw_78 : decode cX10_draw 78 = .ok (.bipush (-2), 2) := by decide +kernel
theorem dX10_draw_80 : decode cX10_draw 80 = .ok (.invokevirtual 215, 3) := by decide +kernel
theorem dX10_draw_83 : decode cX10_draw 83 = .ok (.ireturn, 1) := by decide +kernel
theorem dX10_draw_84 : decode cX10_draw 84 = .ok (.aload_n 0, 1) := by decide +kernel
theorem dX10_draw_85 : decode cX10_draw 85 = .ok (.getfield 125, 3) := by decide +kernel
theorem dX10_draw_88 : decode cX10_draw 88 = .ok (.iload 5, 2) := by decide +kernel
theorem dX10_draw_90 : decode cX10_draw 90 = .ok (.iaload, 1) := by decide +kernel
theorem dX10_draw_91 : decode cX10_draw 91 = .ok (.ifCond .lt 21, 3) := by decide +kernel
theorem dX10_draw_94 : decode cX10_draw 94 = .ok (.aload_n 0, 1) := by decide +kernel
theorem dX10_draw_95 : decode cX10_draw 95 = .ok (.getfield 128, 3) := by decide +kernel
theorem dX10_draw_98 : decode cX10_draw 98 = .ok (.iload 5, 2) := by decide +kernel
theorem dX10_draw_100 : decode cX10_draw 100 = .ok (.iaload, 1) := by decide +kernel
theorem dX10_draw_101 : decode cX10_draw 101 = .ok (.iload 6, 2) := by decide +kernel
theorem dX10_draw_103 : decode cX10_draw 103 = .ok (.if_icmp .eq 9, 3) := by decide +kernel
theorem dX10_draw_106 : decode cX10_draw 106 = .ok (.aload_n 0, 1) := by decide +kernel
theorem dX10_draw_107 : decode cX10_draw 107 = .ok (.iconst 2, 1) := by decide +kernel
theorem dX10_draw_108 : decode cX10_draw 108 = .ok (.invokevirtual 218, 3) := by decide +kernel
theorem dX10_draw_111 : decode cX10_draw 111 = .ok (.ireturn, 1) := by decide +kernel
theorem dX10_draw_112 : decode cX10_draw 112 = .ok (.aload_n 0, 1) := by decide +kernel
theorem dX10_draw_113 : decode cX10_draw 113 = .ok (.getfield 125, 3) := by decide +kernel
theorem dX10_draw_116 : decode cX10_draw 116 = .ok (.iload 5, 2) := by decide +kernel
theorem dX10_draw_118 : decode cX10_draw 118 = .ok (.iaload, 1) := by decide +kernel
theorem dX10_draw_119 : decode cX10_draw 119 = .ok (.ifCond .ge 9, 3) := by decide +kernel
theorem dX10_draw_122 : decode cX10_draw 122 = .ok (.aload_n 0, 1) := by decide +kernel
theorem dX10_draw_123 : decode cX10_draw 123 = .ok (.iconst 1, 1) := by decide +kernel
theorem dX10_draw_124 : decode cX10_draw 124 = .ok (.invokevirtual 218, 3) := by decide +kernel
theorem dX10_draw_127 : decode cX10_draw 127 = .ok (.ireturn, 1) := by decide +kernel
theorem dX10_draw_128 : decode cX10_draw 128 = .ok (.iload 8, 2) := by decide +kernel
theorem dX10_draw_130 : decode cX10_draw 130 = .ok (.ifCond .ge 9, 3) := by decide +kernel
theorem dX10_draw_133 : decode cX10_draw 133 = .ok (.aload_n 0, 1) := by decide +kernel
theorem dX10_draw_134 : decode cX10_draw 134 = .ok (.iconst 4, 1) := by decide +kernel
theorem dX10_draw_135 : decode cX10_draw 135 = .ok (.invokevirtual 218, 3) := by decide +kernel
theorem dX10_draw_138 : decode cX10_draw 138 = .ok (.ireturn, 1) := by decide +kernel
theorem dX10_draw_139 : decode cX10_draw 139 = .ok (.iload 7, 2) := by decide +kernel
theorem dX10_draw_141 : decode cX10_draw 141 = .ok (.ldc2_w 340, 3) := by decide +kernel
theorem dX10_draw_144 : decode cX10_draw 144 = .ok (.iload 8, 2) := by decide +kernel
theorem dX10_draw_146 : decode cX10_draw 146 = .ok (.i2l, 1) := by decide +kernel
theorem dX10_draw_147 : decode cX10_draw 147 = .ok (.lmul, 1) := by decide +kernel
theorem dX10_draw_148 : decode cX10_draw 148 = .ok (.aload_n 0, 1) := by decide +kernel
theorem dX10_draw_149 : decode cX10_draw 149 = .ok (.getfield 125, 3) := by decide +kernel
theorem dX10_draw_152 : decode cX10_draw 152 = .ok (.iload 5, 2) := by decide +kernel
theorem dX10_draw_154 : decode cX10_draw 154 = .ok (.iaload, 1) := by decide +kernel
theorem dX10_draw_155 : decode cX10_draw 155 = .ok (.invokestatic 223, 3) := by decide +kernel
theorem dX10_draw_158 : decode cX10_draw 158 = .ok (.ifCond .eq 9, 3) := by decide +kernel
theorem dX10_draw_161 : decode cX10_draw 161 = .ok (.aload_n 0, 1) := by decide +kernel
theorem dX10_draw_162 : decode cX10_draw 162 = .ok (.iconst 3, 1) := by decide +kernel
theorem dX10_draw_163 : decode cX10_draw 163 = .ok (.invokevirtual 218, 3) := by decide +kernel
theorem dX10_draw_166 : decode cX10_draw 166 = .ok (.ireturn, 1) := by decide +kernel
theorem dX10_draw_167 : decode cX10_draw 167 = .ok (.aload_n 0, 1) := by decide +kernel
theorem dX10_draw_168 : decode cX10_draw 168 = .ok (.aload_n 0, 1) := by decide +kernel
theorem dX10_draw_169 : decode cX10_draw 169 = .ok (.iload_n 1, 1) := by decide +kernel
theorem dX10_draw_170 : decode cX10_draw 170 = .ok (.iload_n 2, 1) := by decide +kernel
theorem dX10_draw_171 : decode cX10_draw 171 = .ok (.iload_n 3, 1) := by decide +kernel
theorem dX10_draw_172 : decode cX10_draw 172 = .ok (.iload 4, 2) := by decide +kernel
theorem dX10_draw_174 : decode cX10_draw 174 = .ok (.bipush 60, 2) := by decide +kernel
theorem dX10_draw_176 : decode cX10_draw 176 = .ok (.iload 5, 2) := by decide +kernel
theorem dX10_draw_178 : decode cX10_draw 178 = .ok (.imul, 1) := by decide +kernel
theorem dX10_draw_179 : decode cX10_draw 179 = .ok (.iload 7, 2) := by decide +kernel
theorem dX10_draw_181 : decode cX10_draw 181 = .ok (.iadd, 1) := by decide +kernel
theorem dX10_draw_182 : decode cX10_draw 182 = .ok (.iload 8, 2) := by decide +kernel
theorem dX10_draw_184 : decode cX10_draw 184 = .ok (.invokevirtual 342, 3) := by decide +kernel
theorem dX10_draw_187 : decode cX10_draw 187 = .ok (.invokevirtual 215, 3) := by decide +kernel
theorem dX10_draw_190 : decode cX10_draw 190 = .ok (.ireturn, 1) := by decide +kernel
theorem dX10_costOf_0 : decode cX10_costOf 0 = .ok (.iconst 0, 1) := by decide +kernel
theorem dX10_costOf_1 : decode cX10_costOf 1 = .ok (.istore_n 3, 1) := by decide +kernel
theorem dX10_costOf_2 : decode cX10_costOf 2 = .ok (.iconst 0, 1) := by decide +kernel
theorem dX10_costOf_3 : decode cX10_costOf 3 = .ok (.istore 4, 2) := by decide +kernel
theorem dX10_costOf_5 : decode cX10_costOf 5 = .ok (.iconst 0, 1) := by decide +kernel
theorem dX10_costOf_6 : decode cX10_costOf 6 = .ok (.istore 5, 2) := by decide +kernel
theorem dX10_costOf_8 : decode cX10_costOf 8 = .ok (.iload 5, 2) := by decide +kernel
theorem dX10_costOf_10 : decode cX10_costOf 10 = .ok (.bipush 12, 2) := by decide +kernel
theorem dX10_costOf_12 : decode cX10_costOf 12 = .ok (.if_icmp .ge 95, 3) := by decide +kernel
theorem dX10_costOf_15 : decode cX10_costOf 15 = .ok (.iload 5, 2) := by decide +kernel
theorem dX10_costOf_17 : decode cX10_costOf 17 = .ok (.i2l, 1) := by decide +kernel
theorem dX10_costOf_18 : decode cX10_costOf 18 = .ok (.aload_n 0, 1) := by decide +kernel
theorem dX10_costOf_19 : decode cX10_costOf 19 = .ok (.getfield 74, 3) := by decide +kernel
theorem dX10_costOf_22 : decode cX10_costOf 22 = .ok (.iload_n 1, 1) := by decide +kernel
theorem dX10_costOf_23 : decode cX10_costOf 23 = .ok (.iaload, 1) := by decide +kernel
theorem dX10_costOf_24 : decode cX10_costOf 24 = .ok (.i2l, 1) := by decide +kernel
theorem dX10_costOf_25 : decode cX10_costOf 25 = .ok (.aload_n 0, 1) := by decide +kernel
theorem dX10_costOf_26 : decode cX10_costOf 26 = .ok (.getfield 77, 3) := by decide +kernel
theorem dX10_costOf_29 : decode cX10_costOf 29 = .ok (.iload_n 1, 1) := by decide +kernel
theorem dX10_costOf_30 : decode cX10_costOf 30 = .ok (.iaload, 1) := by decide +kernel
theorem dX10_costOf_31 : decode cX10_costOf 31 = .ok (.i2l, 1) := by decide +kernel
theorem dX10_costOf_32 : decode cX10_costOf 32 = .ok (.invokestatic 156, 3) := by decide +kernel
theorem dX10_costOf_35 : decode cX10_costOf 35 = .ok (.ifCond .eq 66, 3) := by decide +kernel
theorem dX10_costOf_38 : decode cX10_costOf 38 = .ok (.iload 5, 2) := by decide +kernel
theorem dX10_costOf_40 : decode cX10_costOf 40 = .ok (.i2l, 1) := by decide +kernel
theorem dX10_costOf_41 : decode cX10_costOf 41 = .ok (.aload_n 0, 1) := by decide +kernel
theorem dX10_costOf_42 : decode cX10_costOf 42 = .ok (.getfield 74, 3) := by decide +kernel
theorem dX10_costOf_45 : decode cX10_costOf 45 = .ok (.iconst 5, 1) := by decide +kernel
theorem dX10_costOf_46 : decode cX10_costOf 46 = .ok (.iload_n 2, 1) := by decide +kernel
theorem dX10_costOf_47 : decode cX10_costOf 47 = .ok (.iadd, 1) := by decide +kernel
theorem dX10_costOf_48 : decode cX10_costOf 48 = .ok (.iaload, 1) := by decide +kernel
theorem dX10_costOf_49 : decode cX10_costOf 49 = .ok (.i2l, 1) := by decide +kernel
theorem dX10_costOf_50 : decode cX10_costOf 50 = .ok (.aload_n 0, 1) := by decide +kernel
theorem dX10_costOf_51 : decode cX10_costOf 51 = .ok (.getfield 77, 3) := by decide +kernel
theorem dX10_costOf_54 : decode cX10_costOf 54 = .ok (.iconst 5, 1) := by decide +kernel
theorem dX10_costOf_55 : decode cX10_costOf 55 = .ok (.iload_n 2, 1) := by decide +kernel
theorem dX10_costOf_56 : decode cX10_costOf 56 = .ok (.iadd, 1) := by decide +kernel
theorem dX10_costOf_57 : decode cX10_costOf 57 = .ok (.iaload, 1) := by decide +kernel
theorem dX10_costOf_58 : decode cX10_costOf 58 = .ok (.i2l, 1) := by decide +kernel
theorem dX10_costOf_59 : decode cX10_costOf 59 = .ok (.invokestatic 156, 3) := by decide +kernel
theorem dX10_costOf_62 : decode cX10_costOf 62 = .ok (.ifCond .eq 39, 3) := by decide +kernel
theorem dX10_costOf_65 : decode cX10_costOf 65 = .ok (.iconst 1, 1) := by decide +kernel
theorem dX10_costOf_66 : decode cX10_costOf 66 = .ok (.istore 4, 2) := by decide +kernel
theorem dX10_costOf_68 : decode cX10_costOf 68 = .ok (.iload_n 3, 1) := by decide +kernel
theorem dX10_costOf_69 : decode cX10_costOf 69 = .ok (.aload_n 0, 1) := by decide +kernel
theorem dX10_costOf_70 : decode cX10_costOf 70 = .ok (.getfield 83, 3) := by decide +kernel
theorem dX10_costOf_73 : decode cX10_costOf 73 = .ok (.bipush 12, 2) := by decide +kernel
theorem dX10_costOf_75 : decode cX10_costOf 75 = .ok (.iload_n 1, 1) := by decide +kernel
theorem dX10_costOf_76 : decode cX10_costOf 76 = .ok (.imul, 1) := by decide +kernel
theorem dX10_costOf_77 : decode cX10_costOf 77 = .ok (.iload 5, 2) := by decide +kernel
theorem dX10_costOf_79 : decode cX10_costOf 79 = .ok (.iadd, 1) := by decide +kernel
theorem dX10_costOf_80 : decode cX10_costOf 80 = .ok (.iaload, 1) := by decide +kernel
theorem dX10_costOf_81 : decode cX10_costOf 81 = .ok (.aload_n 0, 1) := by decide +kernel
theorem dX10_costOf_82 : decode cX10_costOf 82 = .ok (.getfield 83, 3) := by decide +kernel
theorem dX10_costOf_85 : decode cX10_costOf 85 = .ok (.bipush 12, 2) := by decide +kernel
theorem dX10_costOf_87 : decode cX10_costOf 87 = .ok (.iconst 5, 1) := by decide +kernel
theorem dX10_costOf_88 : decode cX10_costOf 88 = .ok (.iload_n 2, 1) := by decide +kernel
theorem dX10_costOf_89 : decode cX10_costOf 89 = .ok (.iadd, 1) := by decide +kernel
theorem dX10_costOf_90 : decode cX10_costOf 90 = .ok (.imul, 1) := by decide +kernel
theorem dX10_costOf_91 : decode cX10_costOf 91 = .ok (.iload 5, 2) := by decide +kernel
theorem dX10_costOf_93 : decode cX10_costOf 93 = .ok (.iadd, 1) := by decide +kernel
theorem dX10_costOf_94 : decode cX10_costOf 94 = .ok (.iaload, 1) := by decide +kernel
theorem dX10_costOf_95 : decode cX10_costOf 95 = .ok (.isub, 1) := by decide +kernel
theorem dX10_costOf_96 : decode cX10_costOf 96 = .ok (.invokestatic 195, 3) := by decide +kernel
theorem dX10_costOf_99 : decode cX10_costOf 99 = .ok (.iadd, 1) := by decide +kernel
theorem dX10_costOf_100 : decode cX10_costOf 100 = .ok (.istore_n 3, 1) := by decide +kernel
theorem dX10_costOf_101 : decode cX10_costOf 101 = .ok (.iinc 5 1, 3) := by decide +kernel
theorem dX10_costOf_104 : decode cX10_costOf 104 = .ok (.goto (-96), 3) := by decide +kernel
theorem dX10_costOf_107 : decode cX10_costOf 107 = .ok (.iload 4, 2) := by decide +kernel
theorem dX10_costOf_109 : decode cX10_costOf 109 = .ok (.ifCond .eq 24, 3) := by decide +kernel
theorem dX10_costOf_112 : decode cX10_costOf 112 = .ok (.aload_n 0, 1) := by decide +kernel
theorem dX10_costOf_113 : decode cX10_costOf 113 = .ok (.getfield 71, 3) := by decide +kernel
theorem dX10_costOf_116 : decode cX10_costOf 116 = .ok (.iload_n 1, 1) := by decide +kernel
theorem dX10_costOf_117 : decode cX10_costOf 117 = .ok (.iaload, 1) := by decide +kernel
theorem dX10_costOf_118 : decode cX10_costOf 118 = .ok (.aload_n 0, 1) := by decide +kernel
theorem dX10_costOf_119 : decode cX10_costOf 119 = .ok (.getfield 71, 3) := by decide +kernel
theorem dX10_costOf_122 : decode cX10_costOf 122 = .ok (.iconst 5, 1) := by decide +kernel
theorem dX10_costOf_123 : decode cX10_costOf 123 = .ok (.iload_n 2, 1) := by decide +kernel
theorem dX10_costOf_124 : decode cX10_costOf 124 = .ok (.iadd, 1) := by decide +kernel
theorem dX10_costOf_125 : decode cX10_costOf 125 = .ok (.iaload, 1) := by decide +kernel
theorem dX10_costOf_126 : decode cX10_costOf 126 = .ok (.if_icmp .ne 7, 3) := by decide +kernel
theorem dX10_costOf_129 : decode cX10_costOf 129 = .ok (.iload_n 3, 1) := by decide +kernel
theorem dX10_costOf_130 : decode cX10_costOf 130 = .ok (.goto 6, 3) := by decide +kernel
theorem dX10_costOf_133 : decode cX10_costOf 133 = .ok (.ldc_w 315, 3) := by decide +kernel
theorem dX10_costOf_136 : decode cX10_costOf 136 = .ok (.ireturn, 1) := by decide +kernel
theorem dX10_findJoining_0 : decode cX10_findJoining 0 = .ok (.iconst 1, 1) := by decide +kernel
theorem dX10_findJoining_1 : decode cX10_findJoining 1 = .ok (.istore_n 1, 1) := by decide +kernel
theorem dX10_findJoining_2 : decode cX10_findJoining 2 = .ok (.iconst 0, 1) := by decide +kernel
theorem dX10_findJoining_3 : decode cX10_findJoining 3 = .ok (.istore_n 2, 1) := by decide +kernel
theorem dX10_findJoining_4 : decode cX10_findJoining 4 = .ok (.iload_n 2, 1) := by decide +kernel
theorem dX10_findJoining_5 : decode cX10_findJoining 5 = .ok (.aload_n 0, 1) := by decide +kernel
theorem dX10_findJoining_6 : decode cX10_findJoining 6 = .ok (.getfield 68, 3) := by decide +kernel
theorem dX10_findJoining_9 : decode cX10_findJoining 9 = .ok (.iconst 0, 1) := by decide +kernel
theorem dX10_findJoining_10 : decode cX10_findJoining 10 = .ok (.iaload, 1) := by decide +kernel
theorem dX10_findJoining_11 : decode cX10_findJoining 11 = .ok (.if_icmp .ge 20, 3) := by decide +kernel
theorem dX10_findJoining_14 : decode cX10_findJoining 14 = .ok (.iload_n 1, 1) := by decide +kernel
theorem dX10_findJoining_15 : decode cX10_findJoining 15 = .ok (.aload_n 0, 1) := by decide +kernel
theorem dX10_findJoining_16 : decode cX10_findJoining 16 = .ok (.getfield 68, 3) := by decide +kernel
theorem dX10_findJoining_19 : decode cX10_findJoining 19 = .ok (.iconst 1, 1) := by decide +kernel
theorem dX10_findJoining_20 : decode cX10_findJoining 20 = .ok (.iaload, 1) := by decide +kernel
theorem dX10_findJoining_21 : decode cX10_findJoining 21 = .ok (.iconst 1, 1) := by decide +kernel
theorem dX10_findJoining_22 : decode cX10_findJoining 22 = .ok (.iadd, 1) := by decide +kernel
theorem dX10_findJoining_23 : decode cX10_findJoining 23 = .ok (.imul, 1) := by decide +kernel
theorem dX10_findJoining_24 : decode cX10_findJoining 24 = .ok (.istore_n 1, 1) := by decide +kernel
theorem dX10_findJoining_25 : decode cX10_findJoining 25 = .ok (.iinc 2 1, 3) := by decide +kernel
theorem dX10_findJoining_28 : decode cX10_findJoining 28 = .ok (.goto (-24), 3) := by decide +kernel
theorem dX10_findJoining_31 : decode cX10_findJoining 31 = .ok (.aload_n 0, 1) := by decide +kernel
theorem dX10_findJoining_32 : decode cX10_findJoining 32 = .ok (.ldc_w 315, 3) := by decide +kernel
theorem dX10_findJoining_35 : decode cX10_findJoining 35 = .ok (.putfield 346, 3) := by decide +kernel
theorem dX10_findJoining_38 : decode cX10_findJoining 38 = .ok (.iconst 0, 1) := by decide +kernel
theorem dX10_findJoining_39 : decode cX10_findJoining 39 = .ok (.istore_n 2, 1) := by decide +kernel
theorem dX10_findJoining_40 : decode cX10_findJoining 40 = .ok (.iload_n 2, 1) := by decide +kernel
theorem dX10_findJoining_41 : decode cX10_findJoining 41 = .ok (.iload_n 1, 1) := by decide +kernel
theorem dX10_findJoining_42 : decode cX10_findJoining 42 = .ok (.if_icmp .ge 151, 3) := by decide +kernel
theorem dX10_findJoining_45 : decode cX10_findJoining 45 = .ok (.iload_n 1, 1) := by decide +kernel
theorem dX10_findJoining_46 : decode cX10_findJoining 46 = .ok (.istore_n 3, 1) := by decide +kernel
theorem dX10_findJoining_47 : decode cX10_findJoining 47 = .ok (.iload_n 2, 1) := by decide +kernel
theorem dX10_findJoining_48 : decode cX10_findJoining 48 = .ok (.istore 4, 2) := by decide +kernel
theorem dX10_findJoining_50 : decode cX10_findJoining 50 = .ok (.iconst 0, 1) := by decide +kernel
theorem dX10_findJoining_51 : decode cX10_findJoining 51 = .ok (.istore 5, 2) := by decide +kernel
theorem dX10_findJoining_53 : decode cX10_findJoining 53 = .ok (.bipush 15, 2) := by decide +kernel
theorem dX10_findJoining_55 : decode cX10_findJoining 55 = .ok (.aload_n 0, 1) := by decide +kernel
theorem dX10_findJoining_56 : decode cX10_findJoining 56 = .ok (.getfield 68, 3) := by decide +kernel
theorem dX10_findJoining_59 : decode cX10_findJoining 59 = .ok (.iconst 0, 1) := by decide +kernel
theorem dX10_findJoining_60 : decode cX10_findJoining 60 = .ok (.iaload, 1) := by decide +kernel
theorem dX10_findJoining_61 : decode cX10_findJoining 61 = .ok (.aload_n 0, 1) := by decide +kernel
theorem dX10_findJoining_62 : decode cX10_findJoining 62 = .ok (.getfield 68, 3) := by decide +kernel
theorem dX10_findJoining_65 : decode cX10_findJoining 65 = .ok (.iconst 1, 1) := by decide +kernel
theorem dX10_findJoining_66 : decode cX10_findJoining 66 = .ok (.iaload, 1) := by decide +kernel
theorem dX10_findJoining_67 : decode cX10_findJoining 67 = .ok (.iadd, 1) := by decide +kernel
theorem dX10_findJoining_68 : decode cX10_findJoining 68 = .ok (.imul, 1) := by decide +kernel
theorem dX10_findJoining_69 : decode cX10_findJoining 69 = .ok (.istore 6, 2) := by decide +kernel
theorem dX10_findJoining_71 : decode cX10_findJoining 71 = .ok (.iconst 0, 1) := by decide +kernel
theorem dX10_findJoining_72 : decode cX10_findJoining 72 = .ok (.istore 7, 2) := by decide +kernel
theorem dX10_findJoining_74 : decode cX10_findJoining 74 = .ok (.iload 7, 2) := by decide +kernel
theorem dX10_findJoining_76 : decode cX10_findJoining 76 = .ok (.aload_n 0, 1) := by decide +kernel
theorem dX10_findJoining_77 : decode cX10_findJoining 77 = .ok (.getfield 68, 3) := by decide +kernel
theorem dX10_findJoining_80 : decode cX10_findJoining 80 = .ok (.iconst 0, 1) := by decide +kernel
theorem dX10_findJoining_81 : decode cX10_findJoining 81 = .ok (.iaload, 1) := by decide +kernel
theorem dX10_findJoining_82 : decode cX10_findJoining 82 = .ok (.if_icmp .ge 84, 3) := by decide +kernel
theorem dX10_findJoining_85 : decode cX10_findJoining 85 = .ok (.iload_n 3, 1) := by decide +kernel
theorem dX10_findJoining_86 : decode cX10_findJoining 86 = .ok (.aload_n 0, 1) := by decide +kernel
theorem dX10_findJoining_87 : decode cX10_findJoining 87 = .ok (.getfield 68, 3) := by decide +kernel
theorem dX10_findJoining_90 : decode cX10_findJoining 90 = .ok (.iconst 1, 1) := by decide +kernel
theorem dX10_findJoining_91 : decode cX10_findJoining 91 = .ok (.iaload, 1) := by decide +kernel
theorem dX10_findJoining_92 : decode cX10_findJoining 92 = .ok (.iconst 1, 1) := by decide +kernel
theorem dX10_findJoining_93 : decode cX10_findJoining 93 = .ok (.iadd, 1) := by decide +kernel
theorem dX10_findJoining_94 : decode cX10_findJoining 94 = .ok (.idiv, 1) := by decide +kernel
theorem dX10_findJoining_95 : decode cX10_findJoining 95 = .ok (.istore_n 3, 1) := by decide +kernel
theorem dX10_findJoining_96 : decode cX10_findJoining 96 = .ok (.iload 4, 2) := by decide +kernel
theorem dX10_findJoining_98 : decode cX10_findJoining 98 = .ok (.iload_n 3, 1) := by decide +kernel
theorem dX10_findJoining_99 : decode cX10_findJoining 99 = .ok (.idiv, 1) := by decide +kernel
theorem dX10_findJoining_100 : decode cX10_findJoining 100 = .ok (.istore 8, 2) := by decide +kernel
theorem dX10_findJoining_102 : decode cX10_findJoining 102 = .ok (.iload 4, 2) := by decide +kernel
theorem dX10_findJoining_104 : decode cX10_findJoining 104 = .ok (.iload_n 3, 1) := by decide +kernel
theorem dX10_findJoining_105 : decode cX10_findJoining 105 = .ok (.irem, 1) := by decide +kernel
theorem dX10_findJoining_106 : decode cX10_findJoining 106 = .ok (.istore 4, 2) := by decide +kernel
theorem dX10_findJoining_108 : decode cX10_findJoining 108 = .ok (.iload 8, 2) := by decide +kernel
theorem dX10_findJoining_110 : decode cX10_findJoining 110 = .ok (.aload_n 0, 1) := by decide +kernel
theorem dX10_findJoining_111 : decode cX10_findJoining 111 = .ok (.getfield 68, 3) := by decide +kernel
theorem dX10_findJoining_114 : decode cX10_findJoining 114 = .ok (.iconst 1, 1) := by decide +kernel
theorem dX10_findJoining_115 : decode cX10_findJoining 115 = .ok (.iaload, 1) := by decide +kernel
theorem dX10_findJoining_116 : decode cX10_findJoining 116 = .ok (.if_icmp .ge 44, 3) := by decide +kernel
theorem dX10_findJoining_119 : decode cX10_findJoining 119 = .ok (.iload 6, 2) := by decide +kernel
theorem dX10_findJoining_121 : decode cX10_findJoining 121 = .ok (.iload 5, 2) := by decide +kernel
theorem dX10_findJoining_123 : decode cX10_findJoining 123 = .ok (.iload 8, 2) := by decide +kernel
theorem dX10_findJoining_125 : decode cX10_findJoining 125 = .ok (.invokestatic 245, 3) := by decide +kernel
theorem dX10_findJoining_128 : decode cX10_findJoining 128 = .ok (.ifCond .eq 9, 3) := by decide +kernel
theorem dX10_findJoining_131 : decode cX10_findJoining 131 = .ok (.ldc_w 315, 3) := by decide +kernel
theorem dX10_findJoining_134 : decode cX10_findJoining 134 = .ok (.goto 14, 3) := by decide +kernel
theorem dX10_findJoining_137 : decode cX10_findJoining 137 = .ok (.aload_n 0, 1) := by decide +kernel
theorem dX10_findJoining_138 : decode cX10_findJoining 138 = .ok (.iload 7, 2) := by decide +kernel
theorem dX10_findJoining_140 : decode cX10_findJoining 140 = .ok (.iload 8, 2) := by decide +kernel
theorem dX10_findJoining_142 : decode cX10_findJoining 142 = .ok (.invokevirtual 349, 3) := by decide +kernel
theorem dX10_findJoining_145 : decode cX10_findJoining 145 = .ok (.bipush 30, 2) := by decide +kernel
theorem dX10_findJoining_147 : decode cX10_findJoining 147 = .ok (.isub, 1) := by decide +kernel
theorem dX10_findJoining_148 : decode cX10_findJoining 148 = .ok (.iadd, 1) := by decide +kernel
theorem dX10_findJoining_149 : decode cX10_findJoining 149 = .ok (.istore 6, 2) := by decide +kernel
theorem dX10_findJoining_151 : decode cX10_findJoining 151 = .ok (.iload 5, 2) := by decide +kernel
theorem dX10_findJoining_153 : decode cX10_findJoining 153 = .ok (.iconst 1, 1) := by decide +kernel
theorem dX10_findJoining_154 : decode cX10_findJoining 154 = .ok (.iload 8, 2) := by decide +kernel
theorem dX10_findJoining_156 : decode cX10_findJoining 156 = .ok (.ishl, 1) := by decide +kernel
theorem dX10_findJoining_157 : decode cX10_findJoining 157 = .ok (.ior, 1) := by decide +kernel
theorem dX10_findJoining_158 : decode cX10_findJoining 158 = .ok (.istore 5, 2) := by decide +kernel
theorem dX10_findJoining_160 : decode cX10_findJoining 160 = .ok (.iinc 7 1, 3) := by decide +kernel
theorem dX10_findJoining_163 : decode cX10_findJoining 163 = .ok (.goto (-89), 3) := by decide +kernel
theorem dX10_findJoining_166 : decode cX10_findJoining 166 = .ok (.iload 6, 2) := by decide +kernel
theorem dX10_findJoining_168 : decode cX10_findJoining 168 = .ok (.aload_n 0, 1) := by decide +kernel
theorem dX10_findJoining_169 : decode cX10_findJoining 169 = .ok (.getfield 346, 3) := by decide +kernel
theorem dX10_findJoining_172 : decode cX10_findJoining 172 = .ok (.if_icmp .ge 15, 3) := by decide +kernel
theorem dX10_findJoining_175 : decode cX10_findJoining 175 = .ok (.aload_n 0, 1) := by decide +kernel
theorem dX10_findJoining_176 : decode cX10_findJoining 176 = .ok (.iload 6, 2) := by decide +kernel
theorem dX10_findJoining_178 : decode cX10_findJoining 178 = .ok (.putfield 346, 3) := by decide +kernel
theorem dX10_findJoining_181 : decode cX10_findJoining 181 = .ok (.aload_n 0, 1) := by decide +kernel
theorem dX10_findJoining_182 : decode cX10_findJoining 182 = .ok (.iload_n 2, 1) := by decide +kernel
theorem dX10_findJoining_183 : decode cX10_findJoining 183 = .ok (.iload_n 1, 1) := by decide +kernel
theorem dX10_findJoining_184 : decode cX10_findJoining 184 = .ok (.invokevirtual 352, 3) := by decide +kernel
theorem dX10_findJoining_187 : decode cX10_findJoining 187 = .ok (.iinc 2 1, 3) := by decide +kernel
theorem dX10_findJoining_190 : decode cX10_findJoining 190 = .ok (.goto (-150), 3) := by decide +kernel
theorem dX10_findJoining_193 : decode cX10_findJoining 193 = .ok (.return_, 1) := by decide +kernel
theorem dX10_keepRow_0 : decode cX10_keepRow 0 = .ok (.iload_n 2, 1) := by decide +kernel
theorem dX10_keepRow_1 : decode cX10_keepRow 1 = .ok (.istore_n 3, 1) := by decide +kernel
theorem dX10_keepRow_2 : decode cX10_keepRow 2 = .ok (.iload_n 1, 1) := by decide +kernel
theorem dX10_keepRow_3 : decode cX10_keepRow 3 = .ok (.istore 4, 2) := by decide +kernel
theorem dX10_keepRow_5 : decode cX10_keepRow 5 = .ok (.iconst 0, 1) := by decide +kernel
theorem dX10_keepRow_6 : decode cX10_keepRow 6 = .ok (.istore 5, 2) := by decide +kernel
theorem dX10_keepRow_8 : decode cX10_keepRow 8 = .ok (.iload 5, 2) := by decide +kernel
theorem dX10_keepRow_10 : decode cX10_keepRow 10 = .ok (.aload_n 0, 1) := by decide +kernel
theorem dX10_keepRow_11 : decode cX10_keepRow 11 = .ok (.getfield 68, 3) := by decide +kernel
theorem dX10_keepRow_14 : decode cX10_keepRow 14 = .ok (.iconst 0, 1) := by decide +kernel
theorem dX10_keepRow_15 : decode cX10_keepRow 15 = .ok (.iaload, 1) := by decide +kernel
theorem dX10_keepRow_16 : decode cX10_keepRow 16 = .ok (.if_icmp .ge 55, 3) := by decide +kernel
theorem dX10_keepRow_19 : decode cX10_keepRow 19 = .ok (.iload_n 3, 1) := by decide +kernel
theorem dX10_keepRow_20 : decode cX10_keepRow 20 = .ok (.aload_n 0, 1) := by decide +kernel
theorem dX10_keepRow_21 : decode cX10_keepRow 21 = .ok (.getfield 68, 3) := by decide +kernel
theorem dX10_keepRow_24 : decode cX10_keepRow 24 = .ok (.iconst 1, 1) := by decide +kernel
theorem dX10_keepRow_25 : decode cX10_keepRow 25 = .ok (.iaload, 1) := by decide +kernel
theorem dX10_keepRow_26 : decode cX10_keepRow 26 = .ok (.iconst 1, 1) := by decide +kernel
theorem dX10_keepRow_27 : decode cX10_keepRow 27 = .ok (.iadd, 1) := by decide +kernel
theorem dX10_keepRow_28 : decode cX10_keepRow 28 = .ok (.idiv, 1) := by decide +kernel
theorem dX10_keepRow_29 : decode cX10_keepRow 29 = .ok (.istore_n 3, 1) := by decide +kernel
theorem dX10_keepRow_30 : decode cX10_keepRow 30 = .ok (.aload_n 0, 1) := by decide +kernel
theorem dX10_keepRow_31 : decode cX10_keepRow 31 = .ok (.getfield 95, 3) := by decide +kernel
theorem dX10_keepRow_34 : decode cX10_keepRow 34 = .ok (.iload 5, 2) := by decide +kernel
theorem dX10_keepRow_36 : decode cX10_keepRow 36 = .ok (.iload 4, 2) := by decide +kernel
theorem dX10_keepRow_38 : decode cX10_keepRow 38 = .ok (.iload_n 3, 1) := by decide +kernel
theorem dX10_keepRow_39 : decode cX10_keepRow 39 = .ok (.idiv, 1) := by decide +kernel
theorem dX10_keepRow_40 : decode cX10_keepRow 40 = .ok (.aload_n 0, 1) := by decide +kernel
theorem dX10_keepRow_41 : decode cX10_keepRow 41 = .ok (.getfield 68, 3) := by decide +kernel
theorem dX10_keepRow_44 : decode cX10_keepRow 44 = .ok (.iconst 1, 1) := by decide +kernel
theorem dX10_keepRow_45 : decode cX10_keepRow 45 = .ok (.iaload, 1) := by decide +kernel
theorem dX10_keepRow_46 : decode cX10_keepRow 46 = .ok (.if_icmp .ge 10, 3) := by decide +kernel
theorem dX10_keepRow_49 : decode cX10_keepRow 49 = .ok (.iload 4, 2) := by decide +kernel
theorem dX10_keepRow_51 : decode cX10_keepRow 51 = .ok (.iload_n 3, 1) := by decide +kernel
theorem dX10_keepRow_52 : decode cX10_keepRow 52 = .ok (.idiv, 1) := by decide +kernel
theorem dX10_keepRow_53 : decode cX10_keepRow 53 = .ok (.goto 5, 3) := by decide +kernel
theorem dX10_keepRow_56 : decode cX10_keepRow 56 = .ok (.bipush (-9), 2) := by decide +kernel
theorem dX10_keepRow_58 : decode cX10_keepRow 58 = .ok (.iastore, 1) := by decide +kernel
theorem dX10_keepRow_59 : decode cX10_keepRow 59 = .ok (.iload 4, 2) := by decide +kernel
theorem dX10_keepRow_61 : decode cX10_keepRow 61 = .ok (.iload_n 3, 1) := by decide +kernel
theorem dX10_keepRow_62 : decode cX10_keepRow 62 = .ok (.irem, 1) := by decide +kernel
theorem dX10_keepRow_63 : decode cX10_keepRow 63 = .ok (.istore 4, 2) := by decide +kernel
theorem dX10_keepRow_65 : decode cX10_keepRow 65 = .ok (.iinc 5 1, 3) := by decide +kernel
theorem dX10_keepRow_68 : decode cX10_keepRow 68 = .ok (.goto (-60), 3) := by decide +kernel
theorem dX10_keepRow_71 : decode cX10_keepRow 71 = .ok (.return_, 1) := by decide +kernel
theorem dX10_partnerOf_0 : decode cX10_partnerOf 0 = .ok (.aload_n 0, 1) := by decide +kernel
theorem dX10_partnerOf_1 : decode cX10_partnerOf 1 = .ok (.invokevirtual 355, 3) := by decide +kernel
theorem dX10_partnerOf_4 : decode cX10_partnerOf 4 = .ok (.iload_n 1, 1) := by decide +kernel
theorem dX10_partnerOf_5 : decode cX10_partnerOf 5 = .ok (.ifCond .ne 10, 3) := by decide +kernel
theorem dX10_partnerOf_8 : decode cX10_partnerOf 8 = .ok (.aload_n 0, 1) := by decide +kernel
theorem dX10_partnerOf_9 : decode cX10_partnerOf 9 = .ok (.getfield 95, 3) := by decide +kernel
theorem dX10_partnerOf_12 : decode cX10_partnerOf 12 = .ok (.iload_n 2, 1) := by decide +kernel
theorem dX10_partnerOf_13 : decode cX10_partnerOf 13 = .ok (.iaload, 1) := by decide +kernel
theorem dX10_partnerOf_14 : decode cX10_partnerOf 14 = .ok (.ireturn, 1) := by decide +kernel
theorem dX10_partnerOf_15 : decode cX10_partnerOf 15 = .ok (.iconst 0, 1) := by decide +kernel
theorem dX10_partnerOf_16 : decode cX10_partnerOf 16 = .ok (.istore_n 3, 1) := by decide +kernel
theorem dX10_partnerOf_17 : decode cX10_partnerOf 17 = .ok (.iload_n 3, 1) := by decide +kernel
theorem dX10_partnerOf_18 : decode cX10_partnerOf 18 = .ok (.aload_n 0, 1) := by decide +kernel
theorem dX10_partnerOf_19 : decode cX10_partnerOf 19 = .ok (.getfield 68, 3) := by decide +kernel
theorem dX10_partnerOf_22 : decode cX10_partnerOf 22 = .ok (.iconst 0, 1) := by decide +kernel
theorem dX10_partnerOf_23 : decode cX10_partnerOf 23 = .ok (.iaload, 1) := by decide +kernel
theorem dX10_partnerOf_24 : decode cX10_partnerOf 24 = .ok (.if_icmp .ge 21, 3) := by decide +kernel
theorem dX10_partnerOf_27 : decode cX10_partnerOf 27 = .ok (.aload_n 0, 1) := by decide +kernel
theorem dX10_partnerOf_28 : decode cX10_partnerOf 28 = .ok (.getfield 95, 3) := by decide +kernel
theorem dX10_partnerOf_31 : decode cX10_partnerOf 31 = .ok (.iload_n 3, 1) := by decide +kernel
theorem dX10_partnerOf_32 : decode cX10_partnerOf 32 = .ok (.iaload, 1) := by decide +kernel
theorem dX10_partnerOf_33 : decode cX10_partnerOf 33 = .ok (.iload_n 2, 1) := by decide +kernel
theorem dX10_partnerOf_34 : decode cX10_partnerOf 34 = .ok (.if_icmp .ne 5, 3) := by decide +kernel
theorem dX10_partnerOf_37 : decode cX10_partnerOf 37 = .ok (.iload_n 3, 1) := by decide +kernel
theorem dX10_partnerOf_38 : decode cX10_partnerOf 38 = .ok (.ireturn, 1) := by decide +kernel
theorem dX10_partnerOf_39 : decode cX10_partnerOf 39 = .ok (.iinc 3 1, 3) := by decide +kernel
theorem dX10_partnerOf_42 : decode cX10_partnerOf 42 = .ok (.goto (-25), 3) := by decide +kernel
theorem dX10_partnerOf_45 : decode cX10_partnerOf 45 = .ok (.bipush (-9), 2) := by decide +kernel
theorem dX10_partnerOf_47 : decode cX10_partnerOf 47 = .ok (.ireturn, 1) := by decide +kernel
theorem dX10_noFront_0 : decode cX10_noFront 0 = .ok (.iload_n 2, 1) := by decide +kernel
theorem dX10_noFront_1 : decode cX10_noFront 1 = .ok (.i2l, 1) := by decide +kernel
theorem dX10_noFront_2 : decode cX10_noFront 2 = .ok (.lconst 0, 1) := by decide +kernel
theorem dX10_noFront_3 : decode cX10_noFront 3 = .ok (.aload_n 0, 1) := by decide +kernel
theorem dX10_noFront_4 : decode cX10_noFront 4 = .ok (.getfield 68, 3) := by decide +kernel
theorem dX10_noFront_7 : decode cX10_noFront 7 = .ok (.iload_n 1, 1) := by decide +kernel
theorem dX10_noFront_8 : decode cX10_noFront 8 = .ok (.iaload, 1) := by decide +kernel
theorem dX10_noFront_9 : decode cX10_noFront 9 = .ok (.i2l, 1) := by decide +kernel
theorem dX10_noFront_10 : decode cX10_noFront 10 = .ok (.lconst 1, 1) := by decide +kernel
theorem dX10_noFront_11 : decode cX10_noFront 11 = .ok (.lsub, 1) := by decide +kernel
theorem dX10_noFront_12 : decode cX10_noFront 12 = .ok (.invokestatic 156, 3) := by decide +kernel
theorem dX10_noFront_15 : decode cX10_noFront 15 = .ok (.ifCond .ne 7, 3) := by decide +kernel
theorem dX10_noFront_18 : decode cX10_noFront 18 = .ok (.iconst 1, 1) := by decide +kernel
theorem dX10_noFront_19 : decode cX10_noFront 19 = .ok (.goto 4, 3) := by decide +kernel
theorem dX10_noFront_22 : decode cX10_noFront 22 = .ok (.iconst 0, 1) := by decide +kernel
theorem dX10_noFront_23 : decode cX10_noFront 23 = .ok (.ireturn, 1) := by decide +kernel
theorem dX10_front_0 : decode cX10_front 0 = .ok (.iload_n 1, 1) := by decide +kernel
theorem dX10_front_1 : decode cX10_front 1 = .ok (.i2l, 1) := by decide +kernel
theorem dX10_front_2 : decode cX10_front 2 = .ok (.lconst 0, 1) := by decide +kernel
theorem dX10_front_3 : decode cX10_front 3 = .ok (.lconst 1, 1) := by decide +kernel
theorem dX10_front_4 : decode cX10_front 4 = .ok (.invokestatic 156, 3) := by decide +kernel
theorem dX10_front_7 : decode cX10_front 7 = .ok (.ifCond .ne 6, 3) := by decide +kernel
theorem dX10_front_10 : decode cX10_front 10 = .ok (.bipush (-2), 2) := by decide +kernel
theorem dX10_front_12 : decode cX10_front 12 = .ok (.ireturn, 1) := by decide +kernel
theorem dX10_front_13 : decode cX10_front 13 = .ok (.aload_n 0, 1) := by decide +kernel
theorem dX10_front_14 : decode cX10_front 14 = .ok (.iload_n 1, 1) := by decide +kernel
theorem dX10_front_15 : decode cX10_front 15 = .ok (.iload_n 2, 1) := by decide +kernel
theorem dX10_front_16 : decode cX10_front 16 = .ok (.invokevirtual 358, 3) := by decide +kernel
theorem dX10_front_19 : decode cX10_front 19 = .ok (.ifCond .eq 5, 3) := by decide +kernel
theorem dX10_front_22 : decode cX10_front 22 = .ok (.iconst (-1), 1) := by decide +kernel
theorem dX10_front_23 : decode cX10_front 23 = .ok (.ireturn, 1) := by decide +kernel
theorem dX10_front_24 : decode cX10_front 24 = .ok (.iconst 5, 1) := by decide +kernel
theorem dX10_front_25 : decode cX10_front 25 = .ok (.iload_n 1, 1) := by decide +kernel
theorem dX10_front_26 : decode cX10_front 26 = .ok (.imul, 1) := by decide +kernel
theorem dX10_front_27 : decode cX10_front 27 = .ok (.iload_n 2, 1) := by decide +kernel
theorem dX10_front_28 : decode cX10_front 28 = .ok (.iadd, 1) := by decide +kernel
theorem dX10_front_29 : decode cX10_front 29 = .ok (.istore 4, 2) := by decide +kernel
theorem dX10_front_31 : decode cX10_front 31 = .ok (.iload_n 3, 1) := by decide +kernel
theorem dX10_front_32 : decode cX10_front 32 = .ok (.tableswitch 75 0 4 #[36, 44, 52, 60, 68], 36) := by decide +kernel
theorem dX10_front_68 : decode cX10_front 68 = .ok (.aload_n 0, 1) := by decide +kernel
theorem dX10_front_69 : decode cX10_front 69 = .ok (.getfield 71, 3) := by decide +kernel
theorem dX10_front_72 : decode cX10_front 72 = .ok (.iload 4, 2) := by decide +kernel
theorem dX10_front_74 : decode cX10_front 74 = .ok (.iaload, 1) := by decide +kernel
theorem dX10_front_75 : decode cX10_front 75 = .ok (.ireturn, 1) := by decide +kernel
theorem dX10_front_76 : decode cX10_front 76 = .ok (.aload_n 0, 1) := by decide +kernel
theorem dX10_front_77 : decode cX10_front 77 = .ok (.getfield 74, 3) := by decide +kernel
theorem dX10_front_80 : decode cX10_front 80 = .ok (.iload 4, 2) := by decide +kernel
theorem dX10_front_82 : decode cX10_front 82 = .ok (.iaload, 1) := by decide +kernel
theorem dX10_front_83 : decode cX10_front 83 = .ok (.ireturn, 1) := by decide +kernel
theorem dX10_front_84 : decode cX10_front 84 = .ok (.aload_n 0, 1) := by decide +kernel
theorem dX10_front_85 : decode cX10_front 85 = .ok (.getfield 77, 3) := by decide +kernel
theorem dX10_front_88 : decode cX10_front 88 = .ok (.iload 4, 2) := by decide +kernel
theorem dX10_front_90 : decode cX10_front 90 = .ok (.iaload, 1) := by decide +kernel
theorem dX10_front_91 : decode cX10_front 91 = .ok (.ireturn, 1) := by decide +kernel
theorem dX10_front_92 : decode cX10_front 92 = .ok (.aload_n 0, 1) := by decide +kernel
theorem dX10_front_93 : decode cX10_front 93 = .ok (.getfield 80, 3) := by decide +kernel
theorem dX10_front_96 : decode cX10_front 96 = .ok (.iload 4, 2) := by decide +kernel
theorem dX10_front_98 : decode cX10_front 98 = .ok (.iaload, 1) := by decide +kernel
theorem dX10_front_99 : decode cX10_front 99 = .ok (.ireturn, 1) := by decide +kernel
theorem dX10_front_100 : decode cX10_front 100 = .ok (.aload_n 0, 1) := by decide +kernel
theorem dX10_front_101 : decode cX10_front 101 = .ok (.iload_n 1, 1) := by decide +kernel
theorem dX10_front_102 : decode cX10_front 102 = .ok (.iload_n 2, 1) := by decide +kernel
theorem dX10_front_103 : decode cX10_front 103 = .ok (.invokevirtual 361, 3) := by decide +kernel
theorem dX10_front_106 : decode cX10_front 106 = .ok (.ireturn, 1) := by decide +kernel
theorem dX10_front_107 : decode cX10_front 107 = .ok (.bipush (-2), 2) := by decide +kernel
theorem dX10_front_109 : decode cX10_front 109 = .ok (.ireturn, 1) := by decide +kernel
theorem dX10_yOf_0 : decode cX10_yOf 0 = .ok (.iload_n 1, 1) := by decide +kernel
theorem dX10_yOf_1 : decode cX10_yOf 1 = .ok (.i2l, 1) := by decide +kernel
theorem dX10_yOf_2 : decode cX10_yOf 2 = .ok (.lconst 0, 1) := by decide +kernel
theorem dX10_yOf_3 : decode cX10_yOf 3 = .ok (.lconst 1, 1) := by decide +kernel
theorem dX10_yOf_4 : decode cX10_yOf 4 = .ok (.invokestatic 156, 3) := by decide +kernel
theorem dX10_yOf_7 : decode cX10_yOf 7 = .ok (.ifCond .ne 6, 3) := by decide +kernel
theorem dX10_yOf_10 : decode cX10_yOf 10 = .ok (.bipush (-2), 2) := by decide +kernel
theorem dX10_yOf_12 : decode cX10_yOf 12 = .ok (.ireturn, 1) := by decide +kernel
theorem dX10_yOf_13 : decode cX10_yOf 13 = .ok (.aload_n 0, 1) := by decide +kernel
theorem dX10_yOf_14 : decode cX10_yOf 14 = .ok (.iload_n 1, 1) := by decide +kernel
theorem dX10_yOf_15 : decode cX10_yOf 15 = .ok (.iload_n 2, 1) := by decide +kernel
theorem dX10_yOf_16 : decode cX10_yOf 16 = .ok (.invokevirtual 358, 3) := by decide +kernel
theorem dX10_yOf_19 : decode cX10_yOf 19 = .ok (.ifCond .ne 33, 3) := by decide +kernel
theorem dX10_yOf_22 : decode cX10_yOf 22 = .ok (.iload_n 3, 1) := by decide +kernel
theorem dX10_yOf_23 : decode cX10_yOf 23 = .ok (.i2l, 1) := by decide +kernel
theorem dX10_yOf_24 : decode cX10_yOf 24 = .ok (.aload_n 0, 1) := by decide +kernel
theorem dX10_yOf_25 : decode cX10_yOf 25 = .ok (.getfield 74, 3) := by decide +kernel
theorem dX10_yOf_28 : decode cX10_yOf 28 = .ok (.iconst 5, 1) := by decide +kernel
theorem dX10_yOf_29 : decode cX10_yOf 29 = .ok (.iload_n 1, 1) := by decide +kernel
theorem dX10_yOf_30 : decode cX10_yOf 30 = .ok (.imul, 1) := by decide +kernel
theorem dX10_yOf_31 : decode cX10_yOf 31 = .ok (.iload_n 2, 1) := by decide +kernel
theorem dX10_yOf_32 : decode cX10_yOf 32 = .ok (.iadd, 1) := by decide +kernel
theorem dX10_yOf_33 : decode cX10_yOf 33 = .ok (.iaload, 1) := by decide +kernel
theorem dX10_yOf_34 : decode cX10_yOf 34 = .ok (.i2l, 1) := by decide +kernel
theorem dX10_yOf_35 : decode cX10_yOf 35 = .ok (.aload_n 0, 1) := by decide +kernel
theorem dX10_yOf_36 : decode cX10_yOf 36 = .ok (.getfield 77, 3) := by decide +kernel
theorem dX10_yOf_39 : decode cX10_yOf 39 = .ok (.iconst 5, 1) := by decide +kernel
theorem dX10_yOf_40 : decode cX10_yOf 40 = .ok (.iload_n 1, 1) := by decide +kernel
theorem dX10_yOf_41 : decode cX10_yOf 41 = .ok (.imul, 1) := by decide +kernel
theorem dX10_yOf_42 : decode cX10_yOf 42 = .ok (.iload_n 2, 1) := by decide +kernel
theorem dX10_yOf_43 : decode cX10_yOf 43 = .ok (.iadd, 1) := by decide +kernel
theorem dX10_yOf_44 : decode cX10_yOf 44 = .ok (.iaload, 1) := by decide +kernel
theorem dX10_yOf_45 : decode cX10_yOf 45 = .ok (.i2l, 1) := by decide +kernel
theorem dX10_yOf_46 : decode cX10_yOf 46 = .ok (.invokestatic 156, 3) := by decide +kernel
theorem dX10_yOf_49 : decode cX10_yOf 49 = .ok (.ifCond .ne 5, 3) := by decide +kernel
theorem dX10_yOf_52 : decode cX10_yOf 52 = .ok (.iconst (-1), 1) := by decide +kernel
theorem dX10_yOf_53 : decode cX10_yOf 53 = .ok (.ireturn, 1) := by decide +kernel
theorem dX10_yOf_54 : decode cX10_yOf 54 = .ok (.aload_n 0, 1) := by decide +kernel
theorem dX10_yOf_55 : decode cX10_yOf 55 = .ok (.getfield 83, 3) := by decide +kernel
theorem dX10_yOf_58 : decode cX10_yOf 58 = .ok (.bipush 12, 2) := by decide +kernel
theorem dX10_yOf_60 : decode cX10_yOf 60 = .ok (.iconst 5, 1) := by decide +kernel
theorem dX10_yOf_61 : decode cX10_yOf 61 = .ok (.iload_n 1, 1) := by decide +kernel
theorem dX10_yOf_62 : decode cX10_yOf 62 = .ok (.imul, 1) := by decide +kernel
theorem dX10_yOf_63 : decode cX10_yOf 63 = .ok (.iload_n 2, 1) := by decide +kernel
theorem dX10_yOf_64 : decode cX10_yOf 64 = .ok (.iadd, 1) := by decide +kernel
theorem dX10_yOf_65 : decode cX10_yOf 65 = .ok (.imul, 1) := by decide +kernel
theorem dX10_yOf_66 : decode cX10_yOf 66 = .ok (.iload_n 3, 1) := by decide +kernel
theorem dX10_yOf_67 : decode cX10_yOf 67 = .ok (.iadd, 1) := by decide +kernel
theorem dX10_yOf_68 : decode cX10_yOf 68 = .ok (.iaload, 1) := by decide +kernel
theorem dX10_yOf_69 : decode cX10_yOf 69 = .ok (.ireturn, 1) := by decide +kernel
theorem dX10_joining_0 : decode cX10_joining 0 = .ok (.aload_n 0, 1) := by decide +kernel
theorem dX10_joining_1 : decode cX10_joining 1 = .ok (.invokevirtual 355, 3) := by decide +kernel
theorem dX10_joining_4 : decode cX10_joining 4 = .ok (.aload_n 0, 1) := by decide +kernel
theorem dX10_joining_5 : decode cX10_joining 5 = .ok (.getfield 346, 3) := by decide +kernel
theorem dX10_joining_8 : decode cX10_joining 8 = .ok (.ireturn, 1) := by decide +kernel
theorem dX10_night_0 : decode cX10_night 0 = .ok (.iconst 0, 1) := by decide +kernel
theorem dX10_night_1 : decode cX10_night 1 = .ok (.istore_n 1, 1) := by decide +kernel
theorem dX10_night_2 : decode cX10_night 2 = .ok (.iload_n 1, 1) := by decide +kernel
theorem dX10_night_3 : decode cX10_night 3 = .ok (.aload_n 0, 1) := by decide +kernel
theorem dX10_night_4 : decode cX10_night 4 = .ok (.getfield 68, 3) := by decide +kernel
theorem dX10_night_7 : decode cX10_night 7 = .ok (.iconst 1, 1) := by decide +kernel
theorem dX10_night_8 : decode cX10_night 8 = .ok (.iaload, 1) := by decide +kernel
theorem dX10_night_9 : decode cX10_night 9 = .ok (.if_icmp .ge 103, 3) := by decide +kernel
theorem dX10_night_12 : decode cX10_night 12 = .ok (.aload_n 0, 1) := by decide +kernel
theorem dX10_night_13 : decode cX10_night 13 = .ok (.getfield 71, 3) := by decide +kernel
theorem dX10_night_16 : decode cX10_night 16 = .ok (.iload_n 1, 1) := by decide +kernel
theorem dX10_night_17 : decode cX10_night 17 = .ok (.aload_n 0, 1) := by decide +kernel
theorem dX10_night_18 : decode cX10_night 18 = .ok (.getfield 71, 3) := by decide +kernel
theorem dX10_night_21 : decode cX10_night 21 = .ok (.iconst 5, 1) := by decide +kernel
theorem dX10_night_22 : decode cX10_night 22 = .ok (.iload_n 1, 1) := by decide +kernel
theorem dX10_night_23 : decode cX10_night 23 = .ok (.iadd, 1) := by decide +kernel
theorem dX10_night_24 : decode cX10_night 24 = .ok (.iaload, 1) := by decide +kernel
theorem dX10_night_25 : decode cX10_night 25 = .ok (.iastore, 1) := by decide +kernel
theorem dX10_night_26 : decode cX10_night 26 = .ok (.aload_n 0, 1) := by decide +kernel
theorem dX10_night_27 : decode cX10_night 27 = .ok (.getfield 74, 3) := by decide +kernel
theorem dX10_night_30 : decode cX10_night 30 = .ok (.iload_n 1, 1) := by decide +kernel
theorem dX10_night_31 : decode cX10_night 31 = .ok (.aload_n 0, 1) := by decide +kernel
theorem dX10_night_32 : decode cX10_night 32 = .ok (.getfield 74, 3) := by decide +kernel
theorem dX10_night_35 : decode cX10_night 35 = .ok (.iconst 5, 1) := by decide +kernel
theorem dX10_night_36 : decode cX10_night 36 = .ok (.iload_n 1, 1) := by decide +kernel
theorem dX10_night_37 : decode cX10_night 37 = .ok (.iadd, 1) := by decide +kernel
theorem dX10_night_38 : decode cX10_night 38 = .ok (.iaload, 1) := by decide +kernel
theorem dX10_night_39 : decode cX10_night 39 = .ok (.iastore, 1) := by decide +kernel
theorem dX10_night_40 : decode cX10_night 40 = .ok (.aload_n 0, 1) := by decide +kernel
theorem dX10_night_41 : decode cX10_night 41 = .ok (.getfield 77, 3) := by decide +kernel
theorem dX10_night_44 : decode cX10_night 44 = .ok (.iload_n 1, 1) := by decide +kernel
theorem dX10_night_45 : decode cX10_night 45 = .ok (.aload_n 0, 1) := by decide +kernel
theorem dX10_night_46 : decode cX10_night 46 = .ok (.getfield 77, 3) := by decide +kernel
theorem dX10_night_49 : decode cX10_night 49 = .ok (.iconst 5, 1) := by decide +kernel
theorem dX10_night_50 : decode cX10_night 50 = .ok (.iload_n 1, 1) := by decide +kernel
theorem dX10_night_51 : decode cX10_night 51 = .ok (.iadd, 1) := by decide +kernel
theorem dX10_night_52 : decode cX10_night 52 = .ok (.iaload, 1) := by decide +kernel
theorem dX10_night_53 : decode cX10_night 53 = .ok (.iastore, 1) := by decide +kernel
theorem dX10_night_54 : decode cX10_night 54 = .ok (.aload_n 0, 1) := by decide +kernel
theorem dX10_night_55 : decode cX10_night 55 = .ok (.getfield 80, 3) := by decide +kernel
theorem dX10_night_58 : decode cX10_night 58 = .ok (.iload_n 1, 1) := by decide +kernel
theorem dX10_night_59 : decode cX10_night 59 = .ok (.aload_n 0, 1) := by decide +kernel
theorem dX10_night_60 : decode cX10_night 60 = .ok (.getfield 80, 3) := by decide +kernel
theorem dX10_night_63 : decode cX10_night 63 = .ok (.iconst 5, 1) := by decide +kernel
theorem dX10_night_64 : decode cX10_night 64 = .ok (.iload_n 1, 1) := by decide +kernel
theorem dX10_night_65 : decode cX10_night 65 = .ok (.iadd, 1) := by decide +kernel
theorem dX10_night_66 : decode cX10_night 66 = .ok (.iaload, 1) := by decide +kernel
theorem dX10_night_67 : decode cX10_night 67 = .ok (.iastore, 1) := by decide +kernel
theorem dX10_night_68 : decode cX10_night 68 = .ok (.iconst 0, 1) := by decide +kernel
theorem dX10_night_69 : decode cX10_night 69 = .ok (.istore_n 2, 1) := by decide +kernel
theorem dX10_night_70 : decode cX10_night 70 = .ok (.iload_n 2, 1) := by decide +kernel
theorem dX10_night_71 : decode cX10_night 71 = .ok (.bipush 12, 2) := by decide +kernel
theorem dX10_night_73 : decode cX10_night 73 = .ok (.if_icmp .ge 33, 3) := by decide +kernel
theorem dX10_night_76 : decode cX10_night 76 = .ok (.aload_n 0, 1) := by decide +kernel
theorem dX10_night_77 : decode cX10_night 77 = .ok (.getfield 83, 3) := by decide +kernel
theorem dX10_night_80 : decode cX10_night 80 = .ok (.bipush 12, 2) := by decide +kernel
theorem dX10_night_82 : decode cX10_night 82 = .ok (.iload_n 1, 1) := by decide +kernel
theorem dX10_night_83 : decode cX10_night 83 = .ok (.imul, 1) := by decide +kernel
theorem dX10_night_84 : decode cX10_night 84 = .ok (.iload_n 2, 1) := by decide +kernel
theorem dX10_night_85 : decode cX10_night 85 = .ok (.iadd, 1) := by decide +kernel
theorem dX10_night_86 : decode cX10_night 86 = .ok (.aload_n 0, 1) := by decide +kernel
theorem dX10_night_87 : decode cX10_night 87 = .ok (.getfield 83, 3) := by decide +kernel
theorem dX10_night_90 : decode cX10_night 90 = .ok (.bipush 12, 2) := by decide +kernel
theorem dX10_night_92 : decode cX10_night 92 = .ok (.iconst 5, 1) := by decide +kernel
theorem dX10_night_93 : decode cX10_night 93 = .ok (.iload_n 1, 1) := by decide +kernel
theorem dX10_night_94 : decode cX10_night 94 = .ok (.iadd, 1) := by decide +kernel
theorem dX10_night_95 : decode cX10_night 95 = .ok (.imul, 1) := by decide +kernel
theorem dX10_night_96 : decode cX10_night 96 = .ok (.iload_n 2, 1) := by decide +kernel
theorem dX10_night_97 : decode cX10_night 97 = .ok (.iadd, 1) := by decide +kernel
theorem dX10_night_98 : decode cX10_night 98 = .ok (.iaload, 1) := by decide +kernel
theorem dX10_night_99 : decode cX10_night 99 = .ok (.iastore, 1) := by decide +kernel
theorem dX10_night_100 : decode cX10_night 100 = .ok (.iinc 2 1, 3) := by decide +kernel
theorem dX10_night_103 : decode cX10_night 103 = .ok (.goto (-33), 3) := by decide +kernel
theorem dX10_night_106 : decode cX10_night 106 = .ok (.iinc 1 1, 3) := by decide +kernel
theorem dX10_night_109 : decode cX10_night 109 = .ok (.goto (-107), 3) := by decide +kernel
theorem dX10_night_112 : decode cX10_night 112 = .ok (.aload_n 0, 1) := by decide +kernel
theorem dX10_night_113 : decode cX10_night 113 = .ok (.getfield 68, 3) := by decide +kernel
theorem dX10_night_116 : decode cX10_night 116 = .ok (.iconst 0, 1) := by decide +kernel
theorem dX10_night_117 : decode cX10_night 117 = .ok (.aload_n 0, 1) := by decide +kernel
theorem dX10_night_118 : decode cX10_night 118 = .ok (.getfield 68, 3) := by decide +kernel
theorem dX10_night_121 : decode cX10_night 121 = .ok (.iconst 1, 1) := by decide +kernel
theorem dX10_night_122 : decode cX10_night 122 = .ok (.iaload, 1) := by decide +kernel
theorem dX10_night_123 : decode cX10_night 123 = .ok (.iastore, 1) := by decide +kernel
theorem dX10_night_124 : decode cX10_night 124 = .ok (.aload_n 0, 1) := by decide +kernel
theorem dX10_night_125 : decode cX10_night 125 = .ok (.getfield 68, 3) := by decide +kernel
theorem dX10_night_128 : decode cX10_night 128 = .ok (.iconst 1, 1) := by decide +kernel
theorem dX10_night_129 : decode cX10_night 129 = .ok (.iconst 0, 1) := by decide +kernel
theorem dX10_night_130 : decode cX10_night 130 = .ok (.iastore, 1) := by decide +kernel
theorem dX10_night_131 : decode cX10_night 131 = .ok (.aload_n 0, 1) := by decide +kernel
theorem dX10_night_132 : decode cX10_night 132 = .ok (.getfield 68, 3) := by decide +kernel
theorem dX10_night_135 : decode cX10_night 135 = .ok (.iconst 0, 1) := by decide +kernel
theorem dX10_night_136 : decode cX10_night 136 = .ok (.iaload, 1) := by decide +kernel
theorem dX10_night_137 : decode cX10_night 137 = .ok (.ireturn, 1) := by decide +kernel
theorem dX10_isShift_0 : decode cX10_isShift 0 = .ok (.iload_n 0, 1) := by decide +kernel
theorem dX10_isShift_1 : decode cX10_isShift 1 = .ok (.i2l, 1) := by decide +kernel
theorem dX10_isShift_2 : decode cX10_isShift 2 = .ok (.ldc2_w 364, 3) := by decide +kernel
theorem dX10_isShift_5 : decode cX10_isShift 5 = .ok (.ldc2_w 160, 3) := by decide +kernel
theorem dX10_isShift_8 : decode cX10_isShift 8 = .ok (.invokestatic 156, 3) := by decide +kernel
theorem dX10_isShift_11 : decode cX10_isShift 11 = .ok (.ifCond .eq 21, 3) := by decide +kernel
theorem dX10_isShift_14 : decode cX10_isShift 14 = .ok (.iload_n 1, 1) := by decide +kernel
theorem dX10_isShift_15 : decode cX10_isShift 15 = .ok (.i2l, 1) := by decide +kernel
theorem dX10_isShift_16 : decode cX10_isShift 16 = .ok (.ldc2_w 364, 3) := by decide +kernel
theorem dX10_isShift_19 : decode cX10_isShift 19 = .ok (.ldc2_w 160, 3) := by decide +kernel
theorem dX10_isShift_22 : decode cX10_isShift 22 = .ok (.invokestatic 156, 3) := by decide +kernel
theorem dX10_isShift_25 : decode cX10_isShift 25 = .ok (.ifCond .eq 7, 3) := by decide +kernel
theorem dX10_isShift_28 : decode cX10_isShift 28 = .ok (.iconst 1, 1) := by decide +kernel
theorem dX10_isShift_29 : decode cX10_isShift 29 = .ok (.goto 4, 3) := by decide +kernel
theorem dX10_isShift_32 : decode cX10_isShift 32 = .ok (.iconst 0, 1) := by decide +kernel
theorem dX10_isShift_33 : decode cX10_isShift 33 = .ok (.ireturn, 1) := by decide +kernel
theorem dX10_valueMoved_0 : decode cX10_valueMoved 0 = .ok (.iload_n 3, 1) := by decide +kernel
theorem dX10_valueMoved_1 : decode cX10_valueMoved 1 = .ok (.iload_n 1, 1) := by decide +kernel
theorem dX10_valueMoved_2 : decode cX10_valueMoved 2 = .ok (.isub, 1) := by decide +kernel
theorem dX10_valueMoved_3 : decode cX10_valueMoved 3 = .ok (.iload 4, 2) := by decide +kernel
theorem dX10_valueMoved_5 : decode cX10_valueMoved 5 = .ok (.iload_n 2, 1) := by decide +kernel
theorem dX10_valueMoved_6 : decode cX10_valueMoved 6 = .ok (.isub, 1) := by decide +kernel
theorem dX10_valueMoved_7 : decode cX10_valueMoved 7 = .ok (.invokestatic 164, 3) := by decide +kernel
theorem dX10_valueMoved_10 : decode cX10_valueMoved 10 = .ok (.ifCond .eq 22, 3) := by decide +kernel
theorem dX10_valueMoved_13 : decode cX10_valueMoved 13 = .ok (.aload_n 0, 1) := by decide +kernel
theorem dX10_valueMoved_14 : decode cX10_valueMoved 14 = .ok (.getfield 55, 3) := by decide +kernel
theorem dX10_valueMoved_17 : decode cX10_valueMoved 17 = .ok (.bipush 12, 2) := by decide +kernel
theorem dX10_valueMoved_19 : decode cX10_valueMoved 19 = .ok (.iload 4, 2) := by decide +kernel
theorem dX10_valueMoved_21 : decode cX10_valueMoved 21 = .ok (.iload_n 2, 1) := by decide +kernel
theorem dX10_valueMoved_22 : decode cX10_valueMoved 22 = .ok (.isub, 1) := by decide +kernel
theorem dX10_valueMoved_23 : decode cX10_valueMoved 23 = .ok (.imul, 1) := by decide +kernel
theorem dX10_valueMoved_24 : decode cX10_valueMoved 24 = .ok (.iload_n 3, 1) := by decide +kernel
theorem dX10_valueMoved_25 : decode cX10_valueMoved 25 = .ok (.iadd, 1) := by decide +kernel
theorem dX10_valueMoved_26 : decode cX10_valueMoved 26 = .ok (.iload_n 1, 1) := by decide +kernel
theorem dX10_valueMoved_27 : decode cX10_valueMoved 27 = .ok (.isub, 1) := by decide +kernel
theorem dX10_valueMoved_28 : decode cX10_valueMoved 28 = .ok (.iaload, 1) := by decide +kernel
theorem dX10_valueMoved_29 : decode cX10_valueMoved 29 = .ok (.goto 5, 3) := by decide +kernel
theorem dX10_valueMoved_32 : decode cX10_valueMoved 32 = .ok (.bipush (-9), 2) := by decide +kernel
theorem dX10_valueMoved_34 : decode cX10_valueMoved 34 = .ok (.ireturn, 1) := by decide +kernel
theorem dX10_prognosis_0 : decode cX10_prognosis 0 = .ok (.iload_n 1, 1) := by decide +kernel
theorem dX10_prognosis_1 : decode cX10_prognosis 1 = .ok (.iload_n 2, 1) := by decide +kernel
theorem dX10_prognosis_2 : decode cX10_prognosis 2 = .ok (.invokestatic 366, 3) := by decide +kernel
theorem dX10_prognosis_5 : decode cX10_prognosis 5 = .ok (.ifCond .ne 6, 3) := by decide +kernel
theorem dX10_prognosis_8 : decode cX10_prognosis 8 = .ok (.bipush (-2), 2) := by decide +kernel
theorem dX10_prognosis_10 : decode cX10_prognosis 10 = .ok (.ireturn, 1) := by decide +kernel
theorem dX10_prognosis_11 : decode cX10_prognosis 11 = .ok (.iload_n 3, 1) := by decide +kernel
theorem dX10_prognosis_12 : decode cX10_prognosis 12 = .ok (.iload 4, 2) := by decide +kernel
theorem dX10_prognosis_14 : decode cX10_prognosis 14 = .ok (.invokestatic 164, 3) := by decide +kernel
theorem dX10_prognosis_17 : decode cX10_prognosis 17 = .ok (.ifCond .ne 5, 3) := by decide +kernel
theorem dX10_prognosis_20 : decode cX10_prognosis 20 = .ok (.iconst (-1), 1) := by decide +kernel
theorem dX10_prognosis_21 : decode cX10_prognosis 21 = .ok (.ireturn, 1) := by decide +kernel
theorem dX10_prognosis_22 : decode cX10_prognosis 22 = .ok (.aload_n 0, 1) := by decide +kernel
theorem dX10_prognosis_23 : decode cX10_prognosis 23 = .ok (.invokevirtual 237, 3) := by decide +kernel
theorem dX10_prognosis_26 : decode cX10_prognosis 26 = .ok (.aload_n 0, 1) := by decide +kernel
theorem dX10_prognosis_27 : decode cX10_prognosis 27 = .ok (.iload_n 1, 1) := by decide +kernel
theorem dX10_prognosis_28 : decode cX10_prognosis 28 = .ok (.iload_n 2, 1) := by decide +kernel
theorem dX10_prognosis_29 : decode cX10_prognosis 29 = .ok (.iload_n 3, 1) := by decide +kernel
theorem dX10_prognosis_30 : decode cX10_prognosis 30 = .ok (.iload 4, 2) := by decide +kernel
theorem dX10_prognosis_32 : decode cX10_prognosis 32 = .ok (.invokevirtual 369, 3) := by decide +kernel
theorem dX10_prognosis_35 : decode cX10_prognosis 35 = .ok (.ireturn, 1) := by decide +kernel
theorem dX10_keep_0 : decode cX10_keep 0 = .ok (.iload_n 1, 1) := by decide +kernel
theorem dX10_keep_1 : decode cX10_keep 1 = .ok (.i2l, 1) := by decide +kernel
theorem dX10_keep_2 : decode cX10_keep 2 = .ok (.lconst 0, 1) := by decide +kernel
theorem dX10_keep_3 : decode cX10_keep 3 = .ok (.ldc2_w 340, 3) := by decide +kernel
theorem dX10_keep_6 : decode cX10_keep 6 = .ok (.invokestatic 156, 3) := by decide +kernel
theorem dX10_keep_9 : decode cX10_keep 9 = .ok (.ifCond .ne 5, 3) := by decide +kernel
theorem dX10_keep_12 : decode cX10_keep 12 = .ok (.iconst (-1), 1) := by decide +kernel
theorem dX10_keep_13 : decode cX10_keep 13 = .ok (.ireturn, 1) := by decide +kernel
theorem dX10_keep_14 : decode cX10_keep 14 = .ok (.aload_n 0, 1) := by decide +kernel
theorem dX10_keep_15 : decode cX10_keep 15 = .ok (.invokevirtual 237, 3) := by decide +kernel
theorem dX10_keep_18 : decode cX10_keep 18 = .ok (.iconst 0, 1) := by decide +kernel
theorem dX10_keep_19 : decode cX10_keep 19 = .ok (.istore_n 2, 1) := by decide +kernel
theorem dX10_keep_20 : decode cX10_keep 20 = .ok (.iconst 0, 1) := by decide +kernel
theorem dX10_keep_21 : decode cX10_keep 21 = .ok (.istore_n 3, 1) := by decide +kernel
theorem dX10_keep_22 : decode cX10_keep 22 = .ok (.iload_n 3, 1) := by decide +kernel
theorem dX10_keep_23 : decode cX10_keep 23 = .ok (.sipush 144, 3) := by decide +kernel
theorem dX10_keep_26 : decode cX10_keep 26 = .ok (.if_icmp .ge 46, 3) := by decide +kernel
theorem dX10_keep_29 : decode cX10_keep 29 = .ok (.aload_n 0, 1) := by decide +kernel
theorem dX10_keep_30 : decode cX10_keep 30 = .ok (.getfield 101, 3) := by decide +kernel
theorem dX10_keep_33 : decode cX10_keep 33 = .ok (.sipush 144, 3) := by decide +kernel
theorem dX10_keep_36 : decode cX10_keep 36 = .ok (.iload_n 1, 1) := by decide +kernel
theorem dX10_keep_37 : decode cX10_keep 37 = .ok (.imul, 1) := by decide +kernel
theorem dX10_keep_38 : decode cX10_keep 38 = .ok (.iload_n 3, 1) := by decide +kernel
theorem dX10_keep_39 : decode cX10_keep 39 = .ok (.iadd, 1) := by decide +kernel
theorem dX10_keep_40 : decode cX10_keep 40 = .ok (.aload_n 0, 1) := by decide +kernel
theorem dX10_keep_41 : decode cX10_keep 41 = .ok (.getfield 55, 3) := by decide +kernel
theorem dX10_keep_44 : decode cX10_keep 44 = .ok (.iload_n 3, 1) := by decide +kernel
theorem dX10_keep_45 : decode cX10_keep 45 = .ok (.iaload, 1) := by decide +kernel
theorem dX10_keep_46 : decode cX10_keep 46 = .ok (.iastore, 1) := by decide +kernel
theorem dX10_keep_47 : decode cX10_keep 47 = .ok (.iload_n 2, 1) := by decide +kernel
theorem dX10_keep_48 : decode cX10_keep 48 = .ok (.aload_n 0, 1) := by decide +kernel
theorem dX10_keep_49 : decode cX10_keep 49 = .ok (.getfield 55, 3) := by decide +kernel
theorem dX10_keep_52 : decode cX10_keep 52 = .ok (.iload_n 3, 1) := by decide +kernel
theorem dX10_keep_53 : decode cX10_keep 53 = .ok (.iaload, 1) := by decide +kernel
theorem dX10_keep_54 : decode cX10_keep 54 = .ok (.bipush (-9), 2) := by decide +kernel
theorem dX10_keep_56 : decode cX10_keep 56 = .ok (.if_icmp .ne 7, 3) := by decide +kernel
theorem dX10_keep_59 : decode cX10_keep 59 = .ok (.iconst 0, 1) := by decide +kernel
theorem dX10_keep_60 : decode cX10_keep 60 = .ok (.goto 4, 3) := by decide +kernel
theorem dX10_keep_63 : decode cX10_keep 63 = .ok (.iconst 1, 1) := by decide +kernel
theorem dX10_keep_64 : decode cX10_keep 64 = .ok (.iadd, 1) := by decide +kernel
theorem dX10_keep_65 : decode cX10_keep 65 = .ok (.istore_n 2, 1) := by decide +kernel
theorem dX10_keep_66 : decode cX10_keep 66 = .ok (.iinc 3 1, 3) := by decide +kernel
theorem dX10_keep_69 : decode cX10_keep 69 = .ok (.goto (-47), 3) := by decide +kernel
theorem dX10_keep_72 : decode cX10_keep 72 = .ok (.aload_n 0, 1) := by decide +kernel
theorem dX10_keep_73 : decode cX10_keep 73 = .ok (.getfield 98, 3) := by decide +kernel
theorem dX10_keep_76 : decode cX10_keep 76 = .ok (.iload_n 1, 1) := by decide +kernel
theorem dX10_keep_77 : decode cX10_keep 77 = .ok (.iconst 1, 1) := by decide +kernel
theorem dX10_keep_78 : decode cX10_keep 78 = .ok (.bastore, 1) := by decide +kernel
theorem dX10_keep_79 : decode cX10_keep 79 = .ok (.iload_n 2, 1) := by decide +kernel
theorem dX10_keep_80 : decode cX10_keep 80 = .ok (.ireturn, 1) := by decide +kernel
theorem dX10_layBeside_0 : decode cX10_layBeside 0 = .ok (.aload_n 0, 1) := by decide +kernel
theorem dX10_layBeside_1 : decode cX10_layBeside 1 = .ok (.iconst 0, 1) := by decide +kernel
theorem dX10_layBeside_2 : decode cX10_layBeside 2 = .ok (.putfield 372, 3) := by decide +kernel
theorem dX10_layBeside_5 : decode cX10_layBeside 5 = .ok (.aload_n 0, 1) := by decide +kernel
theorem dX10_layBeside_6 : decode cX10_layBeside 6 = .ok (.lconst 0, 1) := by decide +kernel
theorem dX10_layBeside_7 : decode cX10_layBeside 7 = .ok (.putfield 375, 3) := by decide +kernel
theorem dX10_layBeside_10 : decode cX10_layBeside 10 = .ok (.aload_n 0, 1) := by decide +kernel
theorem dX10_layBeside_11 : decode cX10_layBeside 11 = .ok (.lconst 0, 1) := by decide +kernel
theorem dX10_layBeside_12 : decode cX10_layBeside 12 = .ok (.putfield 379, 3) := by decide +kernel
theorem dX10_layBeside_15 : decode cX10_layBeside 15 = .ok (.iconst 0, 1) := by decide +kernel
theorem dX10_layBeside_16 : decode cX10_layBeside 16 = .ok (.istore 4, 2) := by decide +kernel
theorem dX10_layBeside_18 : decode cX10_layBeside 18 = .ok (.iload 4, 2) := by decide +kernel
theorem dX10_layBeside_20 : decode cX10_layBeside 20 = .ok (.sipush 144, 3) := by decide +kernel
theorem dX10_layBeside_23 : decode cX10_layBeside 23 = .ok (.if_icmp .ge 99, 3) := by decide +kernel
theorem dX10_layBeside_26 : decode cX10_layBeside 26 = .ok (.aload_n 0, 1) := by decide +kernel
theorem dX10_layBeside_27 : decode cX10_layBeside 27 = .ok (.iload_n 1, 1) := by decide +kernel
theorem dX10_layBeside_28 : decode cX10_layBeside 28 = .ok (.iload_n 2, 1) := by decide +kernel
theorem dX10_layBeside_29 : decode cX10_layBeside 29 = .ok (.iload 4, 2) := by decide +kernel
theorem dX10_layBeside_31 : decode cX10_layBeside 31 = .ok (.bipush 12, 2) := by decide +kernel
theorem dX10_layBeside_33 : decode cX10_layBeside 33 = .ok (.irem, 1) := by decide +kernel
theorem dX10_layBeside_34 : decode cX10_layBeside 34 = .ok (.iload 4, 2) := by decide +kernel
theorem dX10_layBeside_36 : decode cX10_layBeside 36 = .ok (.bipush 12, 2) := by decide +kernel
theorem dX10_layBeside_38 : decode cX10_layBeside 38 = .ok (.idiv, 1) := by decide +kernel
theorem dX10_layBeside_39 : decode cX10_layBeside 39 = .ok (.invokevirtual 369, 3) := by decide +kernel
theorem dX10_layBeside_42 : decode cX10_layBeside 42 = .ok (.istore 5, 2) := by decide +kernel
theorem dX10_layBeside_44 : decode cX10_layBeside 44 = .ok (.aload_n 0, 1) := by decide +kernel
theorem dX10_layBeside_45 : decode cX10_layBeside 45 = .ok (.getfield 101, 3) := by decide +kernel
theorem dX10_layBeside_48 : decode cX10_layBeside 48 = .ok (.sipush 144, 3) := by decide +kernel
theorem dX10_layBeside_51 : decode cX10_layBeside 51 = .ok (.iload_n 3, 1) := by decide +kernel
theorem dX10_layBeside_52 : decode cX10_layBeside 52 = .ok (.imul, 1) := by decide +kernel
theorem dX10_layBeside_53 : decode cX10_layBeside 53 = .ok (.iload 4, 2) := by decide +kernel
theorem dX10_layBeside_55 : decode cX10_layBeside 55 = .ok (.iadd, 1) := by decide +kernel
theorem dX10_layBeside_56 : decode cX10_layBeside 56 = .ok (.iaload, 1) := by decide +kernel
theorem dX10_layBeside_57 : decode cX10_layBeside 57 = .ok (.istore 6, 2) := by decide +kernel
theorem dX10_layBeside_59 : decode cX10_layBeside 59 = .ok (.iload 5, 2) := by decide +kernel
theorem dX10_layBeside_61 : decode cX10_layBeside 61 = .ok (.bipush (-9), 2) := by decide +kernel
theorem dX10_layBeside_63 : decode cX10_layBeside 63 = .ok (.if_icmp .eq 53, 3) := by decide +kernel
theorem dX10_layBeside_66 : decode cX10_layBeside 66 = .ok (.iload 6, 2) := by decide +kernel
theorem dX10_layBeside_68 : decode cX10_layBeside 68 = .ok (.bipush (-9), 2) := by decide +kernel
theorem dX10_layBeside_70 : decode cX10_layBeside 70 = .ok (.if_icmp .eq 46, 3) := by decide +kernel
theorem dX10_layBeside_73 : decode cX10_layBeside 73 = .ok (.aload_n 0, 1) := by decide +kernel
theorem dX10_layBeside_74 : decode cX10_layBeside 74 = .ok (.dup, 1) := by decide +kernel
theorem dX10_layBeside_75 : decode cX10_layBeside 75 = .ok (.getfield 372, 3) := by decide +kernel
theorem dX10_layBeside_78 : decode cX10_layBeside 78 = .ok (.iconst 1, 1) := by decide +kernel
theorem dX10_layBeside_79 : decode cX10_layBeside 79 = .ok (.iadd, 1) := by decide +kernel
theorem dX10_layBeside_80 : decode cX10_layBeside 80 = .ok (.putfield 372, 3) := by decide +kernel
theorem dX10_layBeside_83 : decode cX10_layBeside 83 = .ok (.aload_n 0, 1) := by decide +kernel
theorem dX10_layBeside_84 : decode cX10_layBeside 84 = .ok (.dup, 1) := by decide +kernel
theorem dX10_layBeside_85 : decode cX10_layBeside 85 = .ok (.getfield 375, 3) := by decide +kernel
theorem dX10_layBeside_88 : decode cX10_layBeside 88 = .ok (.iload 5, 2) := by decide +kernel
theorem dX10_layBeside_90 : decode cX10_layBeside 90 = .ok (.iload 6, 2) := by decide +kernel
theorem dX10_layBeside_92 : decode cX10_layBeside 92 = .ok (.isub, 1) := by decide +kernel
theorem dX10_layBeside_93 : decode cX10_layBeside 93 = .ok (.invokestatic 195, 3) := by decide +kernel
theorem dX10_layBeside_96 : decode cX10_layBeside 96 = .ok (.i2l, 1) := by decide +kernel
theorem dX10_layBeside_97 : decode cX10_layBeside 97 = .ok (.ladd, 1) := by decide +kernel
theorem dX10_layBeside_98 : decode cX10_layBeside 98 = .ok (.putfield 375, 3) := by decide +kernel
theorem dX10_layBeside_101 : decode cX10_layBeside 101 = .ok (.aload_n 0, 1) := by decide +kernel
theorem dX10_layBeside_102 : decode cX10_layBeside 102 = .ok (.dup, 1) := by decide +kernel
theorem dX10_layBeside_103 : decode cX10_layBeside 103 = .ok (.getfield 379, 3) := by decide +kernel
theorem dX10_layBeside_106 : decode cX10_layBeside 106 = .ok (.iload 5, 2) := by decide +kernel
theorem dX10_layBeside_108 : decode cX10_layBeside 108 = .ok (.iload 6, 2) := by decide +kernel
theorem dX10_layBeside_110 : decode cX10_layBeside 110 = .ok (.isub, 1) := by decide +kernel
theorem dX10_layBeside_111 : decode cX10_layBeside 111 = .ok (.i2l, 1) := by decide +kernel
theorem dX10_layBeside_112 : decode cX10_layBeside 112 = .ok (.ladd, 1) := by decide +kernel
theorem dX10_layBeside_113 : decode cX10_layBeside 113 = .ok (.putfield 379, 3) := by decide +kernel
theorem dX10_layBeside_116 : decode cX10_layBeside 116 = .ok (.iinc 4 1, 3) := by decide +kernel
theorem dX10_layBeside_119 : decode cX10_layBeside 119 = .ok (.goto (-101), 3) := by decide +kernel
theorem dX10_layBeside_122 : decode cX10_layBeside 122 = .ok (.return_, 1) := by decide +kernel
theorem dX10_beside_0 : decode cX10_beside 0 = .ok (.iload_n 1, 1) := by decide +kernel
theorem dX10_beside_1 : decode cX10_beside 1 = .ok (.iload_n 2, 1) := by decide +kernel
theorem dX10_beside_2 : decode cX10_beside 2 = .ok (.invokestatic 366, 3) := by decide +kernel
theorem dX10_beside_5 : decode cX10_beside 5 = .ok (.ifCond .eq 37, 3) := by decide +kernel
theorem dX10_beside_8 : decode cX10_beside 8 = .ok (.iload 4, 2) := by decide +kernel
theorem dX10_beside_10 : decode cX10_beside 10 = .ok (.i2l, 1) := by decide +kernel
theorem dX10_beside_11 : decode cX10_beside 11 = .ok (.lconst 0, 1) := by decide +kernel
theorem dX10_beside_12 : decode cX10_beside 12 = .ok (.ldc2_w 162, 3) := by decide +kernel
theorem dX10_beside_15 : decode cX10_beside 15 = .ok (.invokestatic 156, 3) := by decide +kernel
theorem dX10_beside_18 : decode cX10_beside 18 = .ok (.ifCond .eq 24, 3) := by decide +kernel
theorem dX10_beside_21 : decode cX10_beside 21 = .ok (.iload_n 3, 1) := by decide +kernel
theorem dX10_beside_22 : decode cX10_beside 22 = .ok (.i2l, 1) := by decide +kernel
theorem dX10_beside_23 : decode cX10_beside 23 = .ok (.lconst 0, 1) := by decide +kernel
theorem dX10_beside_24 : decode cX10_beside 24 = .ok (.ldc2_w 340, 3) := by decide +kernel
theorem dX10_beside_27 : decode cX10_beside 27 = .ok (.invokestatic 156, 3) := by decide +kernel
theorem dX10_beside_30 : decode cX10_beside 30 = .ok (.ifCond .eq 12, 3) := by decide +kernel
theorem dX10_beside_33 : decode cX10_beside 33 = .ok (.aload_n 0, 1) := by decide +kernel
theorem dX10_beside_34 : decode cX10_beside 34 = .ok (.getfield 98, 3) := by decide +kernel
theorem dX10_beside_37 : decode cX10_beside 37 = .ok (.iload_n 3, 1) := by decide +kernel
theorem dX10_beside_38 : decode cX10_beside 38 = .ok (.baload, 1) := by decide +kernel
theorem dX10_beside_39 : decode cX10_beside 39 = .ok (.ifCond .ne 7, 3) := by decide +kernel
theorem dX10_beside_42 : decode cX10_beside 42 = .ok (.invokestatic 149, 3) := by decide +kernel
theorem dX10_beside_45 : decode cX10_beside 45 = .ok (.lreturn, 1) := by decide +kernel
theorem dX10_beside_46 : decode cX10_beside 46 = .ok (.aload_n 0, 1) := by decide +kernel
theorem dX10_beside_47 : decode cX10_beside 47 = .ok (.invokevirtual 237, 3) := by decide +kernel
theorem dX10_beside_50 : decode cX10_beside 50 = .ok (.aload_n 0, 1) := by decide +kernel
theorem dX10_beside_51 : decode cX10_beside 51 = .ok (.iload_n 1, 1) := by decide +kernel
theorem dX10_beside_52 : decode cX10_beside 52 = .ok (.iload_n 2, 1) := by decide +kernel
theorem dX10_beside_53 : decode cX10_beside 53 = .ok (.iload_n 3, 1) := by decide +kernel
theorem dX10_beside_54 : decode cX10_beside 54 = .ok (.invokevirtual 382, 3) := by decide +kernel
theorem dX10_beside_57 : decode cX10_beside 57 = .ok (.iload 4, 2) := by decide +kernel
theorem dX10_beside_59 : decode cX10_beside 59 = .ok (.ifCond .ne 11, 3) := by decide +kernel
theorem dX10_beside_62 : decode cX10_beside 62 = .ok (.aload_n 0, 1) := by decide +kernel
theorem dX10_beside_63 : decode cX10_beside 63 = .ok (.getfield 372, 3) := by decide +kernel
theorem dX10_beside_66 : decode cX10_beside 66 = .ok (.i2l, 1) := by decide +kernel
theorem dX10_beside_67 : decode cX10_beside 67 = .ok (.goto 20, 3) := by decide +kernel
theorem dX10_beside_70 : decode cX10_beside 70 = .ok (.iload 4, 2) := by decide +kernel
theorem dX10_beside_72 : decode cX10_beside 72 = .ok (.iconst 1, 1) := by decide +kernel
theorem dX10_beside_73 : decode cX10_beside 73 = .ok (.if_icmp .ne 10, 3) := by decide +kernel
theorem dX10_beside_76 : decode cX10_beside 76 = .ok (.aload_n 0, 1) := by decide +kernel
theorem dX10_beside_77 : decode cX10_beside 77 = .ok (.getfield 375, 3) := by decide +kernel
theorem dX10_beside_80 : decode cX10_beside 80 = .ok (.goto 7, 3) := by decide +kernel
theorem dX10_beside_83 : decode cX10_beside 83 = .ok (.aload_n 0, 1) := by decide +kernel
theorem dX10_beside_84 : decode cX10_beside 84 = .ok (.getfield 379, 3) := by decide +kernel
theorem dX10_beside_87 : decode cX10_beside 87 = .ok (.lreturn, 1) := by decide +kernel
theorem dX10_drift_0 : decode cX10_drift 0 = .ok (.iload_n 1, 1) := by decide +kernel
theorem dX10_drift_1 : decode cX10_drift 1 = .ok (.i2l, 1) := by decide +kernel
theorem dX10_drift_2 : decode cX10_drift 2 = .ok (.lconst 0, 1) := by decide +kernel
theorem dX10_drift_3 : decode cX10_drift 3 = .ok (.ldc2_w 340, 3) := by decide +kernel
theorem dX10_drift_6 : decode cX10_drift 6 = .ok (.invokestatic 156, 3) := by decide +kernel
theorem dX10_drift_9 : decode cX10_drift 9 = .ok (.ifCond .ne 5, 3) := by decide +kernel
theorem dX10_drift_12 : decode cX10_drift 12 = .ok (.iconst (-1), 1) := by decide +kernel
theorem dX10_drift_13 : decode cX10_drift 13 = .ok (.ireturn, 1) := by decide +kernel
theorem dX10_drift_14 : decode cX10_drift 14 = .ok (.iload_n 2, 1) := by decide +kernel
theorem dX10_drift_15 : decode cX10_drift 15 = .ok (.i2l, 1) := by decide +kernel
theorem dX10_drift_16 : decode cX10_drift 16 = .ok (.lconst 0, 1) := by decide +kernel
theorem dX10_drift_17 : decode cX10_drift 17 = .ok (.ldc2_w 240, 3) := by decide +kernel
theorem dX10_drift_20 : decode cX10_drift 20 = .ok (.invokestatic 156, 3) := by decide +kernel
theorem dX10_drift_23 : decode cX10_drift 23 = .ok (.ifCond .ne 6, 3) := by decide +kernel
theorem dX10_drift_26 : decode cX10_drift 26 = .ok (.bipush (-2), 2) := by decide +kernel
theorem dX10_drift_28 : decode cX10_drift 28 = .ok (.ireturn, 1) := by decide +kernel
theorem dX10_drift_29 : decode cX10_drift 29 = .ok (.aload_n 0, 1) := by decide +kernel
theorem dX10_drift_30 : decode cX10_drift 30 = .ok (.getfield 98, 3) := by decide +kernel
theorem dX10_drift_33 : decode cX10_drift 33 = .ok (.iload_n 1, 1) := by decide +kernel
theorem dX10_drift_34 : decode cX10_drift 34 = .ok (.baload, 1) := by decide +kernel
theorem dX10_drift_35 : decode cX10_drift 35 = .ok (.ifCond .ne 6, 3) := by decide +kernel
theorem dX10_drift_38 : decode cX10_drift 38 = .ok (.bipush (-3), 2) := by decide +kernel
theorem dX10_drift_40 : decode cX10_drift 40 = .ok (.ireturn, 1) := by decide +kernel
theorem dX10_drift_41 : decode cX10_drift 41 = .ok (.aload_n 0, 1) := by decide +kernel
theorem dX10_drift_42 : decode cX10_drift 42 = .ok (.invokevirtual 237, 3) := by decide +kernel
theorem dX10_drift_45 : decode cX10_drift 45 = .ok (.bipush (-3), 2) := by decide +kernel
theorem dX10_drift_47 : decode cX10_drift 47 = .ok (.istore_n 3, 1) := by decide +kernel
theorem dX10_drift_48 : decode cX10_drift 48 = .ok (.lconst 0, 1) := by decide +kernel
theorem dX10_drift_49 : decode cX10_drift 49 = .ok (.lstore 4, 2) := by decide +kernel
theorem dX10_drift_51 : decode cX10_drift 51 = .ok (.lconst 1, 1) := by decide +kernel
theorem dX10_drift_52 : decode cX10_drift 52 = .ok (.lstore 6, 2) := by decide +kernel
theorem dX10_drift_54 : decode cX10_drift 54 = .ok (.iload_n 2, 1) := by decide +kernel
theorem dX10_drift_55 : decode cX10_drift 55 = .ok (.ineg, 1) := by decide +kernel
theorem dX10_drift_56 : decode cX10_drift 56 = .ok (.istore 8, 2) := by decide +kernel
theorem dX10_drift_58 : decode cX10_drift 58 = .ok (.iload 8, 2) := by decide +kernel
theorem dX10_drift_60 : decode cX10_drift 60 = .ok (.iload_n 2, 1) := by decide +kernel
theorem dX10_drift_61 : decode cX10_drift 61 = .ok (.if_icmp .gt 92, 3) := by decide +kernel
theorem dX10_drift_64 : decode cX10_drift 64 = .ok (.iload_n 2, 1) := by decide +kernel
theorem dX10_drift_65 : decode cX10_drift 65 = .ok (.ineg, 1) := by decide +kernel
theorem dX10_drift_66 : decode cX10_drift 66 = .ok (.istore 9, 2) := by decide +kernel
theorem dX10_drift_68 : decode cX10_drift 68 = .ok (.iload 9, 2) := by decide +kernel
theorem dX10_drift_70 : decode cX10_drift 70 = .ok (.iload_n 2, 1) := by decide +kernel
theorem dX10_drift_71 : decode cX10_drift 71 = .ok (.if_icmp .gt 76, 3) := by decide +kernel
theorem dX10_drift_74 : decode cX10_drift 74 = .ok (.aload_n 0, 1) := by decide +kernel
theorem dX10_drift_75 : decode cX10_drift 75 = .ok (.iload 8, 2) := by decide +kernel
theorem dX10_drift_77 : decode cX10_drift 77 = .ok (.iload 9, 2) := by decide +kernel
theorem dX10_drift_79 : decode cX10_drift 79 = .ok (.iload_n 1, 1) := by decide +kernel
theorem dX10_drift_80 : decode cX10_drift 80 = .ok (.invokevirtual 382, 3) := by decide +kernel
theorem dX10_drift_83 : decode cX10_drift 83 = .ok (.aload_n 0, 1) := by decide +kernel
theorem dX10_drift_84 : decode cX10_drift 84 = .ok (.getfield 372, 3) := by decide +kernel
theorem dX10_drift_87 : decode cX10_drift 87 = .ok (.ifCond .le 54, 3) := by decide +kernel
theorem dX10_drift_90 : decode cX10_drift 90 = .ok (.iload_n 3, 1) := by decide +kernel
theorem dX10_drift_91 : decode cX10_drift 91 = .ok (.ifCond .lt 22, 3) := by decide +kernel
theorem dX10_drift_94 : decode cX10_drift 94 = .ok (.aload_n 0, 1) := by decide +kernel
theorem dX10_drift_95 : decode cX10_drift 95 = .ok (.getfield 375, 3) := by decide +kernel
theorem dX10_drift_98 : decode cX10_drift 98 = .ok (.lload 6, 2) := by decide +kernel
theorem dX10_drift_100 : decode cX10_drift 100 = .ok (.lmul, 1) := by decide +kernel
theorem dX10_drift_101 : decode cX10_drift 101 = .ok (.lload 4, 2) := by decide +kernel
theorem dX10_drift_103 : decode cX10_drift 103 = .ok (.aload_n 0, 1) := by decide +kernel
theorem dX10_drift_104 : decode cX10_drift 104 = .ok (.getfield 372, 3) := by decide +kernel
theorem dX10_drift_107 : decode cX10_drift 107 = .ok (.i2l, 1) := by decide +kernel
theorem dX10_drift_108 : decode cX10_drift 108 = .ok (.lmul, 1) := by decide +kernel
theorem dX10_drift_109 : decode cX10_drift 109 = .ok (.lcmp, 1) := by decide +kernel
theorem dX10_drift_110 : decode cX10_drift 110 = .ok (.ifCond .ge 31, 3) := by decide +kernel
theorem dX10_drift_113 : decode cX10_drift 113 = .ok (.bipush 100, 2) := by decide +kernel
theorem dX10_drift_115 : decode cX10_drift 115 = .ok (.iload 8, 2) := by decide +kernel
theorem dX10_drift_117 : decode cX10_drift 117 = .ok (.bipush 11, 2) := by decide +kernel
theorem dX10_drift_119 : decode cX10_drift 119 = .ok (.iadd, 1) := by decide +kernel
theorem dX10_drift_120 : decode cX10_drift 120 = .ok (.imul, 1) := by decide +kernel
theorem dX10_drift_121 : decode cX10_drift 121 = .ok (.iload 9, 2) := by decide +kernel
theorem dX10_drift_123 : decode cX10_drift 123 = .ok (.iadd, 1) := by decide +kernel
theorem dX10_drift_124 : decode cX10_drift 124 = .ok (.bipush 11, 2) := by decide +kernel
theorem dX10_drift_126 : decode cX10_drift 126 = .ok (.iadd, 1) := by decide +kernel
theorem dX10_drift_127 : decode cX10_drift 127 = .ok (.istore_n 3, 1) := by decide +kernel
theorem dX10_drift_128 : decode cX10_drift 128 = .ok (.aload_n 0, 1) := by decide +kernel
theorem dX10_drift_129 : decode cX10_drift 129 = .ok (.getfield 375, 3) := by decide +kernel
theorem dX10_drift_132 : decode cX10_drift 132 = .ok (.lstore 4, 2) := by decide +kernel
theorem dX10_drift_134 : decode cX10_drift 134 = .ok (.aload_n 0, 1) := by decide +kernel
theorem dX10_drift_135 : decode cX10_drift 135 = .ok (.getfield 372, 3) := by decide +kernel
theorem dX10_drift_138 : decode cX10_drift 138 = .ok (.i2l, 1) := by decide +kernel
theorem dX10_drift_139 : decode cX10_drift 139 = .ok (.lstore 6, 2) := by decide +kernel
theorem dX10_drift_141 : decode cX10_drift 141 = .ok (.iinc 9 1, 3) := by decide +kernel
theorem dX10_drift_144 : decode cX10_drift 144 = .ok (.goto (-76), 3) := by decide +kernel
theorem dX10_drift_147 : decode cX10_drift 147 = .ok (.iinc 8 1, 3) := by decide +kernel
theorem dX10_drift_150 : decode cX10_drift 150 = .ok (.goto (-92), 3) := by decide +kernel
theorem dX10_drift_153 : decode cX10_drift 153 = .ok (.iload_n 3, 1) := by decide +kernel
theorem dX10_drift_154 : decode cX10_drift 154 = .ok (.ireturn, 1) := by decide +kernel
theorem dX10_regionOf_0 : decode cX10_regionOf 0 = .ok (.iload_n 0, 1) := by decide +kernel
theorem dX10_regionOf_1 : decode cX10_regionOf 1 = .ok (.bipush 110, 2) := by decide +kernel
theorem dX10_regionOf_3 : decode cX10_regionOf 3 = .ok (.if_icmp .ne 7, 3) := by decide +kernel
theorem dX10_regionOf_6 : decode cX10_regionOf 6 = .ok (.iconst 0, 1) := by decide +kernel
theorem dX10_regionOf_7 : decode cX10_regionOf 7 = .ok (.goto 44, 3) := by decide +kernel
theorem dX10_regionOf_10 : decode cX10_regionOf 10 = .ok (.iload_n 0, 1) := by decide +kernel
theorem dX10_regionOf_11 : decode cX10_regionOf 11 = .ok (.bipush 115, 2) := by decide +kernel
theorem dX10_regionOf_13 : decode cX10_regionOf 13 = .ok (.if_icmp .ne 7, 3) := by decide +kernel
theorem dX10_regionOf_16 : decode cX10_regionOf 16 = .ok (.iconst 1, 1) := by decide +kernel
theorem dX10_regionOf_17 : decode cX10_regionOf 17 = .ok (.goto 34, 3) := by decide +kernel
theorem dX10_regionOf_20 : decode cX10_regionOf 20 = .ok (.iload_n 0, 1) := by decide +kernel
theorem dX10_regionOf_21 : decode cX10_regionOf 21 = .ok (.bipush 119, 2) := by decide +kernel
theorem dX10_regionOf_23 : decode cX10_regionOf 23 = .ok (.if_icmp .ne 7, 3) := by decide +kernel
theorem dX10_regionOf_26 : decode cX10_regionOf 26 = .ok (.iconst 2, 1) := by decide +kernel
theorem dX10_regionOf_27 : decode cX10_regionOf 27 = .ok (.goto 24, 3) := by decide +kernel
theorem dX10_regionOf_30 : decode cX10_regionOf 30 = .ok (.iload_n 0, 1) := by decide +kernel
theorem dX10_regionOf_31 : decode cX10_regionOf 31 = .ok (.bipush 101, 2) := by decide +kernel
theorem dX10_regionOf_33 : decode cX10_regionOf 33 = .ok (.if_icmp .ne 7, 3) := by decide +kernel
theorem dX10_regionOf_36 : decode cX10_regionOf 36 = .ok (.iconst 3, 1) := by decide +kernel
theorem dX10_regionOf_37 : decode cX10_regionOf 37 = .ok (.goto 14, 3) := by decide +kernel
theorem dX10_regionOf_40 : decode cX10_regionOf 40 = .ok (.iload_n 0, 1) := by decide +kernel
theorem dX10_regionOf_41 : decode cX10_regionOf 41 = .ok (.bipush 109, 2) := by decide +kernel
theorem dX10_regionOf_43 : decode cX10_regionOf 43 = .ok (.if_icmp .ne 7, 3) := by decide +kernel
theorem dX10_regionOf_46 : decode cX10_regionOf 46 = .ok (.iconst 4, 1) := by decide +kernel
theorem dX10_regionOf_47 : decode cX10_regionOf 47 = .ok (.goto 4, 3) := by decide +kernel
theorem dX10_regionOf_50 : decode cX10_regionOf 50 = .ok (.iconst (-1), 1) := by decide +kernel
theorem dX10_regionOf_51 : decode cX10_regionOf 51 = .ok (.ireturn, 1) := by decide +kernel
theorem dX10_read_0 : decode cX10_read 0 = .ok (.aload_n 0, 1) := by decide +kernel
theorem dX10_read_1 : decode cX10_read 1 = .ok (.iconst 0, 1) := by decide +kernel
theorem dX10_read_2 : decode cX10_read 2 = .ok (.putfield 386, 3) := by decide +kernel
theorem dX10_read_5 : decode cX10_read 5 = .ok (.iconst 0, 1) := by decide +kernel
theorem dX10_read_6 : decode cX10_read 6 = .ok (.istore_n 3, 1) := by decide +kernel
theorem dX10_read_7 : decode cX10_read 7 = .ok (.iconst 0, 1) := by decide +kernel
theorem dX10_read_8 : decode cX10_read 8 = .ok (.istore 4, 2) := by decide +kernel
theorem dX10_read_10 : decode cX10_read 10 = .ok (.iload 4, 2) := by decide +kernel
theorem dX10_read_12 : decode cX10_read 12 = .ok (.iload_n 2, 1) := by decide +kernel
theorem dX10_read_13 : decode cX10_read 13 = .ok (.if_icmp .ge 207, 3) := by decide +kernel
theorem dX10_read_16 : decode cX10_read 16 = .ok (.aload_n 0, 1) := by decide +kernel
theorem dX10_read_17 : decode cX10_read 17 = .ok (.getfield 131, 3) := by decide +kernel
theorem dX10_read_20 : decode cX10_read 20 = .ok (.iload_n 1, 1) := by decide +kernel
theorem dX10_read_21 : decode cX10_read 21 = .ok (.iload 4, 2) := by decide +kernel
theorem dX10_read_23 : decode cX10_read 23 = .ok (.iadd, 1) := by decide +kernel
theorem dX10_read_24 : decode cX10_read 24 = .ok (.iaload, 1) := by decide +kernel
theorem dX10_read_25 : decode cX10_read 25 = .ok (.istore 5, 2) := by decide +kernel
theorem dX10_read_27 : decode cX10_read 27 = .ok (.iload 5, 2) := by decide +kernel
theorem dX10_read_29 : decode cX10_read 29 = .ok (.i2l, 1) := by decide +kernel
theorem dX10_read_30 : decode cX10_read 30 = .ok (.ldc2_w 389, 3) := by decide +kernel
theorem dX10_read_33 : decode cX10_read 33 = .ok (.ldc2_w 391, 3) := by decide +kernel
theorem dX10_read_36 : decode cX10_read 36 = .ok (.invokestatic 156, 3) := by decide +kernel
theorem dX10_read_39 : decode cX10_read 39 = .ok (.istore 6, 2) := by decide +kernel
theorem dX10_read_41 : decode cX10_read 41 = .ok (.iload_n 3, 1) := by decide +kernel
theorem dX10_read_42 : decode cX10_read 42 = .ok (.ifCond .ne 40, 3) := by decide +kernel
theorem dX10_read_45 : decode cX10_read 45 = .ok (.iload 5, 2) := by decide +kernel
theorem dX10_read_47 : decode cX10_read 47 = .ok (.invokestatic 393, 3) := by decide +kernel
theorem dX10_read_50 : decode cX10_read 50 = .ok (.ifCond .lt 32, 3) := by decide +kernel
theorem dX10_read_53 : decode cX10_read 53 = .ok (.aload_n 0, 1) := by decide +kernel
theorem dX10_read_54 : decode cX10_read 54 = .ok (.getfield 116, 3) := by decide +kernel
theorem dX10_read_57 : decode cX10_read 57 = .ok (.aload_n 0, 1) := by decide +kernel
theorem dX10_read_58 : decode cX10_read 58 = .ok (.getfield 386, 3) := by decide +kernel
theorem dX10_read_61 : decode cX10_read 61 = .ok (.iload 5, 2) := by decide +kernel
theorem dX10_read_63 : decode cX10_read 63 = .ok (.invokestatic 393, 3) := by decide +kernel
theorem dX10_read_66 : decode cX10_read 66 = .ok (.iastore, 1) := by decide +kernel
theorem dX10_read_67 : decode cX10_read 67 = .ok (.aload_n 0, 1) := by decide +kernel
theorem dX10_read_68 : decode cX10_read 68 = .ok (.getfield 122, 3) := by decide +kernel
theorem dX10_read_71 : decode cX10_read 71 = .ok (.aload_n 0, 1) := by decide +kernel
theorem dX10_read_72 : decode cX10_read 72 = .ok (.getfield 386, 3) := by decide +kernel
theorem dX10_read_75 : decode cX10_read 75 = .ok (.iconst 0, 1) := by decide +kernel
theorem dX10_read_76 : decode cX10_read 76 = .ok (.iastore, 1) := by decide +kernel
theorem dX10_read_77 : decode cX10_read 77 = .ok (.iconst 1, 1) := by decide +kernel
theorem dX10_read_78 : decode cX10_read 78 = .ok (.istore_n 3, 1) := by decide +kernel
theorem dX10_read_79 : decode cX10_read 79 = .ok (.goto 135, 3) := by decide +kernel
theorem dX10_read_82 : decode cX10_read 82 = .ok (.iload_n 3, 1) := by decide +kernel
theorem dX10_read_83 : decode cX10_read 83 = .ok (.iconst 1, 1) := by decide +kernel
theorem dX10_read_84 : decode cX10_read 84 = .ok (.if_icmp .ne 43, 3) := by decide +kernel
theorem dX10_read_87 : decode cX10_read 87 = .ok (.iload 5, 2) := by decide +kernel
theorem dX10_read_89 : decode cX10_read 89 = .ok (.bipush 60, 2) := by decide +kernel
theorem dX10_read_91 : decode cX10_read 91 = .ok (.if_icmp .eq 10, 3) := by decide +kernel
theorem dX10_read_94 : decode cX10_read 94 = .ok (.iload 5, 2) := by decide +kernel
theorem dX10_read_96 : decode cX10_read 96 = .ok (.bipush 62, 2) := by decide +kernel
theorem dX10_read_98 : decode cX10_read 98 = .ok (.if_icmp .ne 29, 3) := by decide +kernel
theorem dX10_read_101 : decode cX10_read 101 = .ok (.aload_n 0, 1) := by decide +kernel
theorem dX10_read_102 : decode cX10_read 102 = .ok (.getfield 119, 3) := by decide +kernel
theorem dX10_read_105 : decode cX10_read 105 = .ok (.aload_n 0, 1) := by decide +kernel
theorem dX10_read_106 : decode cX10_read 106 = .ok (.getfield 386, 3) := by decide +kernel
theorem dX10_read_109 : decode cX10_read 109 = .ok (.iload 5, 2) := by decide +kernel
theorem dX10_read_111 : decode cX10_read 111 = .ok (.bipush 62, 2) := by decide +kernel
theorem dX10_read_113 : decode cX10_read 113 = .ok (.if_icmp .ne 7, 3) := by decide +kernel
theorem dX10_read_116 : decode cX10_read 116 = .ok (.iconst 1, 1) := by decide +kernel
theorem dX10_read_117 : decode cX10_read 117 = .ok (.goto 4, 3) := by decide +kernel
theorem dX10_read_120 : decode cX10_read 120 = .ok (.iconst 0, 1) := by decide +kernel
theorem dX10_read_121 : decode cX10_read 121 = .ok (.bastore, 1) := by decide +kernel
theorem dX10_read_122 : decode cX10_read 122 = .ok (.iconst 2, 1) := by decide +kernel
theorem dX10_read_123 : decode cX10_read 123 = .ok (.istore_n 3, 1) := by decide +kernel
theorem dX10_read_124 : decode cX10_read 124 = .ok (.goto 90, 3) := by decide +kernel
theorem dX10_read_127 : decode cX10_read 127 = .ok (.iload_n 3, 1) := by decide +kernel
theorem dX10_read_128 : decode cX10_read 128 = .ok (.iconst 2, 1) := by decide +kernel
theorem dX10_read_129 : decode cX10_read 129 = .ok (.if_icmp .lt 47, 3) := by decide +kernel
theorem dX10_read_132 : decode cX10_read 132 = .ok (.iload_n 3, 1) := by decide +kernel
theorem dX10_read_133 : decode cX10_read 133 = .ok (.bipush 7, 2) := by decide +kernel
theorem dX10_read_135 : decode cX10_read 135 = .ok (.if_icmp .ge 41, 3) := by decide +kernel
theorem dX10_read_138 : decode cX10_read 138 = .ok (.iload 6, 2) := by decide +kernel
theorem dX10_read_140 : decode cX10_read 140 = .ok (.ifCond .eq 36, 3) := by decide +kernel
theorem dX10_read_143 : decode cX10_read 143 = .ok (.aload_n 0, 1) := by decide +kernel
theorem dX10_read_144 : decode cX10_read 144 = .ok (.getfield 122, 3) := by decide +kernel
theorem dX10_read_147 : decode cX10_read 147 = .ok (.aload_n 0, 1) := by decide +kernel
theorem dX10_read_148 : decode cX10_read 148 = .ok (.getfield 386, 3) := by decide +kernel
theorem dX10_read_151 : decode cX10_read 151 = .ok (.bipush 10, 2) := by decide +kernel
theorem dX10_read_153 : decode cX10_read 153 = .ok (.aload_n 0, 1) := by decide +kernel
theorem dX10_read_154 : decode cX10_read 154 = .ok (.getfield 122, 3) := by decide +kernel
theorem dX10_read_157 : decode cX10_read 157 = .ok (.aload_n 0, 1) := by decide +kernel
theorem dX10_read_158 : decode cX10_read 158 = .ok (.getfield 386, 3) := by decide +kernel
theorem dX10_read_161 : decode cX10_read 161 = .ok (.iaload, 1) := by decide +kernel
theorem dX10_read_162 : decode cX10_read 162 = .ok (.imul, 1) := by decide +kernel
theorem dX10_read_163 : decode cX10_read 163 = .ok (.iload 5, 2) := by decide +kernel
theorem dX10_read_165 : decode cX10_read 165 = .ok (.iadd, 1) := by decide +kernel
theorem dX10_read_166 : decode cX10_read 166 = .ok (.bipush 48, 2) := by decide +kernel
theorem dX10_read_168 : decode cX10_read 168 = .ok (.isub, 1) := by decide +kernel
theorem dX10_read_169 : decode cX10_read 169 = .ok (.iastore, 1) := by decide +kernel
theorem dX10_read_170 : decode cX10_read 170 = .ok (.iinc 3 1, 3) := by decide +kernel
theorem dX10_read_173 : decode cX10_read 173 = .ok (.goto 41, 3) := by decide +kernel
theorem dX10_read_176 : decode cX10_read 176 = .ok (.iload_n 3, 1) := by decide +kernel
theorem dX10_read_177 : decode cX10_read 177 = .ok (.iconst 2, 1) := by decide +kernel
theorem dX10_read_178 : decode cX10_read 178 = .ok (.if_icmp .le 33, 3) := by decide +kernel
theorem dX10_read_181 : decode cX10_read 181 = .ok (.iload 5, 2) := by decide +kernel
theorem dX10_read_183 : decode cX10_read 183 = .ok (.bipush 44, 2) := by decide +kernel
theorem dX10_read_185 : decode cX10_read 185 = .ok (.if_icmp .ne 26, 3) := by decide +kernel
theorem dX10_read_188 : decode cX10_read 188 = .ok (.aload_n 0, 1) := by decide +kernel
theorem dX10_read_189 : decode cX10_read 189 = .ok (.getfield 386, 3) := by decide +kernel
theorem dX10_read_192 : decode cX10_read 192 = .ok (.iconst 4, 1) := by decide +kernel
theorem dX10_read_193 : decode cX10_read 193 = .ok (.if_icmp .ge 18, 3) := by decide +kernel
theorem dX10_read_196 : decode cX10_read 196 = .ok (.aload_n 0, 1) := by decide +kernel
theorem dX10_read_197 : decode cX10_read 197 = .ok (.dup, 1) := by decide +kernel
theorem dX10_read_198 : decode cX10_read 198 = .ok (.getfield 386, 3) := by decide +kernel
theorem dX10_read_201 : decode cX10_read 201 = .ok (.iconst 1, 1) := by decide +kernel
theorem dX10_read_202 : decode cX10_read 202 = .ok (.iadd, 1) := by decide +kernel
theorem dX10_read_203 : decode cX10_read 203 = .ok (.putfield 386, 3) := by decide +kernel
theorem dX10_read_206 : decode cX10_read 206 = .ok (.iconst 0, 1) := by decide +kernel
theorem dX10_read_207 : decode cX10_read 207 = .ok (.istore_n 3, 1) := by decide +kernel
theorem dX10_read_208 : decode cX10_read 208 = .ok (.goto 6, 3) := by decide +kernel
theorem dX10_read_211 : decode cX10_read 211 = .ok (.iload 4, 2) := by decide +kernel
theorem dX10_read_213 : decode cX10_read 213 = .ok (.ireturn, 1) := by decide +kernel
theorem dX10_read_214 : decode cX10_read 214 = .ok (.iinc 4 1, 3) := by decide +kernel
theorem dX10_read_217 : decode cX10_read 217 = .ok (.goto (-207), 3) := by decide +kernel
theorem dX10_read_220 : decode cX10_read 220 = .ok (.aload_n 0, 1) := by decide +kernel
theorem dX10_read_221 : decode cX10_read 221 = .ok (.dup, 1) := by decide +kernel
theorem dX10_read_222 : decode cX10_read 222 = .ok (.getfield 386, 3) := by decide +kernel
theorem dX10_read_225 : decode cX10_read 225 = .ok (.iconst 1, 1) := by decide +kernel
theorem dX10_read_226 : decode cX10_read 226 = .ok (.iadd, 1) := by decide +kernel
theorem dX10_read_227 : decode cX10_read 227 = .ok (.putfield 386, 3) := by decide +kernel
theorem dX10_read_230 : decode cX10_read 230 = .ok (.iload_n 3, 1) := by decide +kernel
theorem dX10_read_231 : decode cX10_read 231 = .ok (.iconst 2, 1) := by decide +kernel
theorem dX10_read_232 : decode cX10_read 232 = .ok (.if_icmp .le 7, 3) := by decide +kernel
theorem dX10_read_235 : decode cX10_read 235 = .ok (.iconst (-1), 1) := by decide +kernel
theorem dX10_read_236 : decode cX10_read 236 = .ok (.goto 4, 3) := by decide +kernel
theorem dX10_read_239 : decode cX10_read 239 = .ok (.iload_n 2, 1) := by decide +kernel
theorem dX10_read_240 : decode cX10_read 240 = .ok (.ireturn, 1) := by decide +kernel
theorem dX10_forecast_0 : decode cX10_forecast 0 = .ok (.iload_n 1, 1) := by decide +kernel
theorem dX10_forecast_1 : decode cX10_forecast 1 = .ok (.invokestatic 212, 3) := by decide +kernel
theorem dX10_forecast_4 : decode cX10_forecast 4 = .ok (.ifCond .eq 9, 3) := by decide +kernel
theorem dX10_forecast_7 : decode cX10_forecast 7 = .ok (.aload_n 0, 1) := by decide +kernel
theorem dX10_forecast_8 : decode cX10_forecast 8 = .ok (.iconst (-1), 1) := by decide +kernel
theorem dX10_forecast_9 : decode cX10_forecast 9 = .ok (.invokevirtual 215, 3) := by decide +kernel
theorem dX10_forecast_12 : decode cX10_forecast 12 = .ok (.ireturn, 1) := by decide +kernel
theorem dX10_forecast_13 : decode cX10_forecast 13 = .ok (.iload_n 2, 1) := by decide +kernel
theorem dX10_forecast_14 : decode cX10_forecast 14 = .ok (.i2l, 1) := by decide +kernel
theorem dX10_forecast_15 : decode cX10_forecast 15 = .ok (.lconst 0, 1) := by decide +kernel
theorem dX10_forecast_16 : decode cX10_forecast 16 = .ok (.ldc2_w 162, 3) := by decide +kernel
theorem dX10_forecast_19 : decode cX10_forecast 19 = .ok (.invokestatic 156, 3) := by decide +kernel
theorem dX10_forecast_22 : decode cX10_forecast 22 = .ok (.ifCond .ne 10, 3) := by decide +kernel
theorem dX10_forecast_25 : decode cX10_forecast 25 = .ok (.aload_n 0, 1) := by decide +kernel
theorem dX10_forecast_26 : decode cX10_forecast 26 = .ok (.bipush (-2), 2) := by decide +kernel
theorem dX10_forecast_28 : decode cX10_forecast 28 = .ok (.invokevirtual 215, 3) := by decide +kernel
theorem dX10_forecast_31 : decode cX10_forecast 31 = .ok (.ireturn, 1) := by decide +kernel
theorem dX10_forecast_32 : decode cX10_forecast 32 = .ok (.aload_n 0, 1) := by decide +kernel
theorem dX10_forecast_33 : decode cX10_forecast 33 = .ok (.getfield 125, 3) := by decide +kernel
theorem dX10_forecast_36 : decode cX10_forecast 36 = .ok (.iload_n 1, 1) := by decide +kernel
theorem dX10_forecast_37 : decode cX10_forecast 37 = .ok (.iaload, 1) := by decide +kernel
theorem dX10_forecast_38 : decode cX10_forecast 38 = .ok (.ifCond .lt 19, 3) := by decide +kernel
theorem dX10_forecast_41 : decode cX10_forecast 41 = .ok (.aload_n 0, 1) := by decide +kernel
theorem dX10_forecast_42 : decode cX10_forecast 42 = .ok (.getfield 128, 3) := by decide +kernel
theorem dX10_forecast_45 : decode cX10_forecast 45 = .ok (.iload_n 1, 1) := by decide +kernel
theorem dX10_forecast_46 : decode cX10_forecast 46 = .ok (.iaload, 1) := by decide +kernel
theorem dX10_forecast_47 : decode cX10_forecast 47 = .ok (.iload_n 2, 1) := by decide +kernel
theorem dX10_forecast_48 : decode cX10_forecast 48 = .ok (.if_icmp .eq 9, 3) := by decide +kernel
theorem dX10_forecast_51 : decode cX10_forecast 51 = .ok (.aload_n 0, 1) := by decide +kernel
theorem dX10_forecast_52 : decode cX10_forecast 52 = .ok (.iconst 2, 1) := by decide +kernel
theorem dX10_forecast_53 : decode cX10_forecast 53 = .ok (.invokevirtual 218, 3) := by decide +kernel
theorem dX10_forecast_56 : decode cX10_forecast 56 = .ok (.ireturn, 1) := by decide +kernel
theorem dX10_forecast_57 : decode cX10_forecast 57 = .ok (.aload_n 0, 1) := by decide +kernel
theorem dX10_forecast_58 : decode cX10_forecast 58 = .ok (.getfield 125, 3) := by decide +kernel
theorem dX10_forecast_61 : decode cX10_forecast 61 = .ok (.iload_n 1, 1) := by decide +kernel
theorem dX10_forecast_62 : decode cX10_forecast 62 = .ok (.iaload, 1) := by decide +kernel
theorem dX10_forecast_63 : decode cX10_forecast 63 = .ok (.ifCond .ge 9, 3) := by decide +kernel
theorem dX10_forecast_66 : decode cX10_forecast 66 = .ok (.aload_n 0, 1) := by decide +kernel
theorem dX10_forecast_67 : decode cX10_forecast 67 = .ok (.iconst 1, 1) := by decide +kernel
theorem dX10_forecast_68 : decode cX10_forecast 68 = .ok (.invokevirtual 218, 3) := by decide +kernel
theorem dX10_forecast_71 : decode cX10_forecast 71 = .ok (.ireturn, 1) := by decide +kernel
theorem dX10_forecast_72 : decode cX10_forecast 72 = .ok (.iload 4, 2) := by decide +kernel
theorem dX10_forecast_74 : decode cX10_forecast 74 = .ok (.ifCond .ge 9, 3) := by decide +kernel
theorem dX10_forecast_77 : decode cX10_forecast 77 = .ok (.aload_n 0, 1) := by decide +kernel
theorem dX10_forecast_78 : decode cX10_forecast 78 = .ok (.iconst 4, 1) := by decide +kernel
theorem dX10_forecast_79 : decode cX10_forecast 79 = .ok (.invokevirtual 218, 3) := by decide +kernel
theorem dX10_forecast_82 : decode cX10_forecast 82 = .ok (.ireturn, 1) := by decide +kernel
theorem dX10_forecast_83 : decode cX10_forecast 83 = .ok (.iload_n 3, 1) := by decide +kernel
theorem dX10_forecast_84 : decode cX10_forecast 84 = .ok (.iload 4, 2) := by decide +kernel
theorem dX10_forecast_86 : decode cX10_forecast 86 = .ok (.i2l, 1) := by decide +kernel
theorem dX10_forecast_87 : decode cX10_forecast 87 = .ok (.aload_n 0, 1) := by decide +kernel
theorem dX10_forecast_88 : decode cX10_forecast 88 = .ok (.getfield 125, 3) := by decide +kernel
theorem dX10_forecast_91 : decode cX10_forecast 91 = .ok (.iload_n 1, 1) := by decide +kernel
theorem dX10_forecast_92 : decode cX10_forecast 92 = .ok (.iaload, 1) := by decide +kernel
theorem dX10_forecast_93 : decode cX10_forecast 93 = .ok (.invokestatic 223, 3) := by decide +kernel
theorem dX10_forecast_96 : decode cX10_forecast 96 = .ok (.ifCond .eq 9, 3) := by decide +kernel
theorem dX10_forecast_99 : decode cX10_forecast 99 = .ok (.aload_n 0, 1) := by decide +kernel
theorem dX10_forecast_100 : decode cX10_forecast 100 = .ok (.iconst 3, 1) := by decide +kernel
theorem dX10_forecast_101 : decode cX10_forecast 101 = .ok (.invokevirtual 218, 3) := by decide +kernel
theorem dX10_forecast_104 : decode cX10_forecast 104 = .ok (.ireturn, 1) := by decide +kernel
theorem dX10_forecast_105 : decode cX10_forecast 105 = .ok (.aload_n 0, 1) := by decide +kernel
theorem dX10_forecast_106 : decode cX10_forecast 106 = .ok (.bipush 60, 2) := by decide +kernel
theorem dX10_forecast_108 : decode cX10_forecast 108 = .ok (.iload_n 1, 1) := by decide +kernel
theorem dX10_forecast_109 : decode cX10_forecast 109 = .ok (.imul, 1) := by decide +kernel
theorem dX10_forecast_110 : decode cX10_forecast 110 = .ok (.iload_n 3, 1) := by decide +kernel
theorem dX10_forecast_111 : decode cX10_forecast 111 = .ok (.iadd, 1) := by decide +kernel
theorem dX10_forecast_112 : decode cX10_forecast 112 = .ok (.iload 4, 2) := by decide +kernel
theorem dX10_forecast_114 : decode cX10_forecast 114 = .ok (.invokevirtual 396, 3) := by decide +kernel
theorem dX10_forecast_117 : decode cX10_forecast 117 = .ok (.istore 5, 2) := by decide +kernel
theorem dX10_forecast_119 : decode cX10_forecast 119 = .ok (.iload 5, 2) := by decide +kernel
theorem dX10_forecast_121 : decode cX10_forecast 121 = .ok (.ifCond .lt 13, 3) := by decide +kernel
theorem dX10_forecast_124 : decode cX10_forecast 124 = .ok (.aload_n 0, 1) := by decide +kernel
theorem dX10_forecast_125 : decode cX10_forecast 125 = .ok (.bipush (-100), 2) := by decide +kernel
theorem dX10_forecast_127 : decode cX10_forecast 127 = .ok (.iload 5, 2) := by decide +kernel
theorem dX10_forecast_129 : decode cX10_forecast 129 = .ok (.isub, 1) := by decide +kernel
theorem dX10_forecast_130 : decode cX10_forecast 130 = .ok (.invokevirtual 215, 3) := by decide +kernel
theorem dX10_forecast_133 : decode cX10_forecast 133 = .ok (.ireturn, 1) := by decide +kernel
theorem dX10_forecast_134 : decode cX10_forecast 134 = .ok (.aload_n 0, 1) := by decide +kernel
theorem dX10_forecast_135 : decode cX10_forecast 135 = .ok (.getfield 399, 3) := by decide +kernel
theorem dX10_forecast_138 : decode cX10_forecast 138 = .ok (.bipush 8, 2) := by decide +kernel
theorem dX10_forecast_140 : decode cX10_forecast 140 = .ok (.if_icmp .ne 10, 3) := by decide +kernel
theorem dX10_forecast_143 : decode cX10_forecast 143 = .ok (.aload_n 0, 1) := by decide +kernel
theorem dX10_forecast_144 : decode cX10_forecast 144 = .ok (.bipush (-4), 2) := by decide +kernel
theorem dX10_forecast_146 : decode cX10_forecast 146 = .ok (.invokevirtual 215, 3) := by decide +kernel
theorem dX10_forecast_149 : decode cX10_forecast 149 = .ok (.ireturn, 1) := by decide +kernel
theorem dX10_forecast_150 : decode cX10_forecast 150 = .ok (.aload_n 0, 1) := by decide +kernel
theorem dX10_forecast_151 : decode cX10_forecast 151 = .ok (.getfield 104, 3) := by decide +kernel
theorem dX10_forecast_154 : decode cX10_forecast 154 = .ok (.aload_n 0, 1) := by decide +kernel
theorem dX10_forecast_155 : decode cX10_forecast 155 = .ok (.getfield 399, 3) := by decide +kernel
theorem dX10_forecast_158 : decode cX10_forecast 158 = .ok (.aload_n 0, 1) := by decide +kernel
theorem dX10_forecast_159 : decode cX10_forecast 159 = .ok (.getfield 386, 3) := by decide +kernel
theorem dX10_forecast_162 : decode cX10_forecast 162 = .ok (.iastore, 1) := by decide +kernel
theorem dX10_forecast_163 : decode cX10_forecast 163 = .ok (.iconst 0, 1) := by decide +kernel
theorem dX10_forecast_164 : decode cX10_forecast 164 = .ok (.istore 6, 2) := by decide +kernel
theorem dX10_forecast_166 : decode cX10_forecast 166 = .ok (.iload 6, 2) := by decide +kernel
theorem dX10_forecast_168 : decode cX10_forecast 168 = .ok (.aload_n 0, 1) := by decide +kernel
theorem dX10_forecast_169 : decode cX10_forecast 169 = .ok (.getfield 386, 3) := by decide +kernel
theorem dX10_forecast_172 : decode cX10_forecast 172 = .ok (.if_icmp .ge 72, 3) := by decide +kernel
theorem dX10_forecast_175 : decode cX10_forecast 175 = .ok (.aload_n 0, 1) := by decide +kernel
theorem dX10_forecast_176 : decode cX10_forecast 176 = .ok (.getfield 107, 3) := by decide +kernel
theorem dX10_forecast_179 : decode cX10_forecast 179 = .ok (.iconst 5, 1) := by decide +kernel
theorem dX10_forecast_180 : decode cX10_forecast 180 = .ok (.aload_n 0, 1) := by decide +kernel
theorem dX10_forecast_181 : decode cX10_forecast 181 = .ok (.getfield 399, 3) := by decide +kernel
theorem dX10_forecast_184 : decode cX10_forecast 184 = .ok (.imul, 1) := by decide +kernel
theorem dX10_forecast_185 : decode cX10_forecast 185 = .ok (.iload 6, 2) := by decide +kernel
theorem dX10_forecast_187 : decode cX10_forecast 187 = .ok (.iadd, 1) := by decide +kernel
theorem dX10_forecast_188 : decode cX10_forecast 188 = .ok (.aload_n 0, 1) := by decide +kernel
theorem dX10_forecast_189 : decode cX10_forecast 189 = .ok (.getfield 116, 3) := by decide +kernel
theorem dX10_forecast_192 : decode cX10_forecast 192 = .ok (.iload 6, 2) := by decide +kernel
theorem dX10_forecast_194 : decode cX10_forecast 194 = .ok (.iaload, 1) := by decide +kernel
theorem dX10_forecast_195 : decode cX10_forecast 195 = .ok (.iastore, 1) := by decide +kernel
theorem dX10_forecast_196 : decode cX10_forecast 196 = .ok (.aload_n 0, 1) := by decide +kernel
theorem dX10_forecast_197 : decode cX10_forecast 197 = .ok (.getfield 110, 3) := by decide +kernel
theorem dX10_forecast_200 : decode cX10_forecast 200 = .ok (.iconst 5, 1) := by decide +kernel
theorem dX10_forecast_201 : decode cX10_forecast 201 = .ok (.aload_n 0, 1) := by decide +kernel
theorem dX10_forecast_202 : decode cX10_forecast 202 = .ok (.getfield 399, 3) := by decide +kernel
theorem dX10_forecast_205 : decode cX10_forecast 205 = .ok (.imul, 1) := by decide +kernel
theorem dX10_forecast_206 : decode cX10_forecast 206 = .ok (.iload 6, 2) := by decide +kernel
theorem dX10_forecast_208 : decode cX10_forecast 208 = .ok (.iadd, 1) := by decide +kernel
theorem dX10_forecast_209 : decode cX10_forecast 209 = .ok (.aload_n 0, 1) := by decide +kernel
theorem dX10_forecast_210 : decode cX10_forecast 210 = .ok (.getfield 119, 3) := by decide +kernel
theorem dX10_forecast_213 : decode cX10_forecast 213 = .ok (.iload 6, 2) := by decide +kernel
theorem dX10_forecast_215 : decode cX10_forecast 215 = .ok (.baload, 1) := by decide +kernel
theorem dX10_forecast_216 : decode cX10_forecast 216 = .ok (.bastore, 1) := by decide +kernel
theorem dX10_forecast_217 : decode cX10_forecast 217 = .ok (.aload_n 0, 1) := by decide +kernel
theorem dX10_forecast_218 : decode cX10_forecast 218 = .ok (.getfield 113, 3) := by decide +kernel
theorem dX10_forecast_221 : decode cX10_forecast 221 = .ok (.iconst 5, 1) := by decide +kernel
theorem dX10_forecast_222 : decode cX10_forecast 222 = .ok (.aload_n 0, 1) := by decide +kernel
theorem dX10_forecast_223 : decode cX10_forecast 223 = .ok (.getfield 399, 3) := by decide +kernel
theorem dX10_forecast_226 : decode cX10_forecast 226 = .ok (.imul, 1) := by decide +kernel
theorem dX10_forecast_227 : decode cX10_forecast 227 = .ok (.iload 6, 2) := by decide +kernel
theorem dX10_forecast_229 : decode cX10_forecast 229 = .ok (.iadd, 1) := by decide +kernel
theorem dX10_forecast_230 : decode cX10_forecast 230 = .ok (.aload_n 0, 1) := by decide +kernel
theorem dX10_forecast_231 : decode cX10_forecast 231 = .ok (.getfield 122, 3) := by decide +kernel
theorem dX10_forecast_234 : decode cX10_forecast 234 = .ok (.iload 6, 2) := by decide +kernel
theorem dX10_forecast_236 : decode cX10_forecast 236 = .ok (.iaload, 1) := by decide +kernel
theorem dX10_forecast_237 : decode cX10_forecast 237 = .ok (.iastore, 1) := by decide +kernel
theorem dX10_forecast_238 : decode cX10_forecast 238 = .ok (.iinc 6 1, 3) := by decide +kernel
theorem dX10_forecast_241 : decode cX10_forecast 241 = .ok (.goto (-75), 3) := by decide +kernel
theorem dX10_forecast_244 : decode cX10_forecast 244 = .ok (.aload_n 0, 1) := by decide +kernel
theorem dX10_forecast_245 : decode cX10_forecast 245 = .ok (.dup, 1) := by decide +kernel
theorem dX10_forecast_246 : decode cX10_forecast 246 = .ok (.getfield 399, 3) := by decide +kernel
theorem dX10_forecast_249 : decode cX10_forecast 249 = .ok (.iconst 1, 1) := by decide +kernel
theorem dX10_forecast_250 : decode cX10_forecast 250 = .ok (.iadd, 1) := by decide +kernel
theorem dX10_forecast_251 : decode cX10_forecast 251 = .ok (.putfield 399, 3) := by decide +kernel
theorem dX10_forecast_254 : decode cX10_forecast 254 = .ok (.aload_n 0, 1) := by decide +kernel
theorem dX10_forecast_255 : decode cX10_forecast 255 = .ok (.aload_n 0, 1) := by decide +kernel
theorem dX10_forecast_256 : decode cX10_forecast 256 = .ok (.getfield 399, 3) := by decide +kernel
theorem dX10_forecast_259 : decode cX10_forecast 259 = .ok (.iconst 1, 1) := by decide +kernel
theorem dX10_forecast_260 : decode cX10_forecast 260 = .ok (.isub, 1) := by decide +kernel
theorem dX10_forecast_261 : decode cX10_forecast 261 = .ok (.invokevirtual 215, 3) := by decide +kernel
theorem dX10_forecast_264 : decode cX10_forecast 264 = .ok (.ireturn, 1) := by decide +kernel
theorem dX10_isOf_0 : decode cX10_isOf 0 = .ok (.iload_n 0, 1) := by decide +kernel
theorem dX10_isOf_1 : decode cX10_isOf 1 = .ok (.tableswitch 77 0 3 #[31, 42, 54, 65], 31) := by decide +kernel
theorem dX10_isOf_32 : decode cX10_isOf 32 = .ok (.iload_n 2, 1) := by decide +kernel
theorem dX10_isOf_33 : decode cX10_isOf 33 = .ok (.iconst 4, 1) := by decide +kernel
theorem dX10_isOf_34 : decode cX10_isOf 34 = .ok (.if_icmp .ge 7, 3) := by decide +kernel
theorem dX10_isOf_37 : decode cX10_isOf 37 = .ok (.iconst 1, 1) := by decide +kernel
theorem dX10_isOf_38 : decode cX10_isOf 38 = .ok (.goto 4, 3) := by decide +kernel
theorem dX10_isOf_41 : decode cX10_isOf 41 = .ok (.iconst 0, 1) := by decide +kernel
theorem dX10_isOf_42 : decode cX10_isOf 42 = .ok (.ireturn, 1) := by decide +kernel
theorem dX10_isOf_43 : decode cX10_isOf 43 = .ok (.iload_n 2, 1) := by decide +kernel
theorem dX10_isOf_44 : decode cX10_isOf 44 = .ok (.bipush 7, 2) := by decide +kernel
theorem dX10_isOf_46 : decode cX10_isOf 46 = .ok (.if_icmp .le 7, 3) := by decide +kernel
theorem dX10_isOf_49 : decode cX10_isOf 49 = .ok (.iconst 1, 1) := by decide +kernel
theorem dX10_isOf_50 : decode cX10_isOf 50 = .ok (.goto 4, 3) := by decide +kernel
theorem dX10_isOf_53 : decode cX10_isOf 53 = .ok (.iconst 0, 1) := by decide +kernel
theorem dX10_isOf_54 : decode cX10_isOf 54 = .ok (.ireturn, 1) := by decide +kernel
theorem dX10_isOf_55 : decode cX10_isOf 55 = .ok (.iload_n 1, 1) := by decide +kernel
theorem dX10_isOf_56 : decode cX10_isOf 56 = .ok (.iconst 4, 1) := by decide +kernel
theorem dX10_isOf_57 : decode cX10_isOf 57 = .ok (.if_icmp .ge 7, 3) := by decide +kernel
theorem dX10_isOf_60 : decode cX10_isOf 60 = .ok (.iconst 1, 1) := by decide +kernel
theorem dX10_isOf_61 : decode cX10_isOf 61 = .ok (.goto 4, 3) := by decide +kernel
theorem dX10_isOf_64 : decode cX10_isOf 64 = .ok (.iconst 0, 1) := by decide +kernel
theorem dX10_isOf_65 : decode cX10_isOf 65 = .ok (.ireturn, 1) := by decide +kernel
theorem dX10_isOf_66 : decode cX10_isOf 66 = .ok (.iload_n 1, 1) := by decide +kernel
theorem dX10_isOf_67 : decode cX10_isOf 67 = .ok (.bipush 7, 2) := by decide +kernel
theorem dX10_isOf_69 : decode cX10_isOf 69 = .ok (.if_icmp .le 7, 3) := by decide +kernel
theorem dX10_isOf_72 : decode cX10_isOf 72 = .ok (.iconst 1, 1) := by decide +kernel
theorem dX10_isOf_73 : decode cX10_isOf 73 = .ok (.goto 4, 3) := by decide +kernel
theorem dX10_isOf_76 : decode cX10_isOf 76 = .ok (.iconst 0, 1) := by decide +kernel
theorem dX10_isOf_77 : decode cX10_isOf 77 = .ok (.ireturn, 1) := by decide +kernel
theorem dX10_isOf_78 : decode cX10_isOf 78 = .ok (.iload_n 1, 1) := by decide +kernel
theorem dX10_isOf_79 : decode cX10_isOf 79 = .ok (.i2l, 1) := by decide +kernel
theorem dX10_isOf_80 : decode cX10_isOf 80 = .ok (.ldc2_w 240, 3) := by decide +kernel
theorem dX10_isOf_83 : decode cX10_isOf 83 = .ok (.ldc2_w 402, 3) := by decide +kernel
theorem dX10_isOf_86 : decode cX10_isOf 86 = .ok (.invokestatic 156, 3) := by decide +kernel
theorem dX10_isOf_89 : decode cX10_isOf 89 = .ok (.ifCond .eq 21, 3) := by decide +kernel
theorem dX10_isOf_92 : decode cX10_isOf 92 = .ok (.iload_n 2, 1) := by decide +kernel
theorem dX10_isOf_93 : decode cX10_isOf 93 = .ok (.i2l, 1) := by decide +kernel
theorem dX10_isOf_94 : decode cX10_isOf 94 = .ok (.ldc2_w 240, 3) := by decide +kernel
theorem dX10_isOf_97 : decode cX10_isOf 97 = .ok (.ldc2_w 402, 3) := by decide +kernel
theorem dX10_isOf_100 : decode cX10_isOf 100 = .ok (.invokestatic 156, 3) := by decide +kernel
theorem dX10_isOf_103 : decode cX10_isOf 103 = .ok (.ifCond .eq 7, 3) := by decide +kernel
theorem dX10_isOf_106 : decode cX10_isOf 106 = .ok (.iconst 1, 1) := by decide +kernel
theorem dX10_isOf_107 : decode cX10_isOf 107 = .ok (.goto 4, 3) := by decide +kernel
theorem dX10_isOf_110 : decode cX10_isOf 110 = .ok (.iconst 0, 1) := by decide +kernel
theorem dX10_isOf_111 : decode cX10_isOf 111 = .ok (.ireturn, 1) := by decide +kernel
theorem dX10_isTrue_0 : decode cX10_isTrue 0 = .ok (.iconst 0, 1) := by decide +kernel
theorem dX10_isTrue_1 : decode cX10_isTrue 1 = .ok (.istore_n 2, 1) := by decide +kernel
theorem dX10_isTrue_2 : decode cX10_isTrue 2 = .ok (.iconst 1, 1) := by decide +kernel
theorem dX10_isTrue_3 : decode cX10_isTrue 3 = .ok (.istore_n 3, 1) := by decide +kernel
theorem dX10_isTrue_4 : decode cX10_isTrue 4 = .ok (.iconst 0, 1) := by decide +kernel
theorem dX10_isTrue_5 : decode cX10_isTrue 5 = .ok (.istore 4, 2) := by decide +kernel
theorem dX10_isTrue_7 : decode cX10_isTrue 7 = .ok (.iload 4, 2) := by decide +kernel
theorem dX10_isTrue_9 : decode cX10_isTrue 9 = .ok (.sipush 144, 3) := by decide +kernel
theorem dX10_isTrue_12 : decode cX10_isTrue 12 = .ok (.if_icmp .ge 93, 3) := by decide +kernel
theorem dX10_isTrue_15 : decode cX10_isTrue 15 = .ok (.aload_n 0, 1) := by decide +kernel
theorem dX10_isTrue_16 : decode cX10_isTrue 16 = .ok (.getfield 55, 3) := by decide +kernel
theorem dX10_isTrue_19 : decode cX10_isTrue 19 = .ok (.iload 4, 2) := by decide +kernel
theorem dX10_isTrue_21 : decode cX10_isTrue 21 = .ok (.iaload, 1) := by decide +kernel
theorem dX10_isTrue_22 : decode cX10_isTrue 22 = .ok (.istore 5, 2) := by decide +kernel
theorem dX10_isTrue_24 : decode cX10_isTrue 24 = .ok (.iload 5, 2) := by decide +kernel
theorem dX10_isTrue_26 : decode cX10_isTrue 26 = .ok (.bipush (-9), 2) := by decide +kernel
theorem dX10_isTrue_28 : decode cX10_isTrue 28 = .ok (.if_icmp .eq 71, 3) := by decide +kernel
theorem dX10_isTrue_31 : decode cX10_isTrue 31 = .ok (.aload_n 0, 1) := by decide +kernel
theorem dX10_isTrue_32 : decode cX10_isTrue 32 = .ok (.getfield 107, 3) := by decide +kernel
theorem dX10_isTrue_35 : decode cX10_isTrue 35 = .ok (.iload_n 1, 1) := by decide +kernel
theorem dX10_isTrue_36 : decode cX10_isTrue 36 = .ok (.iaload, 1) := by decide +kernel
theorem dX10_isTrue_37 : decode cX10_isTrue 37 = .ok (.iload 4, 2) := by decide +kernel
theorem dX10_isTrue_39 : decode cX10_isTrue 39 = .ok (.bipush 12, 2) := by decide +kernel
theorem dX10_isTrue_41 : decode cX10_isTrue 41 = .ok (.irem, 1) := by decide +kernel
theorem dX10_isTrue_42 : decode cX10_isTrue 42 = .ok (.iload 4, 2) := by decide +kernel
theorem dX10_isTrue_44 : decode cX10_isTrue 44 = .ok (.bipush 12, 2) := by decide +kernel
theorem dX10_isTrue_46 : decode cX10_isTrue 46 = .ok (.idiv, 1) := by decide +kernel
theorem dX10_isTrue_47 : decode cX10_isTrue 47 = .ok (.invokestatic 404, 3) := by decide +kernel
theorem dX10_isTrue_50 : decode cX10_isTrue 50 = .ok (.ifCond .eq 49, 3) := by decide +kernel
theorem dX10_isTrue_53 : decode cX10_isTrue 53 = .ok (.iconst 1, 1) := by decide +kernel
theorem dX10_isTrue_54 : decode cX10_isTrue 54 = .ok (.istore_n 2, 1) := by decide +kernel
theorem dX10_isTrue_55 : decode cX10_isTrue 55 = .ok (.iload_n 3, 1) := by decide +kernel
theorem dX10_isTrue_56 : decode cX10_isTrue 56 = .ok (.ifCond .eq 41, 3) := by decide +kernel
theorem dX10_isTrue_59 : decode cX10_isTrue 59 = .ok (.aload_n 0, 1) := by decide +kernel
theorem dX10_isTrue_60 : decode cX10_isTrue 60 = .ok (.getfield 110, 3) := by decide +kernel
theorem dX10_isTrue_63 : decode cX10_isTrue 63 = .ok (.iload_n 1, 1) := by decide +kernel
theorem dX10_isTrue_64 : decode cX10_isTrue 64 = .ok (.baload, 1) := by decide +kernel
theorem dX10_isTrue_65 : decode cX10_isTrue 65 = .ok (.ifCond .eq 17, 3) := by decide +kernel
theorem dX10_isTrue_68 : decode cX10_isTrue 68 = .ok (.iload 5, 2) := by decide +kernel
theorem dX10_isTrue_70 : decode cX10_isTrue 70 = .ok (.aload_n 0, 1) := by decide +kernel
theorem dX10_isTrue_71 : decode cX10_isTrue 71 = .ok (.getfield 113, 3) := by decide +kernel
theorem dX10_isTrue_74 : decode cX10_isTrue 74 = .ok (.iload_n 1, 1) := by decide +kernel
theorem dX10_isTrue_75 : decode cX10_isTrue 75 = .ok (.iaload, 1) := by decide +kernel
theorem dX10_isTrue_76 : decode cX10_isTrue 76 = .ok (.if_icmp .le 21, 3) := by decide +kernel
theorem dX10_isTrue_79 : decode cX10_isTrue 79 = .ok (.goto 14, 3) := by decide +kernel
theorem dX10_isTrue_82 : decode cX10_isTrue 82 = .ok (.iload 5, 2) := by decide +kernel
theorem dX10_isTrue_84 : decode cX10_isTrue 84 = .ok (.aload_n 0, 1) := by decide +kernel
theorem dX10_isTrue_85 : decode cX10_isTrue 85 = .ok (.getfield 113, 3) := by decide +kernel
theorem dX10_isTrue_88 : decode cX10_isTrue 88 = .ok (.iload_n 1, 1) := by decide +kernel
theorem dX10_isTrue_89 : decode cX10_isTrue 89 = .ok (.iaload, 1) := by decide +kernel
theorem dX10_isTrue_90 : decode cX10_isTrue 90 = .ok (.if_icmp .ge 7, 3) := by decide +kernel
theorem dX10_isTrue_93 : decode cX10_isTrue 93 = .ok (.iconst 1, 1) := by decide +kernel
theorem dX10_isTrue_94 : decode cX10_isTrue 94 = .ok (.goto 4, 3) := by decide +kernel
theorem dX10_isTrue_97 : decode cX10_isTrue 97 = .ok (.iconst 0, 1) := by decide +kernel
theorem dX10_isTrue_98 : decode cX10_isTrue 98 = .ok (.istore_n 3, 1) := by decide +kernel
theorem dX10_isTrue_99 : decode cX10_isTrue 99 = .ok (.iinc 4 1, 3) := by decide +kernel
theorem dX10_isTrue_102 : decode cX10_isTrue 102 = .ok (.goto (-95), 3) := by decide +kernel
theorem dX10_isTrue_105 : decode cX10_isTrue 105 = .ok (.iload_n 2, 1) := by decide +kernel
theorem dX10_isTrue_106 : decode cX10_isTrue 106 = .ok (.ifCond .eq 11, 3) := by decide +kernel
theorem dX10_isTrue_109 : decode cX10_isTrue 109 = .ok (.iload_n 3, 1) := by decide +kernel
theorem dX10_isTrue_110 : decode cX10_isTrue 110 = .ok (.ifCond .eq 7, 3) := by decide +kernel
theorem dX10_isTrue_113 : decode cX10_isTrue 113 = .ok (.iconst 1, 1) := by decide +kernel
theorem dX10_isTrue_114 : decode cX10_isTrue 114 = .ok (.goto 4, 3) := by decide +kernel
theorem dX10_isTrue_117 : decode cX10_isTrue 117 = .ok (.iconst 0, 1) := by decide +kernel
theorem dX10_isTrue_118 : decode cX10_isTrue 118 = .ok (.ireturn, 1) := by decide +kernel
theorem dX10_verified_0 : decode cX10_verified 0 = .ok (.iload_n 1, 1) := by decide +kernel
theorem dX10_verified_1 : decode cX10_verified 1 = .ok (.i2l, 1) := by decide +kernel
theorem dX10_verified_2 : decode cX10_verified 2 = .ok (.lconst 0, 1) := by decide +kernel
theorem dX10_verified_3 : decode cX10_verified 3 = .ok (.aload_n 0, 1) := by decide +kernel
theorem dX10_verified_4 : decode cX10_verified 4 = .ok (.getfield 399, 3) := by decide +kernel
theorem dX10_verified_7 : decode cX10_verified 7 = .ok (.i2l, 1) := by decide +kernel
theorem dX10_verified_8 : decode cX10_verified 8 = .ok (.lconst 1, 1) := by decide +kernel
theorem dX10_verified_9 : decode cX10_verified 9 = .ok (.lsub, 1) := by decide +kernel
theorem dX10_verified_10 : decode cX10_verified 10 = .ok (.invokestatic 156, 3) := by decide +kernel
theorem dX10_verified_13 : decode cX10_verified 13 = .ok (.ifCond .ne 5, 3) := by decide +kernel
theorem dX10_verified_16 : decode cX10_verified 16 = .ok (.iconst (-1), 1) := by decide +kernel
theorem dX10_verified_17 : decode cX10_verified 17 = .ok (.ireturn, 1) := by decide +kernel
theorem dX10_verified_18 : decode cX10_verified 18 = .ok (.iload_n 2, 1) := by decide +kernel
theorem dX10_verified_19 : decode cX10_verified 19 = .ok (.i2l, 1) := by decide +kernel
theorem dX10_verified_20 : decode cX10_verified 20 = .ok (.lconst 0, 1) := by decide +kernel
theorem dX10_verified_21 : decode cX10_verified 21 = .ok (.ldc2_w 162, 3) := by decide +kernel
theorem dX10_verified_24 : decode cX10_verified 24 = .ok (.invokestatic 156, 3) := by decide +kernel
theorem dX10_verified_27 : decode cX10_verified 27 = .ok (.ifCond .ne 6, 3) := by decide +kernel
theorem dX10_verified_30 : decode cX10_verified 30 = .ok (.bipush (-2), 2) := by decide +kernel
theorem dX10_verified_32 : decode cX10_verified 32 = .ok (.ireturn, 1) := by decide +kernel
theorem dX10_verified_33 : decode cX10_verified 33 = .ok (.aload_n 0, 1) := by decide +kernel
theorem dX10_verified_34 : decode cX10_verified 34 = .ok (.invokevirtual 237, 3) := by decide +kernel
theorem dX10_verified_37 : decode cX10_verified 37 = .ok (.iconst 0, 1) := by decide +kernel
theorem dX10_verified_38 : decode cX10_verified 38 = .ok (.istore_n 3, 1) := by decide +kernel
theorem dX10_verified_39 : decode cX10_verified 39 = .ok (.iconst 0, 1) := by decide +kernel
theorem dX10_verified_40 : decode cX10_verified 40 = .ok (.istore 4, 2) := by decide +kernel
theorem dX10_verified_42 : decode cX10_verified 42 = .ok (.iload 4, 2) := by decide +kernel
theorem dX10_verified_44 : decode cX10_verified 44 = .ok (.aload_n 0, 1) := by decide +kernel
theorem dX10_verified_45 : decode cX10_verified 45 = .ok (.getfield 104, 3) := by decide +kernel
theorem dX10_verified_48 : decode cX10_verified 48 = .ok (.iload_n 1, 1) := by decide +kernel
theorem dX10_verified_49 : decode cX10_verified 49 = .ok (.iaload, 1) := by decide +kernel
theorem dX10_verified_50 : decode cX10_verified 50 = .ok (.if_icmp .ge 33, 3) := by decide +kernel
theorem dX10_verified_53 : decode cX10_verified 53 = .ok (.iload_n 3, 1) := by decide +kernel
theorem dX10_verified_54 : decode cX10_verified 54 = .ok (.aload_n 0, 1) := by decide +kernel
theorem dX10_verified_55 : decode cX10_verified 55 = .ok (.iconst 5, 1) := by decide +kernel
theorem dX10_verified_56 : decode cX10_verified 56 = .ok (.iload_n 1, 1) := by decide +kernel
theorem dX10_verified_57 : decode cX10_verified 57 = .ok (.imul, 1) := by decide +kernel
theorem dX10_verified_58 : decode cX10_verified 58 = .ok (.iload 4, 2) := by decide +kernel
theorem dX10_verified_60 : decode cX10_verified 60 = .ok (.iadd, 1) := by decide +kernel
theorem dX10_verified_61 : decode cX10_verified 61 = .ok (.invokevirtual 408, 3) := by decide +kernel
theorem dX10_verified_64 : decode cX10_verified 64 = .ok (.ifCond .eq 10, 3) := by decide +kernel
theorem dX10_verified_67 : decode cX10_verified 67 = .ok (.iconst 1, 1) := by decide +kernel
theorem dX10_verified_68 : decode cX10_verified 68 = .ok (.iload 4, 2) := by decide +kernel
theorem dX10_verified_70 : decode cX10_verified 70 = .ok (.ishl, 1) := by decide +kernel
theorem dX10_verified_71 : decode cX10_verified 71 = .ok (.goto 4, 3) := by decide +kernel
theorem dX10_verified_74 : decode cX10_verified 74 = .ok (.iconst 0, 1) := by decide +kernel
theorem dX10_verified_75 : decode cX10_verified 75 = .ok (.ior, 1) := by decide +kernel
theorem dX10_verified_76 : decode cX10_verified 76 = .ok (.istore_n 3, 1) := by decide +kernel
theorem dX10_verified_77 : decode cX10_verified 77 = .ok (.iinc 4 1, 3) := by decide +kernel
theorem dX10_verified_80 : decode cX10_verified 80 = .ok (.goto (-38), 3) := by decide +kernel
theorem dX10_verified_83 : decode cX10_verified 83 = .ok (.iload_n 2, 1) := by decide +kernel
theorem dX10_verified_84 : decode cX10_verified 84 = .ok (.ifCond .ne 12, 3) := by decide +kernel
theorem dX10_verified_87 : decode cX10_verified 87 = .ok (.aload_n 0, 1) := by decide +kernel
theorem dX10_verified_88 : decode cX10_verified 88 = .ok (.getfield 104, 3) := by decide +kernel
theorem dX10_verified_91 : decode cX10_verified 91 = .ok (.iload_n 1, 1) := by decide +kernel
theorem dX10_verified_92 : decode cX10_verified 92 = .ok (.iaload, 1) := by decide +kernel
theorem dX10_verified_93 : decode cX10_verified 93 = .ok (.goto 16, 3) := by decide +kernel
theorem dX10_verified_96 : decode cX10_verified 96 = .ok (.iload_n 2, 1) := by decide +kernel
theorem dX10_verified_97 : decode cX10_verified 97 = .ok (.iconst 1, 1) := by decide +kernel
theorem dX10_verified_98 : decode cX10_verified 98 = .ok (.if_icmp .ne 10, 3) := by decide +kernel
theorem dX10_verified_101 : decode cX10_verified 101 = .ok (.iload_n 3, 1) := by decide +kernel
theorem dX10_verified_102 : decode cX10_verified 102 = .ok (.invokestatic 266, 3) := by decide +kernel
theorem dX10_verified_105 : decode cX10_verified 105 = .ok (.goto 4, 3) := by decide +kernel
theorem dX10_verified_108 : decode cX10_verified 108 = .ok (.iload_n 3, 1) := by decide +kernel
theorem dX10_verified_109 : decode cX10_verified 109 = .ok (.ireturn, 1) := by decide +kernel
theorem dX10_noSheet_0 : decode cX10_noSheet 0 = .ok (.iload_n 0, 1) := by decide +kernel
theorem dX10_noSheet_1 : decode cX10_noSheet 1 = .ok (.i2l, 1) := by decide +kernel
theorem dX10_noSheet_2 : decode cX10_noSheet 2 = .ok (.lconst 0, 1) := by decide +kernel
theorem dX10_noSheet_3 : decode cX10_noSheet 3 = .ok (.ldc2_w 340, 3) := by decide +kernel
theorem dX10_noSheet_6 : decode cX10_noSheet 6 = .ok (.invokestatic 156, 3) := by decide +kernel
theorem dX10_noSheet_9 : decode cX10_noSheet 9 = .ok (.ifCond .ne 7, 3) := by decide +kernel
theorem dX10_noSheet_12 : decode cX10_noSheet 12 = .ok (.iconst 1, 1) := by decide +kernel
theorem dX10_noSheet_13 : decode cX10_noSheet 13 = .ok (.goto 4, 3) := by decide +kernel
theorem dX10_noSheet_16 : decode cX10_noSheet 16 = .ok (.iconst 0, 1) := by decide +kernel
theorem dX10_noSheet_17 : decode cX10_noSheet 17 = .ok (.ireturn, 1) := by decide +kernel
theorem dX10_sheet_0 : decode cX10_sheet 0 = .ok (.iload_n 1, 1) := by decide +kernel
theorem dX10_sheet_1 : decode cX10_sheet 1 = .ok (.invokestatic 212, 3) := by decide +kernel
theorem dX10_sheet_4 : decode cX10_sheet 4 = .ok (.ifCond .eq 9, 3) := by decide +kernel
theorem dX10_sheet_7 : decode cX10_sheet 7 = .ok (.aload_n 0, 1) := by decide +kernel
theorem dX10_sheet_8 : decode cX10_sheet 8 = .ok (.iconst (-1), 1) := by decide +kernel
theorem dX10_sheet_9 : decode cX10_sheet 9 = .ok (.invokevirtual 215, 3) := by decide +kernel
theorem dX10_sheet_12 : decode cX10_sheet 12 = .ok (.ireturn, 1) := by decide +kernel
theorem dX10_sheet_13 : decode cX10_sheet 13 = .ok (.iload_n 2, 1) := by decide +kernel
theorem dX10_sheet_14 : decode cX10_sheet 14 = .ok (.i2l, 1) := by decide +kernel
theorem dX10_sheet_15 : decode cX10_sheet 15 = .ok (.lconst 0, 1) := by decide +kernel
theorem dX10_sheet_16 : decode cX10_sheet 16 = .ok (.ldc2_w 162, 3) := by decide +kernel
theorem dX10_sheet_19 : decode cX10_sheet 19 = .ok (.invokestatic 156, 3) := by decide +kernel
theorem dX10_sheet_22 : decode cX10_sheet 22 = .ok (.ifCond .eq 9, 3) := by decide +kernel
theorem dX10_sheet_25 : decode cX10_sheet 25 = .ok (.iload_n 3, 1) := by decide +kernel
theorem dX10_sheet_26 : decode cX10_sheet 26 = .ok (.bipush 60, 2) := by decide +kernel
theorem dX10_sheet_28 : decode cX10_sheet 28 = .ok (.if_icmp .le 10, 3) := by decide +kernel
theorem dX10_sheet_31 : decode cX10_sheet 31 = .ok (.aload_n 0, 1) := by decide +kernel
theorem dX10_sheet_32 : decode cX10_sheet 32 = .ok (.bipush (-2), 2) := by decide +kernel
theorem dX10_sheet_34 : decode cX10_sheet 34 = .ok (.invokevirtual 215, 3) := by decide +kernel
theorem dX10_sheet_37 : decode cX10_sheet 37 = .ok (.ireturn, 1) := by decide +kernel
theorem dX10_sheet_38 : decode cX10_sheet 38 = .ok (.iload_n 3, 1) := by decide +kernel
theorem dX10_sheet_39 : decode cX10_sheet 39 = .ok (.ifCond .ge 9, 3) := by decide +kernel
theorem dX10_sheet_42 : decode cX10_sheet 42 = .ok (.aload_n 0, 1) := by decide +kernel
theorem dX10_sheet_43 : decode cX10_sheet 43 = .ok (.iconst 4, 1) := by decide +kernel
theorem dX10_sheet_44 : decode cX10_sheet 44 = .ok (.invokevirtual 218, 3) := by decide +kernel
theorem dX10_sheet_47 : decode cX10_sheet 47 = .ok (.ireturn, 1) := by decide +kernel
theorem dX10_sheet_48 : decode cX10_sheet 48 = .ok (.aload_n 0, 1) := by decide +kernel
theorem dX10_sheet_49 : decode cX10_sheet 49 = .ok (.getfield 125, 3) := by decide +kernel
theorem dX10_sheet_52 : decode cX10_sheet 52 = .ok (.iload_n 1, 1) := by decide +kernel
theorem dX10_sheet_53 : decode cX10_sheet 53 = .ok (.iload_n 3, 1) := by decide +kernel
theorem dX10_sheet_54 : decode cX10_sheet 54 = .ok (.iastore, 1) := by decide +kernel
theorem dX10_sheet_55 : decode cX10_sheet 55 = .ok (.aload_n 0, 1) := by decide +kernel
theorem dX10_sheet_56 : decode cX10_sheet 56 = .ok (.getfield 128, 3) := by decide +kernel
theorem dX10_sheet_59 : decode cX10_sheet 59 = .ok (.iload_n 1, 1) := by decide +kernel
theorem dX10_sheet_60 : decode cX10_sheet 60 = .ok (.iload_n 2, 1) := by decide +kernel
theorem dX10_sheet_61 : decode cX10_sheet 61 = .ok (.iastore, 1) := by decide +kernel
theorem dX10_sheet_62 : decode cX10_sheet 62 = .ok (.iconst 0, 1) := by decide +kernel
theorem dX10_sheet_63 : decode cX10_sheet 63 = .ok (.istore 4, 2) := by decide +kernel
theorem dX10_sheet_65 : decode cX10_sheet 65 = .ok (.iload 4, 2) := by decide +kernel
theorem dX10_sheet_67 : decode cX10_sheet 67 = .ok (.iload_n 3, 1) := by decide +kernel
theorem dX10_sheet_68 : decode cX10_sheet 68 = .ok (.if_icmp .ge 22, 3) := by decide +kernel
theorem dX10_sheet_71 : decode cX10_sheet 71 = .ok (.aload_n 0, 1) := by decide +kernel
theorem dX10_sheet_72 : decode cX10_sheet 72 = .ok (.getfield 131, 3) := by decide +kernel
theorem dX10_sheet_75 : decode cX10_sheet 75 = .ok (.bipush 60, 2) := by decide +kernel
theorem dX10_sheet_77 : decode cX10_sheet 77 = .ok (.iload_n 1, 1) := by decide +kernel
theorem dX10_sheet_78 : decode cX10_sheet 78 = .ok (.imul, 1) := by decide +kernel
theorem dX10_sheet_79 : decode cX10_sheet 79 = .ok (.iload 4, 2) := by decide +kernel
theorem dX10_sheet_81 : decode cX10_sheet 81 = .ok (.iadd, 1) := by decide +kernel
theorem dX10_sheet_82 : decode cX10_sheet 82 = .ok (.iconst 0, 1) := by decide +kernel
theorem dX10_sheet_83 : decode cX10_sheet 83 = .ok (.iastore, 1) := by decide +kernel
theorem dX10_sheet_84 : decode cX10_sheet 84 = .ok (.iinc 4 1, 3) := by decide +kernel
theorem dX10_sheet_87 : decode cX10_sheet 87 = .ok (.goto (-22), 3) := by decide +kernel
theorem dX10_sheet_90 : decode cX10_sheet 90 = .ok (.aload_n 0, 1) := by decide +kernel
theorem dX10_sheet_91 : decode cX10_sheet 91 = .ok (.iconst 1, 1) := by decide +kernel
theorem dX10_sheet_92 : decode cX10_sheet 92 = .ok (.invokevirtual 215, 3) := by decide +kernel
theorem dX10_sheet_95 : decode cX10_sheet 95 = .ok (.ireturn, 1) := by decide +kernel
theorem dX10_lose_0 : decode cX10_lose 0 = .ok (.iload_n 1, 1) := by decide +kernel
theorem dX10_lose_1 : decode cX10_lose 1 = .ok (.invokestatic 212, 3) := by decide +kernel
theorem dX10_lose_4 : decode cX10_lose 4 = .ok (.ifCond .eq 5, 3) := by decide +kernel
theorem dX10_lose_7 : decode cX10_lose 7 = .ok (.iconst (-1), 1) := by decide +kernel
theorem dX10_lose_8 : decode cX10_lose 8 = .ok (.ireturn, 1) := by decide +kernel
theorem dX10_lose_9 : decode cX10_lose 9 = .ok (.aload_n 0, 1) := by decide +kernel
theorem dX10_lose_10 : decode cX10_lose 10 = .ok (.getfield 125, 3) := by decide +kernel
theorem dX10_lose_13 : decode cX10_lose 13 = .ok (.iload_n 1, 1) := by decide +kernel
theorem dX10_lose_14 : decode cX10_lose 14 = .ok (.iaload, 1) := by decide +kernel
theorem dX10_lose_15 : decode cX10_lose 15 = .ok (.ifCond .ge 7, 3) := by decide +kernel
theorem dX10_lose_18 : decode cX10_lose 18 = .ok (.iconst 0, 1) := by decide +kernel
theorem dX10_lose_19 : decode cX10_lose 19 = .ok (.goto 4, 3) := by decide +kernel
theorem dX10_lose_22 : decode cX10_lose 22 = .ok (.iconst 1, 1) := by decide +kernel
theorem dX10_lose_23 : decode cX10_lose 23 = .ok (.istore_n 2, 1) := by decide +kernel
theorem dX10_lose_24 : decode cX10_lose 24 = .ok (.aload_n 0, 1) := by decide +kernel
theorem dX10_lose_25 : decode cX10_lose 25 = .ok (.getfield 125, 3) := by decide +kernel
theorem dX10_lose_28 : decode cX10_lose 28 = .ok (.iload_n 1, 1) := by decide +kernel
theorem dX10_lose_29 : decode cX10_lose 29 = .ok (.iconst (-1), 1) := by decide +kernel
theorem dX10_lose_30 : decode cX10_lose 30 = .ok (.iastore, 1) := by decide +kernel
theorem dX10_lose_31 : decode cX10_lose 31 = .ok (.iload_n 2, 1) := by decide +kernel
theorem dX10_lose_32 : decode cX10_lose 32 = .ok (.ireturn, 1) := by decide +kernel
theorem dX10_noCell_0 : decode cX10_noCell 0 = .ok (.aload_n 0, 1) := by decide +kernel
theorem dX10_noCell_1 : decode cX10_noCell 1 = .ok (.getfield 125, 3) := by decide +kernel
theorem dX10_noCell_4 : decode cX10_noCell 4 = .ok (.iload_n 1, 1) := by decide +kernel
theorem dX10_noCell_5 : decode cX10_noCell 5 = .ok (.iaload, 1) := by decide +kernel
theorem dX10_noCell_6 : decode cX10_noCell 6 = .ok (.ifCond .ge 7, 3) := by decide +kernel
theorem dX10_noCell_9 : decode cX10_noCell 9 = .ok (.iconst 1, 1) := by decide +kernel
theorem dX10_noCell_10 : decode cX10_noCell 10 = .ok (.goto 26, 3) := by decide +kernel
theorem dX10_noCell_13 : decode cX10_noCell 13 = .ok (.iload_n 2, 1) := by decide +kernel
theorem dX10_noCell_14 : decode cX10_noCell 14 = .ok (.i2l, 1) := by decide +kernel
theorem dX10_noCell_15 : decode cX10_noCell 15 = .ok (.lconst 0, 1) := by decide +kernel
theorem dX10_noCell_16 : decode cX10_noCell 16 = .ok (.aload_n 0, 1) := by decide +kernel
theorem dX10_noCell_17 : decode cX10_noCell 17 = .ok (.getfield 125, 3) := by decide +kernel
theorem dX10_noCell_20 : decode cX10_noCell 20 = .ok (.iload_n 1, 1) := by decide +kernel
theorem dX10_noCell_21 : decode cX10_noCell 21 = .ok (.iaload, 1) := by decide +kernel
theorem dX10_noCell_22 : decode cX10_noCell 22 = .ok (.i2l, 1) := by decide +kernel
theorem dX10_noCell_23 : decode cX10_noCell 23 = .ok (.lconst 1, 1) := by decide +kernel
theorem dX10_noCell_24 : decode cX10_noCell 24 = .ok (.lsub, 1) := by decide +kernel
theorem dX10_noCell_25 : decode cX10_noCell 25 = .ok (.invokestatic 156, 3) := by decide +kernel
theorem dX10_noCell_28 : decode cX10_noCell 28 = .ok (.ifCond .eq 7, 3) := by decide +kernel
theorem dX10_noCell_31 : decode cX10_noCell 31 = .ok (.iconst 0, 1) := by decide +kernel
theorem dX10_noCell_32 : decode cX10_noCell 32 = .ok (.goto 4, 3) := by decide +kernel
theorem dX10_noCell_35 : decode cX10_noCell 35 = .ok (.iconst 3, 1) := by decide +kernel
theorem dX10_noCell_36 : decode cX10_noCell 36 = .ok (.ireturn, 1) := by decide +kernel
theorem dX10_put_0 : decode cX10_put 0 = .ok (.iload_n 1, 1) := by decide +kernel
theorem dX10_put_1 : decode cX10_put 1 = .ok (.invokestatic 212, 3) := by decide +kernel
theorem dX10_put_4 : decode cX10_put 4 = .ok (.ifCond .eq 9, 3) := by decide +kernel
theorem dX10_put_7 : decode cX10_put 7 = .ok (.aload_n 0, 1) := by decide +kernel
theorem dX10_put_8 : decode cX10_put 8 = .ok (.iconst (-1), 1) := by decide +kernel
theorem dX10_put_9 : decode cX10_put 9 = .ok (.invokevirtual 215, 3) := by decide +kernel
theorem dX10_put_12 : decode cX10_put 12 = .ok (.ireturn, 1) := by decide +kernel
theorem dX10_put_13 : decode cX10_put 13 = .ok (.aload_n 0, 1) := by decide +kernel
theorem dX10_put_14 : decode cX10_put 14 = .ok (.iload_n 1, 1) := by decide +kernel
theorem dX10_put_15 : decode cX10_put 15 = .ok (.iload_n 2, 1) := by decide +kernel
theorem dX10_put_16 : decode cX10_put 16 = .ok (.invokevirtual 411, 3) := by decide +kernel
theorem dX10_put_19 : decode cX10_put 19 = .ok (.ifCond .le 14, 3) := by decide +kernel
theorem dX10_put_22 : decode cX10_put 22 = .ok (.aload_n 0, 1) := by decide +kernel
theorem dX10_put_23 : decode cX10_put 23 = .ok (.aload_n 0, 1) := by decide +kernel
theorem dX10_put_24 : decode cX10_put 24 = .ok (.iload_n 1, 1) := by decide +kernel
theorem dX10_put_25 : decode cX10_put 25 = .ok (.iload_n 2, 1) := by decide +kernel
theorem dX10_put_26 : decode cX10_put 26 = .ok (.invokevirtual 411, 3) := by decide +kernel
theorem dX10_put_29 : decode cX10_put 29 = .ok (.invokevirtual 218, 3) := by decide +kernel
theorem dX10_put_32 : decode cX10_put 32 = .ok (.ireturn, 1) := by decide +kernel
theorem dX10_put_33 : decode cX10_put 33 = .ok (.aload_n 0, 1) := by decide +kernel
theorem dX10_put_34 : decode cX10_put 34 = .ok (.getfield 131, 3) := by decide +kernel
theorem dX10_put_37 : decode cX10_put 37 = .ok (.bipush 60, 2) := by decide +kernel
theorem dX10_put_39 : decode cX10_put 39 = .ok (.iload_n 1, 1) := by decide +kernel
theorem dX10_put_40 : decode cX10_put 40 = .ok (.imul, 1) := by decide +kernel
theorem dX10_put_41 : decode cX10_put 41 = .ok (.iload_n 2, 1) := by decide +kernel
theorem dX10_put_42 : decode cX10_put 42 = .ok (.iadd, 1) := by decide +kernel
theorem dX10_put_43 : decode cX10_put 43 = .ok (.aload_n 0, 1) := by decide +kernel
theorem dX10_put_44 : decode cX10_put 44 = .ok (.getfield 128, 3) := by decide +kernel
theorem dX10_put_47 : decode cX10_put 47 = .ok (.iload_n 1, 1) := by decide +kernel
theorem dX10_put_48 : decode cX10_put 48 = .ok (.iaload, 1) := by decide +kernel
theorem dX10_put_49 : decode cX10_put 49 = .ok (.ifCond .ne 8, 3) := by decide +kernel
theorem dX10_put_52 : decode cX10_put 52 = .ok (.iload_n 3, 1) := by decide +kernel
theorem dX10_put_53 : decode cX10_put 53 = .ok (.i2b, 1) := by decide +kernel
theorem dX10_put_54 : decode cX10_put 54 = .ok (.goto 19, 3) := by decide +kernel
theorem dX10_put_57 : decode cX10_put 57 = .ok (.aload_n 0, 1) := by decide +kernel
theorem dX10_put_58 : decode cX10_put 58 = .ok (.getfield 128, 3) := by decide +kernel
theorem dX10_put_61 : decode cX10_put 61 = .ok (.iload_n 1, 1) := by decide +kernel
theorem dX10_put_62 : decode cX10_put 62 = .ok (.iaload, 1) := by decide +kernel
theorem dX10_put_63 : decode cX10_put 63 = .ok (.iconst 1, 1) := by decide +kernel
theorem dX10_put_64 : decode cX10_put 64 = .ok (.if_icmp .ne 8, 3) := by decide +kernel
theorem dX10_put_67 : decode cX10_put 67 = .ok (.iload_n 3, 1) := by decide +kernel
theorem dX10_put_68 : decode cX10_put 68 = .ok (.i2s, 1) := by decide +kernel
theorem dX10_put_69 : decode cX10_put 69 = .ok (.goto 4, 3) := by decide +kernel
theorem dX10_put_72 : decode cX10_put 72 = .ok (.iload_n 3, 1) := by decide +kernel
theorem dX10_put_73 : decode cX10_put 73 = .ok (.iastore, 1) := by decide +kernel
theorem dX10_put_74 : decode cX10_put 74 = .ok (.aload_n 0, 1) := by decide +kernel
theorem dX10_put_75 : decode cX10_put 75 = .ok (.iconst 1, 1) := by decide +kernel
theorem dX10_put_76 : decode cX10_put 76 = .ok (.invokevirtual 215, 3) := by decide +kernel
theorem dX10_put_79 : decode cX10_put 79 = .ok (.ireturn, 1) := by decide +kernel
theorem dX10_cell_0 : decode cX10_cell 0 = .ok (.aload_n 0, 1) := by decide +kernel
theorem dX10_cell_1 : decode cX10_cell 1 = .ok (.iconst 0, 1) := by decide +kernel
theorem dX10_cell_2 : decode cX10_cell 2 = .ok (.putfield 146, 3) := by decide +kernel
theorem dX10_cell_5 : decode cX10_cell 5 = .ok (.iload_n 1, 1) := by decide +kernel
theorem dX10_cell_6 : decode cX10_cell 6 = .ok (.invokestatic 212, 3) := by decide +kernel
theorem dX10_cell_9 : decode cX10_cell 9 = .ok (.ifCond .ne 15, 3) := by decide +kernel
theorem dX10_cell_12 : decode cX10_cell 12 = .ok (.iload_n 3, 1) := by decide +kernel
theorem dX10_cell_13 : decode cX10_cell 13 = .ok (.i2l, 1) := by decide +kernel
theorem dX10_cell_14 : decode cX10_cell 14 = .ok (.lconst 0, 1) := by decide +kernel
theorem dX10_cell_15 : decode cX10_cell 15 = .ok (.ldc2_w 162, 3) := by decide +kernel
theorem dX10_cell_18 : decode cX10_cell 18 = .ok (.invokestatic 156, 3) := by decide +kernel
theorem dX10_cell_21 : decode cX10_cell 21 = .ok (.ifCond .ne 7, 3) := by decide +kernel
theorem dX10_cell_24 : decode cX10_cell 24 = .ok (.invokestatic 149, 3) := by decide +kernel
theorem dX10_cell_27 : decode cX10_cell 27 = .ok (.lreturn, 1) := by decide +kernel
theorem dX10_cell_28 : decode cX10_cell 28 = .ok (.aload_n 0, 1) := by decide +kernel
theorem dX10_cell_29 : decode cX10_cell 29 = .ok (.getfield 125, 3) := by decide +kernel
theorem dX10_cell_32 : decode cX10_cell 32 = .ok (.iload_n 1, 1) := by decide +kernel
theorem dX10_cell_33 : decode cX10_cell 33 = .ok (.iaload, 1) := by decide +kernel
theorem dX10_cell_34 : decode cX10_cell 34 = .ok (.ifCond .lt 19, 3) := by decide +kernel
theorem dX10_cell_37 : decode cX10_cell 37 = .ok (.aload_n 0, 1) := by decide +kernel
theorem dX10_cell_38 : decode cX10_cell 38 = .ok (.getfield 128, 3) := by decide +kernel
theorem dX10_cell_41 : decode cX10_cell 41 = .ok (.iload_n 1, 1) := by decide +kernel
theorem dX10_cell_42 : decode cX10_cell 42 = .ok (.iaload, 1) := by decide +kernel
theorem dX10_cell_43 : decode cX10_cell 43 = .ok (.iload_n 3, 1) := by decide +kernel
theorem dX10_cell_44 : decode cX10_cell 44 = .ok (.if_icmp .eq 9, 3) := by decide +kernel
theorem dX10_cell_47 : decode cX10_cell 47 = .ok (.aload_n 0, 1) := by decide +kernel
theorem dX10_cell_48 : decode cX10_cell 48 = .ok (.iconst 2, 1) := by decide +kernel
theorem dX10_cell_49 : decode cX10_cell 49 = .ok (.invokevirtual 414, 3) := by decide +kernel
theorem dX10_cell_52 : decode cX10_cell 52 = .ok (.lreturn, 1) := by decide +kernel
theorem dX10_cell_53 : decode cX10_cell 53 = .ok (.aload_n 0, 1) := by decide +kernel
theorem dX10_cell_54 : decode cX10_cell 54 = .ok (.iload_n 1, 1) := by decide +kernel
theorem dX10_cell_55 : decode cX10_cell 55 = .ok (.iload_n 2, 1) := by decide +kernel
theorem dX10_cell_56 : decode cX10_cell 56 = .ok (.invokevirtual 411, 3) := by decide +kernel
theorem dX10_cell_59 : decode cX10_cell 59 = .ok (.ifCond .le 16, 3) := by decide +kernel
theorem dX10_cell_62 : decode cX10_cell 62 = .ok (.aload_n 0, 1) := by decide +kernel
theorem dX10_cell_63 : decode cX10_cell 63 = .ok (.aload_n 0, 1) := by decide +kernel
theorem dX10_cell_64 : decode cX10_cell 64 = .ok (.iload_n 1, 1) := by decide +kernel
theorem dX10_cell_65 : decode cX10_cell 65 = .ok (.iload_n 2, 1) := by decide +kernel
theorem dX10_cell_66 : decode cX10_cell 66 = .ok (.invokevirtual 411, 3) := by decide +kernel
theorem dX10_cell_69 : decode cX10_cell 69 = .ok (.invokevirtual 414, 3) := by decide +kernel
theorem dX10_cell_72 : decode cX10_cell 72 = .ok (.goto 15, 3) := by decide +kernel
theorem dX10_cell_75 : decode cX10_cell 75 = .ok (.aload_n 0, 1) := by decide +kernel
theorem dX10_cell_76 : decode cX10_cell 76 = .ok (.getfield 131, 3) := by decide +kernel
theorem dX10_cell_79 : decode cX10_cell 79 = .ok (.bipush 60, 2) := by decide +kernel
theorem dX10_cell_81 : decode cX10_cell 81 = .ok (.iload_n 1, 1) := by decide +kernel
theorem dX10_cell_82 : decode cX10_cell 82 = .ok (.imul, 1) := by decide +kernel
theorem dX10_cell_83 : decode cX10_cell 83 = .ok (.iload_n 2, 1) := by decide +kernel
theorem dX10_cell_84 : decode cX10_cell 84 = .ok (.iadd, 1) := by decide +kernel
theorem dX10_cell_85 : decode cX10_cell 85 = .ok (.iaload, 1) := by decide +kernel
theorem dX10_cell_86 : decode cX10_cell 86 = .ok (.i2l, 1) := by decide +kernel
theorem dX10_cell_87 : decode cX10_cell 87 = .ok (.lreturn, 1) := by decide +kernel
theorem dX10_isBeyond_0 : decode cX10_isBeyond 0 = .ok (.iload_n 0, 1) := by decide +kernel
theorem dX10_isBeyond_1 : decode cX10_isBeyond 1 = .ok (.ifCond .lt 19, 3) := by decide +kernel
theorem dX10_isBeyond_4 : decode cX10_isBeyond 4 = .ok (.lload_n 1, 1) := by decide +kernel
theorem dX10_isBeyond_5 : decode cX10_isBeyond 5 = .ok (.lconst 0, 1) := by decide +kernel
theorem dX10_isBeyond_6 : decode cX10_isBeyond 6 = .ok (.lcmp, 1) := by decide +kernel
theorem dX10_isBeyond_7 : decode cX10_isBeyond 7 = .ok (.ifCond .lt 13, 3) := by decide +kernel
theorem dX10_isBeyond_10 : decode cX10_isBeyond 10 = .ok (.iload_n 0, 1) := by decide +kernel
theorem dX10_isBeyond_11 : decode cX10_isBeyond 11 = .ok (.i2l, 1) := by decide +kernel
theorem dX10_isBeyond_12 : decode cX10_isBeyond 12 = .ok (.lload_n 1, 1) := by decide +kernel
theorem dX10_isBeyond_13 : decode cX10_isBeyond 13 = .ok (.ladd, 1) := by decide +kernel
theorem dX10_isBeyond_14 : decode cX10_isBeyond 14 = .ok (.iload_n 3, 1) := by decide +kernel
theorem dX10_isBeyond_15 : decode cX10_isBeyond 15 = .ok (.i2l, 1) := by decide +kernel
theorem dX10_isBeyond_16 : decode cX10_isBeyond 16 = .ok (.lcmp, 1) := by decide +kernel
theorem dX10_isBeyond_17 : decode cX10_isBeyond 17 = .ok (.ifCond .le 7, 3) := by decide +kernel
theorem dX10_isBeyond_20 : decode cX10_isBeyond 20 = .ok (.iconst 1, 1) := by decide +kernel
theorem dX10_isBeyond_21 : decode cX10_isBeyond 21 = .ok (.goto 4, 3) := by decide +kernel
theorem dX10_isBeyond_24 : decode cX10_isBeyond 24 = .ok (.iconst 0, 1) := by decide +kernel
theorem dX10_isBeyond_25 : decode cX10_isBeyond 25 = .ok (.ireturn, 1) := by decide +kernel
theorem dX10_copy_0 : decode cX10_copy 0 = .ok (.iload_n 1, 1) := by decide +kernel
theorem dX10_copy_1 : decode cX10_copy 1 = .ok (.invokestatic 212, 3) := by decide +kernel
theorem dX10_copy_4 : decode cX10_copy 4 = .ok (.ifCond .ne 10, 3) := by decide +kernel
theorem dX10_copy_7 : decode cX10_copy 7 = .ok (.iload_n 3, 1) := by decide +kernel
theorem dX10_copy_8 : decode cX10_copy 8 = .ok (.invokestatic 212, 3) := by decide +kernel
theorem dX10_copy_11 : decode cX10_copy 11 = .ok (.ifCond .eq 9, 3) := by decide +kernel
theorem dX10_copy_14 : decode cX10_copy 14 = .ok (.aload_n 0, 1) := by decide +kernel
theorem dX10_copy_15 : decode cX10_copy 15 = .ok (.iconst (-1), 1) := by decide +kernel
theorem dX10_copy_16 : decode cX10_copy 16 = .ok (.invokevirtual 215, 3) := by decide +kernel
theorem dX10_copy_19 : decode cX10_copy 19 = .ok (.ireturn, 1) := by decide +kernel
theorem dX10_copy_20 : decode cX10_copy 20 = .ok (.aload_n 0, 1) := by decide +kernel
theorem dX10_copy_21 : decode cX10_copy 21 = .ok (.getfield 125, 3) := by decide +kernel
theorem dX10_copy_24 : decode cX10_copy 24 = .ok (.iload_n 1, 1) := by decide +kernel
theorem dX10_copy_25 : decode cX10_copy 25 = .ok (.iaload, 1) := by decide +kernel
theorem dX10_copy_26 : decode cX10_copy 26 = .ok (.ifCond .lt 12, 3) := by decide +kernel
theorem dX10_copy_29 : decode cX10_copy 29 = .ok (.aload_n 0, 1) := by decide +kernel
theorem dX10_copy_30 : decode cX10_copy 30 = .ok (.getfield 125, 3) := by decide +kernel
theorem dX10_copy_33 : decode cX10_copy 33 = .ok (.iload_n 3, 1) := by decide +kernel
theorem dX10_copy_34 : decode cX10_copy 34 = .ok (.iaload, 1) := by decide +kernel
theorem dX10_copy_35 : decode cX10_copy 35 = .ok (.ifCond .ge 9, 3) := by decide +kernel
theorem dX10_copy_38 : decode cX10_copy 38 = .ok (.aload_n 0, 1) := by decide +kernel
theorem dX10_copy_39 : decode cX10_copy 39 = .ok (.iconst 1, 1) := by decide +kernel
theorem dX10_copy_40 : decode cX10_copy 40 = .ok (.invokevirtual 218, 3) := by decide +kernel
theorem dX10_copy_43 : decode cX10_copy 43 = .ok (.ireturn, 1) := by decide +kernel
theorem dX10_copy_44 : decode cX10_copy 44 = .ok (.aload_n 0, 1) := by decide +kernel
theorem dX10_copy_45 : decode cX10_copy 45 = .ok (.getfield 128, 3) := by decide +kernel
theorem dX10_copy_48 : decode cX10_copy 48 = .ok (.iload_n 1, 1) := by decide +kernel
theorem dX10_copy_49 : decode cX10_copy 49 = .ok (.iaload, 1) := by decide +kernel
theorem dX10_copy_50 : decode cX10_copy 50 = .ok (.aload_n 0, 1) := by decide +kernel
theorem dX10_copy_51 : decode cX10_copy 51 = .ok (.getfield 128, 3) := by decide +kernel
theorem dX10_copy_54 : decode cX10_copy 54 = .ok (.iload_n 3, 1) := by decide +kernel
theorem dX10_copy_55 : decode cX10_copy 55 = .ok (.iaload, 1) := by decide +kernel
theorem dX10_copy_56 : decode cX10_copy 56 = .ok (.if_icmp .eq 9, 3) := by decide +kernel
theorem dX10_copy_59 : decode cX10_copy 59 = .ok (.aload_n 0, 1) := by decide +kernel
theorem dX10_copy_60 : decode cX10_copy 60 = .ok (.iconst 2, 1) := by decide +kernel
theorem dX10_copy_61 : decode cX10_copy 61 = .ok (.invokevirtual 218, 3) := by decide +kernel
theorem dX10_copy_64 : decode cX10_copy 64 = .ok (.ireturn, 1) := by decide +kernel
theorem dX10_copy_65 : decode cX10_copy 65 = .ok (.iload_n 2, 1) := by decide +kernel
theorem dX10_copy_66 : decode cX10_copy 66 = .ok (.iload 5, 2) := by decide +kernel
theorem dX10_copy_68 : decode cX10_copy 68 = .ok (.i2l, 1) := by decide +kernel
theorem dX10_copy_69 : decode cX10_copy 69 = .ok (.aload_n 0, 1) := by decide +kernel
theorem dX10_copy_70 : decode cX10_copy 70 = .ok (.getfield 125, 3) := by decide +kernel
theorem dX10_copy_73 : decode cX10_copy 73 = .ok (.iload_n 1, 1) := by decide +kernel
theorem dX10_copy_74 : decode cX10_copy 74 = .ok (.iaload, 1) := by decide +kernel
theorem dX10_copy_75 : decode cX10_copy 75 = .ok (.invokestatic 223, 3) := by decide +kernel
theorem dX10_copy_78 : decode cX10_copy 78 = .ok (.ifCond .ne 20, 3) := by decide +kernel
theorem dX10_copy_81 : decode cX10_copy 81 = .ok (.iload 4, 2) := by decide +kernel
theorem dX10_copy_83 : decode cX10_copy 83 = .ok (.iload 5, 2) := by decide +kernel
theorem dX10_copy_85 : decode cX10_copy 85 = .ok (.i2l, 1) := by decide +kernel
theorem dX10_copy_86 : decode cX10_copy 86 = .ok (.aload_n 0, 1) := by decide +kernel
theorem dX10_copy_87 : decode cX10_copy 87 = .ok (.getfield 125, 3) := by decide +kernel
theorem dX10_copy_90 : decode cX10_copy 90 = .ok (.iload_n 3, 1) := by decide +kernel
theorem dX10_copy_91 : decode cX10_copy 91 = .ok (.iaload, 1) := by decide +kernel
theorem dX10_copy_92 : decode cX10_copy 92 = .ok (.invokestatic 223, 3) := by decide +kernel
theorem dX10_copy_95 : decode cX10_copy 95 = .ok (.ifCond .eq 9, 3) := by decide +kernel
theorem dX10_copy_98 : decode cX10_copy 98 = .ok (.aload_n 0, 1) := by decide +kernel
theorem dX10_copy_99 : decode cX10_copy 99 = .ok (.iconst 3, 1) := by decide +kernel
theorem dX10_copy_100 : decode cX10_copy 100 = .ok (.invokevirtual 218, 3) := by decide +kernel
theorem dX10_copy_103 : decode cX10_copy 103 = .ok (.ireturn, 1) := by decide +kernel
theorem dX10_copy_104 : decode cX10_copy 104 = .ok (.iconst 0, 1) := by decide +kernel
theorem dX10_copy_105 : decode cX10_copy 105 = .ok (.istore 6, 2) := by decide +kernel
theorem dX10_copy_107 : decode cX10_copy 107 = .ok (.iload 6, 2) := by decide +kernel
theorem dX10_copy_109 : decode cX10_copy 109 = .ok (.iload 5, 2) := by decide +kernel
theorem dX10_copy_111 : decode cX10_copy 111 = .ok (.if_icmp .ge 30, 3) := by decide +kernel
theorem dX10_copy_114 : decode cX10_copy 114 = .ok (.aload_n 0, 1) := by decide +kernel
theorem dX10_copy_115 : decode cX10_copy 115 = .ok (.getfield 134, 3) := by decide +kernel
theorem dX10_copy_118 : decode cX10_copy 118 = .ok (.iload 6, 2) := by decide +kernel
theorem dX10_copy_120 : decode cX10_copy 120 = .ok (.aload_n 0, 1) := by decide +kernel
theorem dX10_copy_121 : decode cX10_copy 121 = .ok (.getfield 131, 3) := by decide +kernel
theorem dX10_copy_124 : decode cX10_copy 124 = .ok (.bipush 60, 2) := by decide +kernel
theorem dX10_copy_126 : decode cX10_copy 126 = .ok (.iload_n 1, 1) := by decide +kernel
theorem dX10_copy_127 : decode cX10_copy 127 = .ok (.imul, 1) := by decide +kernel
theorem dX10_copy_128 : decode cX10_copy 128 = .ok (.iload_n 2, 1) := by decide +kernel
theorem dX10_copy_129 : decode cX10_copy 129 = .ok (.iadd, 1) := by decide +kernel
theorem dX10_copy_130 : decode cX10_copy 130 = .ok (.iload 6, 2) := by decide +kernel
theorem dX10_copy_132 : decode cX10_copy 132 = .ok (.iadd, 1) := by decide +kernel
theorem dX10_copy_133 : decode cX10_copy 133 = .ok (.iaload, 1) := by decide +kernel
theorem dX10_copy_134 : decode cX10_copy 134 = .ok (.iastore, 1) := by decide +kernel
theorem dX10_copy_135 : decode cX10_copy 135 = .ok (.iinc 6 1, 3) := by decide +kernel
theorem dX10_copy_138 : decode cX10_copy 138 = .ok (.goto (-31), 3) := by decide +kernel
theorem dX10_copy_141 : decode cX10_copy 141 = .ok (.iconst 0, 1) := by decide +kernel
theorem dX10_copy_142 : decode cX10_copy 142 = .ok (.istore 6, 2) := by decide +kernel
theorem dX10_copy_144 : decode cX10_copy 144 = .ok (.iload 6, 2) := by decide +kernel
theorem dX10_copy_146 : decode cX10_copy 146 = .ok (.iload 5, 2) := by decide +kernel
theorem dX10_copy_148 : decode cX10_copy 148 = .ok (.if_icmp .ge 31, 3) := by decide +kernel
theorem dX10_copy_151 : decode cX10_copy 151 = .ok (.aload_n 0, 1) := by decide +kernel
theorem dX10_copy_152 : decode cX10_copy 152 = .ok (.getfield 131, 3) := by decide +kernel
theorem dX10_copy_155 : decode cX10_copy 155 = .ok (.bipush 60, 2) := by decide +kernel
theorem dX10_copy_157 : decode cX10_copy 157 = .ok (.iload_n 3, 1) := by decide +kernel
theorem dX10_copy_158 : decode cX10_copy 158 = .ok (.imul, 1) := by decide +kernel
theorem dX10_copy_159 : decode cX10_copy 159 = .ok (.iload 4, 2) := by decide +kernel
theorem dX10_copy_161 : decode cX10_copy 161 = .ok (.iadd, 1) := by decide +kernel
theorem dX10_copy_162 : decode cX10_copy 162 = .ok (.iload 6, 2) := by decide +kernel
theorem dX10_copy_164 : decode cX10_copy 164 = .ok (.iadd, 1) := by decide +kernel
theorem dX10_copy_165 : decode cX10_copy 165 = .ok (.aload_n 0, 1) := by decide +kernel
theorem dX10_copy_166 : decode cX10_copy 166 = .ok (.getfield 134, 3) := by decide +kernel
theorem dX10_copy_169 : decode cX10_copy 169 = .ok (.iload 6, 2) := by decide +kernel
theorem dX10_copy_171 : decode cX10_copy 171 = .ok (.iaload, 1) := by decide +kernel
theorem dX10_copy_172 : decode cX10_copy 172 = .ok (.iastore, 1) := by decide +kernel
theorem dX10_copy_173 : decode cX10_copy 173 = .ok (.iinc 6 1, 3) := by decide +kernel
theorem dX10_copy_176 : decode cX10_copy 176 = .ok (.goto (-32), 3) := by decide +kernel
theorem dX10_copy_179 : decode cX10_copy 179 = .ok (.aload_n 0, 1) := by decide +kernel
theorem dX10_copy_180 : decode cX10_copy 180 = .ok (.iload 5, 2) := by decide +kernel
theorem dX10_copy_182 : decode cX10_copy 182 = .ok (.invokevirtual 215, 3) := by decide +kernel
theorem dX10_copy_185 : decode cX10_copy 185 = .ok (.ireturn, 1) := by decide +kernel
theorem dX10_traced_0 : decode cX10_traced 0 = .ok (.aload_n 0, 1) := by decide +kernel
theorem dX10_traced_1 : decode cX10_traced 1 = .ok (.bipush 31, 2) := by decide +kernel
theorem dX10_traced_3 : decode cX10_traced 3 = .ok (.aload_n 0, 1) := by decide +kernel
theorem dX10_traced_4 : decode cX10_traced 4 = .ok (.getfield 418, 3) := by decide +kernel
theorem dX10_traced_7 : decode cX10_traced 7 = .ok (.imul, 1) := by decide +kernel
theorem dX10_traced_8 : decode cX10_traced 8 = .ok (.iload_n 1, 1) := by decide +kernel
theorem dX10_traced_9 : decode cX10_traced 9 = .ok (.iadd, 1) := by decide +kernel
theorem dX10_traced_10 : decode cX10_traced 10 = .ok (.putfield 418, 3) := by decide +kernel
theorem dX10_traced_13 : decode cX10_traced 13 = .ok (.return_, 1) := by decide +kernel
theorem dX10_tell_0 : decode cX10_tell 0 = .ok (.aload_n 0, 1) := by decide +kernel
theorem dX10_tell_1 : decode cX10_tell 1 = .ok (.iload_n 1, 1) := by decide +kernel
theorem dX10_tell_2 : decode cX10_tell 2 = .ok (.invokevirtual 186, 3) := by decide +kernel
theorem dX10_tell_5 : decode cX10_tell 5 = .ok (.ifCond .eq 5, 3) := by decide +kernel
theorem dX10_tell_8 : decode cX10_tell 8 = .ok (.iconst (-1), 1) := by decide +kernel
theorem dX10_tell_9 : decode cX10_tell 9 = .ok (.ireturn, 1) := by decide +kernel
theorem dX10_tell_10 : decode cX10_tell 10 = .ok (.aload_n 0, 1) := by decide +kernel
theorem dX10_tell_11 : decode cX10_tell 11 = .ok (.getfield 7, 3) := by decide +kernel
theorem dX10_tell_14 : decode cX10_tell 14 = .ok (.iload_n 1, 1) := by decide +kernel
theorem dX10_tell_15 : decode cX10_tell 15 = .ok (.iaload, 1) := by decide +kernel
theorem dX10_tell_16 : decode cX10_tell 16 = .ok (.istore_n 2, 1) := by decide +kernel
theorem dX10_tell_17 : decode cX10_tell 17 = .ok (.iload_n 2, 1) := by decide +kernel
theorem dX10_tell_18 : decode cX10_tell 18 = .ok (.iconst 2, 1) := by decide +kernel
theorem dX10_tell_19 : decode cX10_tell 19 = .ok (.if_icmp .ne 8, 3) := by decide +kernel
theorem dX10_tell_22 : decode cX10_tell 22 = .ok (.aload_n 0, 1) := by decide +kernel
theorem dX10_tell_23 : decode cX10_tell 23 = .ok (.iconst 3, 1) := by decide +kernel
theorem dX10_tell_24 : decode cX10_tell 24 = .ok (.invokevirtual 421, 3) := by decide +kernel
theorem dX10_tell_27 : decode cX10_tell 27 = .ok (.iload_n 2, 1) := by decide +kernel
theorem dX10_tell_28 : decode cX10_tell 28 = .ok (.ifCond .le 8, 3) := by decide +kernel
theorem dX10_tell_31 : decode cX10_tell 31 = .ok (.aload_n 0, 1) := by decide +kernel
theorem dX10_tell_32 : decode cX10_tell 32 = .ok (.iconst 2, 1) := by decide +kernel
theorem dX10_tell_33 : decode cX10_tell 33 = .ok (.invokevirtual 421, 3) := by decide +kernel
theorem dX10_tell_36 : decode cX10_tell 36 = .ok (.aload_n 0, 1) := by decide +kernel
theorem dX10_tell_37 : decode cX10_tell 37 = .ok (.iconst 1, 1) := by decide +kernel
theorem dX10_tell_38 : decode cX10_tell 38 = .ok (.invokevirtual 421, 3) := by decide +kernel
theorem dX10_tell_41 : decode cX10_tell 41 = .ok (.iload_n 2, 1) := by decide +kernel
theorem dX10_tell_42 : decode cX10_tell 42 = .ok (.iconst 2, 1) := by decide +kernel
theorem dX10_tell_43 : decode cX10_tell 43 = .ok (.if_icmp .ne 8, 3) := by decide +kernel
theorem dX10_tell_46 : decode cX10_tell 46 = .ok (.aload_n 0, 1) := by decide +kernel
theorem dX10_tell_47 : decode cX10_tell 47 = .ok (.iconst 1, 1) := by decide +kernel
theorem dX10_tell_48 : decode cX10_tell 48 = .ok (.invokevirtual 421, 3) := by decide +kernel
theorem dX10_tell_51 : decode cX10_tell 51 = .ok (.aload_n 0, 1) := by decide +kernel
theorem dX10_tell_52 : decode cX10_tell 52 = .ok (.getfield 19, 3) := by decide +kernel
theorem dX10_tell_55 : decode cX10_tell 55 = .ok (.iload_n 1, 1) := by decide +kernel
theorem dX10_tell_56 : decode cX10_tell 56 = .ok (.iaload, 1) := by decide +kernel
theorem dX10_tell_57 : decode cX10_tell 57 = .ok (.iload_n 2, 1) := by decide +kernel
theorem dX10_tell_58 : decode cX10_tell 58 = .ok (.ifCond .le 12, 3) := by decide +kernel
theorem dX10_tell_61 : decode cX10_tell 61 = .ok (.aload_n 0, 1) := by decide +kernel
theorem dX10_tell_62 : decode cX10_tell 62 = .ok (.getfield 22, 3) := by decide +kernel
theorem dX10_tell_65 : decode cX10_tell 65 = .ok (.iload_n 1, 1) := by decide +kernel
theorem dX10_tell_66 : decode cX10_tell 66 = .ok (.iaload, 1) := by decide +kernel
theorem dX10_tell_67 : decode cX10_tell 67 = .ok (.goto 4, 3) := by decide +kernel
theorem dX10_tell_70 : decode cX10_tell 70 = .ok (.iconst 0, 1) := by decide +kernel
theorem dX10_tell_71 : decode cX10_tell 71 = .ok (.iadd, 1) := by decide +kernel
theorem dX10_tell_72 : decode cX10_tell 72 = .ok (.iload_n 2, 1) := by decide +kernel
theorem dX10_tell_73 : decode cX10_tell 73 = .ok (.iconst 2, 1) := by decide +kernel
theorem dX10_tell_74 : decode cX10_tell 74 = .ok (.if_icmp .ne 12, 3) := by decide +kernel
theorem dX10_tell_77 : decode cX10_tell 77 = .ok (.aload_n 0, 1) := by decide +kernel
theorem dX10_tell_78 : decode cX10_tell 78 = .ok (.getfield 19, 3) := by decide +kernel
theorem dX10_tell_81 : decode cX10_tell 81 = .ok (.iload_n 1, 1) := by decide +kernel
theorem dX10_tell_82 : decode cX10_tell 82 = .ok (.iaload, 1) := by decide +kernel
theorem dX10_tell_83 : decode cX10_tell 83 = .ok (.goto 4, 3) := by decide +kernel
theorem dX10_tell_86 : decode cX10_tell 86 = .ok (.iconst 0, 1) := by decide +kernel
theorem dX10_tell_87 : decode cX10_tell 87 = .ok (.iadd, 1) := by decide +kernel
theorem dX10_tell_88 : decode cX10_tell 88 = .ok (.ireturn, 1) := by decide +kernel
theorem dX10_hail_0 : decode cX10_hail 0 = .ok (.aload_n 0, 1) := by decide +kernel
theorem dX10_hail_1 : decode cX10_hail 1 = .ok (.iload_n 1, 1) := by decide +kernel
theorem dX10_hail_2 : decode cX10_hail 2 = .ok (.invokevirtual 186, 3) := by decide +kernel
theorem dX10_hail_5 : decode cX10_hail 5 = .ok (.ifCond .eq 5, 3) := by decide +kernel
theorem dX10_hail_8 : decode cX10_hail 8 = .ok (.iconst (-1), 1) := by decide +kernel
theorem dX10_hail_9 : decode cX10_hail 9 = .ok (.ireturn, 1) := by decide +kernel
theorem dX10_hail_10 : decode cX10_hail 10 = .ok (.aload_n 0, 1) := by decide +kernel
theorem dX10_hail_11 : decode cX10_hail 11 = .ok (.aload_n 0, 1) := by decide +kernel
theorem dX10_hail_12 : decode cX10_hail 12 = .ok (.getfield 7, 3) := by decide +kernel
theorem dX10_hail_15 : decode cX10_hail 15 = .ok (.iload_n 1, 1) := by decide +kernel
theorem dX10_hail_16 : decode cX10_hail 16 = .ok (.iaload, 1) := by decide +kernel
theorem dX10_hail_17 : decode cX10_hail 17 = .ok (.iconst 2, 1) := by decide +kernel
theorem dX10_hail_18 : decode cX10_hail 18 = .ok (.if_icmp .ne 7, 3) := by decide +kernel
theorem dX10_hail_21 : decode cX10_hail 21 = .ok (.iconst 5, 1) := by decide +kernel
theorem dX10_hail_22 : decode cX10_hail 22 = .ok (.goto 4, 3) := by decide +kernel
theorem dX10_hail_25 : decode cX10_hail 25 = .ok (.iconst 4, 1) := by decide +kernel
theorem dX10_hail_26 : decode cX10_hail 26 = .ok (.invokevirtual 421, 3) := by decide +kernel
theorem dX10_hail_29 : decode cX10_hail 29 = .ok (.aload_n 0, 1) := by decide +kernel
theorem dX10_hail_30 : decode cX10_hail 30 = .ok (.getfield 7, 3) := by decide +kernel
theorem dX10_hail_33 : decode cX10_hail 33 = .ok (.iload_n 1, 1) := by decide +kernel
theorem dX10_hail_34 : decode cX10_hail 34 = .ok (.iaload, 1) := by decide +kernel
theorem dX10_hail_35 : decode cX10_hail 35 = .ok (.iconst 2, 1) := by decide +kernel
theorem dX10_hail_36 : decode cX10_hail 36 = .ok (.if_icmp .ne 8, 3) := by decide +kernel
theorem dX10_hail_39 : decode cX10_hail 39 = .ok (.bipush 80, 2) := by decide +kernel
theorem dX10_hail_41 : decode cX10_hail 41 = .ok (.goto 4, 3) := by decide +kernel
theorem dX10_hail_44 : decode cX10_hail 44 = .ok (.iload_n 1, 1) := by decide +kernel
theorem dX10_hail_45 : decode cX10_hail 45 = .ok (.ireturn, 1) := by decide +kernel
theorem dX10_as_0 : decode cX10_as 0 = .ok (.aload_n 0, 1) := by decide +kernel
theorem dX10_as_1 : decode cX10_as 1 = .ok (.iload_n 1, 1) := by decide +kernel
theorem dX10_as_2 : decode cX10_as 2 = .ok (.invokevirtual 186, 3) := by decide +kernel
theorem dX10_as_5 : decode cX10_as 5 = .ok (.ifCond .eq 9, 3) := by decide +kernel
theorem dX10_as_8 : decode cX10_as 8 = .ok (.aload_n 0, 1) := by decide +kernel
theorem dX10_as_9 : decode cX10_as 9 = .ok (.iconst (-1), 1) := by decide +kernel
theorem dX10_as_10 : decode cX10_as 10 = .ok (.invokevirtual 215, 3) := by decide +kernel
theorem dX10_as_13 : decode cX10_as 13 = .ok (.ireturn, 1) := by decide +kernel
theorem dX10_as_14 : decode cX10_as 14 = .ok (.iload_n 2, 1) := by decide +kernel
theorem dX10_as_15 : decode cX10_as 15 = .ok (.i2l, 1) := by decide +kernel
theorem dX10_as_16 : decode cX10_as 16 = .ok (.lconst 0, 1) := by decide +kernel
theorem dX10_as_17 : decode cX10_as 17 = .ok (.ldc2_w 162, 3) := by decide +kernel
theorem dX10_as_20 : decode cX10_as 20 = .ok (.invokestatic 156, 3) := by decide +kernel
theorem dX10_as_23 : decode cX10_as 23 = .ok (.ifCond .ne 10, 3) := by decide +kernel
theorem dX10_as_26 : decode cX10_as 26 = .ok (.aload_n 0, 1) := by decide +kernel
theorem dX10_as_27 : decode cX10_as 27 = .ok (.bipush (-2), 2) := by decide +kernel
theorem dX10_as_29 : decode cX10_as 29 = .ok (.invokevirtual 215, 3) := by decide +kernel
theorem dX10_as_32 : decode cX10_as 32 = .ok (.ireturn, 1) := by decide +kernel
theorem dX10_as_33 : decode cX10_as 33 = .ok (.aload_n 0, 1) := by decide +kernel
theorem dX10_as_34 : decode cX10_as 34 = .ok (.getfield 7, 3) := by decide +kernel
theorem dX10_as_37 : decode cX10_as 37 = .ok (.iload_n 1, 1) := by decide +kernel
theorem dX10_as_38 : decode cX10_as 38 = .ok (.iaload, 1) := by decide +kernel
theorem dX10_as_39 : decode cX10_as 39 = .ok (.iload_n 2, 1) := by decide +kernel
theorem dX10_as_40 : decode cX10_as 40 = .ok (.if_icmp .lt 11, 3) := by decide +kernel
theorem dX10_as_43 : decode cX10_as 43 = .ok (.aload_n 0, 1) := by decide +kernel
theorem dX10_as_44 : decode cX10_as 44 = .ok (.iconst 1, 1) := by decide +kernel
theorem dX10_as_45 : decode cX10_as 45 = .ok (.invokevirtual 215, 3) := by decide +kernel
theorem dX10_as_48 : decode cX10_as 48 = .ok (.goto 8, 3) := by decide +kernel
theorem dX10_as_51 : decode cX10_as 51 = .ok (.aload_n 0, 1) := by decide +kernel
theorem dX10_as_52 : decode cX10_as 52 = .ok (.iconst 2, 1) := by decide +kernel
theorem dX10_as_53 : decode cX10_as 53 = .ok (.invokevirtual 218, 3) := by decide +kernel
theorem dX10_as_56 : decode cX10_as 56 = .ok (.ireturn, 1) := by decide +kernel
theorem dX10_trace_0 : decode cX10_trace 0 = .ok (.aload_n 0, 1) := by decide +kernel
theorem dX10_trace_1 : decode cX10_trace 1 = .ok (.getfield 418, 3) := by decide +kernel
theorem dX10_trace_4 : decode cX10_trace 4 = .ok (.ireturn, 1) := by decide +kernel
theorem dX10_fault_0 : decode cX10_fault 0 = .ok (.aload_n 0, 1) := by decide +kernel
theorem dX10_fault_1 : decode cX10_fault 1 = .ok (.getfield 146, 3) := by decide +kernel
theorem dX10_fault_4 : decode cX10_fault 4 = .ok (.ireturn, 1) := by decide +kernel
theorem dX10_many_0 : decode cX10_many 0 = .ok (.aload_n 0, 1) := by decide +kernel
theorem dX10_many_1 : decode cX10_many 1 = .ok (.invokevirtual 237, 3) := by decide +kernel
theorem dX10_many_4 : decode cX10_many 4 = .ok (.iconst 0, 1) := by decide +kernel
theorem dX10_many_5 : decode cX10_many 5 = .ok (.istore_n 2, 1) := by decide +kernel
theorem dX10_many_6 : decode cX10_many 6 = .ok (.iload_n 1, 1) := by decide +kernel
theorem dX10_many_7 : decode cX10_many 7 = .ok (.tableswitch 125 0 8 #[49, 54, 59, 64, 71, 78, 83, 88, 93], 49) := by decide +kernel
theorem dX10_many_56 : decode cX10_many 56 = .ok (.aload_n 0, 1) := by decide +kernel
theorem dX10_many_57 : decode cX10_many 57 = .ok (.getfield 153, 3) := by decide +kernel
theorem dX10_many_60 : decode cX10_many 60 = .ok (.ireturn, 1) := by decide +kernel
theorem dX10_many_61 : decode cX10_many 61 = .ok (.aload_n 0, 1) := by decide +kernel
theorem dX10_many_62 : decode cX10_many 62 = .ok (.getfield 201, 3) := by decide +kernel
theorem dX10_many_65 : decode cX10_many 65 = .ok (.ireturn, 1) := by decide +kernel
theorem dX10_many_66 : decode cX10_many 66 = .ok (.aload_n 0, 1) := by decide +kernel
theorem dX10_many_67 : decode cX10_many 67 = .ok (.getfield 272, 3) := by decide +kernel
theorem dX10_many_70 : decode cX10_many 70 = .ok (.ireturn, 1) := by decide +kernel
theorem dX10_many_71 : decode cX10_many 71 = .ok (.aload_n 0, 1) := by decide +kernel
theorem dX10_many_72 : decode cX10_many 72 = .ok (.getfield 68, 3) := by decide +kernel
theorem dX10_many_75 : decode cX10_many 75 = .ok (.iconst 0, 1) := by decide +kernel
theorem dX10_many_76 : decode cX10_many 76 = .ok (.iaload, 1) := by decide +kernel
theorem dX10_many_77 : decode cX10_many 77 = .ok (.ireturn, 1) := by decide +kernel
theorem dX10_many_78 : decode cX10_many 78 = .ok (.aload_n 0, 1) := by decide +kernel
theorem dX10_many_79 : decode cX10_many 79 = .ok (.getfield 68, 3) := by decide +kernel
theorem dX10_many_82 : decode cX10_many 82 = .ok (.iconst 1, 1) := by decide +kernel
theorem dX10_many_83 : decode cX10_many 83 = .ok (.iaload, 1) := by decide +kernel
theorem dX10_many_84 : decode cX10_many 84 = .ok (.ireturn, 1) := by decide +kernel
theorem dX10_many_85 : decode cX10_many 85 = .ok (.aload_n 0, 1) := by decide +kernel
theorem dX10_many_86 : decode cX10_many 86 = .ok (.getfield 399, 3) := by decide +kernel
theorem dX10_many_89 : decode cX10_many 89 = .ok (.ireturn, 1) := by decide +kernel
theorem dX10_many_90 : decode cX10_many 90 = .ok (.aload_n 0, 1) := by decide +kernel
theorem dX10_many_91 : decode cX10_many 91 = .ok (.getfield 242, 3) := by decide +kernel
theorem dX10_many_94 : decode cX10_many 94 = .ok (.ireturn, 1) := by decide +kernel
theorem dX10_many_95 : decode cX10_many 95 = .ok (.aload_n 0, 1) := by decide +kernel
theorem dX10_many_96 : decode cX10_many 96 = .ok (.getfield 137, 3) := by decide +kernel
theorem dX10_many_99 : decode cX10_many 99 = .ok (.ireturn, 1) := by decide +kernel
theorem dX10_many_100 : decode cX10_many 100 = .ok (.iconst 0, 1) := by decide +kernel
theorem dX10_many_101 : decode cX10_many 101 = .ok (.istore_n 3, 1) := by decide +kernel
theorem dX10_many_102 : decode cX10_many 102 = .ok (.iload_n 3, 1) := by decide +kernel
theorem dX10_many_103 : decode cX10_many 103 = .ok (.iconst 4, 1) := by decide +kernel
theorem dX10_many_104 : decode cX10_many 104 = .ok (.if_icmp .ge 26, 3) := by decide +kernel
theorem dX10_many_107 : decode cX10_many 107 = .ok (.iload_n 2, 1) := by decide +kernel
theorem dX10_many_108 : decode cX10_many 108 = .ok (.aload_n 0, 1) := by decide +kernel
theorem dX10_many_109 : decode cX10_many 109 = .ok (.getfield 98, 3) := by decide +kernel
theorem dX10_many_112 : decode cX10_many 112 = .ok (.iload_n 3, 1) := by decide +kernel
theorem dX10_many_113 : decode cX10_many 113 = .ok (.baload, 1) := by decide +kernel
theorem dX10_many_114 : decode cX10_many 114 = .ok (.ifCond .eq 7, 3) := by decide +kernel
theorem dX10_many_117 : decode cX10_many 117 = .ok (.iconst 1, 1) := by decide +kernel
theorem dX10_many_118 : decode cX10_many 118 = .ok (.goto 4, 3) := by decide +kernel
theorem dX10_many_121 : decode cX10_many 121 = .ok (.iconst 0, 1) := by decide +kernel
theorem dX10_many_122 : decode cX10_many 122 = .ok (.iadd, 1) := by decide +kernel
theorem dX10_many_123 : decode cX10_many 123 = .ok (.istore_n 2, 1) := by decide +kernel
theorem dX10_many_124 : decode cX10_many 124 = .ok (.iinc 3 1, 3) := by decide +kernel
theorem dX10_many_127 : decode cX10_many 127 = .ok (.goto (-25), 3) := by decide +kernel
theorem dX10_many_130 : decode cX10_many 130 = .ok (.iload_n 2, 1) := by decide +kernel
theorem dX10_many_131 : decode cX10_many 131 = .ok (.ireturn, 1) := by decide +kernel
theorem dX10_many_132 : decode cX10_many 132 = .ok (.bipush (-2), 2) := by decide +kernel
theorem dX10_many_134 : decode cX10_many 134 = .ok (.ireturn, 1) := by decide +kernel
theorem dJ6_bitCount_0f7a4_0 : decode cJ6_bitCount_0f7a4 0 = .ok (.iload_n 0, 1) := by decide +kernel
theorem dJ6_bitCount_0f7a4_1 : decode cJ6_bitCount_0f7a4 1 = .ok (.iload_n 0, 1) := by decide +kernel
theorem dJ6_bitCount_0f7a4_2 : decode cJ6_bitCount_0f7a4 2 = .ok (.iconst 1, 1) := by decide +kernel
theorem dJ6_bitCount_0f7a4_3 : decode cJ6_bitCount_0f7a4 3 = .ok (.iushr, 1) := by decide +kernel
theorem dJ6_bitCount_0f7a4_4 : decode cJ6_bitCount_0f7a4 4 = .ok (.ldc_w 265, 3) := by decide +kernel
theorem dJ6_bitCount_0f7a4_7 : decode cJ6_bitCount_0f7a4 7 = .ok (.iand, 1) := by decide +kernel
theorem dJ6_bitCount_0f7a4_8 : decode cJ6_bitCount_0f7a4 8 = .ok (.isub, 1) := by decide +kernel
theorem dJ6_bitCount_0f7a4_9 : decode cJ6_bitCount_0f7a4 9 = .ok (.istore_n 0, 1) := by decide +kernel
theorem dJ6_bitCount_0f7a4_10 : decode cJ6_bitCount_0f7a4 10 = .ok (.iload_n 0, 1) := by decide +kernel
theorem dJ6_bitCount_0f7a4_11 : decode cJ6_bitCount_0f7a4 11 = .ok (.ldc_w 266, 3) := by decide +kernel
theorem dJ6_bitCount_0f7a4_14 : decode cJ6_bitCount_0f7a4 14 = .ok (.iand, 1) := by decide +kernel
theorem dJ6_bitCount_0f7a4_15 : decode cJ6_bitCount_0f7a4 15 = .ok (.iload_n 0, 1) := by decide +kernel
theorem dJ6_bitCount_0f7a4_16 : decode cJ6_bitCount_0f7a4 16 = .ok (.iconst 2, 1) := by decide +kernel
theorem dJ6_bitCount_0f7a4_17 : decode cJ6_bitCount_0f7a4 17 = .ok (.iushr, 1) := by decide +kernel
theorem dJ6_bitCount_0f7a4_18 : decode cJ6_bitCount_0f7a4 18 = .ok (.ldc_w 266, 3) := by decide +kernel
theorem dJ6_bitCount_0f7a4_21 : decode cJ6_bitCount_0f7a4 21 = .ok (.iand, 1) := by decide +kernel
theorem dJ6_bitCount_0f7a4_22 : decode cJ6_bitCount_0f7a4 22 = .ok (.iadd, 1) := by decide +kernel
theorem dJ6_bitCount_0f7a4_23 : decode cJ6_bitCount_0f7a4 23 = .ok (.istore_n 0, 1) := by decide +kernel
theorem dJ6_bitCount_0f7a4_24 : decode cJ6_bitCount_0f7a4 24 = .ok (.iload_n 0, 1) := by decide +kernel
theorem dJ6_bitCount_0f7a4_25 : decode cJ6_bitCount_0f7a4 25 = .ok (.iload_n 0, 1) := by decide +kernel
theorem dJ6_bitCount_0f7a4_26 : decode cJ6_bitCount_0f7a4 26 = .ok (.iconst 4, 1) := by decide +kernel
theorem dJ6_bitCount_0f7a4_27 : decode cJ6_bitCount_0f7a4 27 = .ok (.iushr, 1) := by decide +kernel
theorem dJ6_bitCount_0f7a4_28 : decode cJ6_bitCount_0f7a4 28 = .ok (.iadd, 1) := by decide +kernel
theorem dJ6_bitCount_0f7a4_29 : decode cJ6_bitCount_0f7a4 29 = .ok (.ldc_w 267, 3) := by decide +kernel
theorem dJ6_bitCount_0f7a4_32 : decode cJ6_bitCount_0f7a4 32 = .ok (.iand, 1) := by decide +kernel
theorem dJ6_bitCount_0f7a4_33 : decode cJ6_bitCount_0f7a4 33 = .ok (.istore_n 0, 1) := by decide +kernel
theorem dJ6_bitCount_0f7a4_34 : decode cJ6_bitCount_0f7a4 34 = .ok (.iload_n 0, 1) := by decide +kernel
theorem dJ6_bitCount_0f7a4_35 : decode cJ6_bitCount_0f7a4 35 = .ok (.iload_n 0, 1) := by decide +kernel
theorem dJ6_bitCount_0f7a4_36 : decode cJ6_bitCount_0f7a4 36 = .ok (.bipush 8, 2) := by decide +kernel
theorem dJ6_bitCount_0f7a4_38 : decode cJ6_bitCount_0f7a4 38 = .ok (.iushr, 1) := by decide +kernel
theorem dJ6_bitCount_0f7a4_39 : decode cJ6_bitCount_0f7a4 39 = .ok (.iadd, 1) := by decide +kernel
theorem dJ6_bitCount_0f7a4_40 : decode cJ6_bitCount_0f7a4 40 = .ok (.istore_n 0, 1) := by decide +kernel
theorem dJ6_bitCount_0f7a4_41 : decode cJ6_bitCount_0f7a4 41 = .ok (.iload_n 0, 1) := by decide +kernel
theorem dJ6_bitCount_0f7a4_42 : decode cJ6_bitCount_0f7a4 42 = .ok (.iload_n 0, 1) := by decide +kernel
theorem dJ6_bitCount_0f7a4_43 : decode cJ6_bitCount_0f7a4 43 = .ok (.bipush 16, 2) := by decide +kernel
theorem dJ6_bitCount_0f7a4_45 : decode cJ6_bitCount_0f7a4 45 = .ok (.iushr, 1) := by decide +kernel
theorem dJ6_bitCount_0f7a4_46 : decode cJ6_bitCount_0f7a4 46 = .ok (.iadd, 1) := by decide +kernel
theorem dJ6_bitCount_0f7a4_47 : decode cJ6_bitCount_0f7a4 47 = .ok (.istore_n 0, 1) := by decide +kernel
theorem dJ6_bitCount_0f7a4_48 : decode cJ6_bitCount_0f7a4 48 = .ok (.iload_n 0, 1) := by decide +kernel
theorem dJ6_bitCount_0f7a4_49 : decode cJ6_bitCount_0f7a4 49 = .ok (.bipush 63, 2) := by decide +kernel
theorem dJ6_bitCount_0f7a4_51 : decode cJ6_bitCount_0f7a4 51 = .ok (.iand, 1) := by decide +kernel
theorem dJ6_bitCount_0f7a4_52 : decode cJ6_bitCount_0f7a4 52 = .ok (.ireturn, 1) := by decide +kernel
theorem dJ9_floorDiv_7cf53_0 : decode cJ9_floorDiv_7cf53 0 = .ok (.iload_n 0, 1) := by decide +kernel
theorem dJ9_floorDiv_7cf53_1 : decode cJ9_floorDiv_7cf53 1 = .ok (.iload_n 1, 1) := by decide +kernel
theorem dJ9_floorDiv_7cf53_2 : decode cJ9_floorDiv_7cf53 2 = .ok (.idiv, 1) := by decide +kernel
theorem dJ9_floorDiv_7cf53_3 : decode cJ9_floorDiv_7cf53 3 = .ok (.istore_n 2, 1) := by decide +kernel
theorem dJ9_floorDiv_7cf53_4 : decode cJ9_floorDiv_7cf53 4 = .ok (.iload_n 0, 1) := by decide +kernel
theorem dJ9_floorDiv_7cf53_5 : decode cJ9_floorDiv_7cf53 5 = .ok (.iload_n 1, 1) := by decide +kernel
theorem dJ9_floorDiv_7cf53_6 : decode cJ9_floorDiv_7cf53 6 = .ok (.ixor, 1) := by decide +kernel
theorem dJ9_floorDiv_7cf53_7 : decode cJ9_floorDiv_7cf53 7 = .ok (.ifCond .ge 14, 3) := by decide +kernel
theorem dJ9_floorDiv_7cf53_10 : decode cJ9_floorDiv_7cf53 10 = .ok (.iload_n 2, 1) := by decide +kernel
theorem dJ9_floorDiv_7cf53_11 : decode cJ9_floorDiv_7cf53 11 = .ok (.iload_n 1, 1) := by decide +kernel
theorem dJ9_floorDiv_7cf53_12 : decode cJ9_floorDiv_7cf53 12 = .ok (.imul, 1) := by decide +kernel
theorem dJ9_floorDiv_7cf53_13 : decode cJ9_floorDiv_7cf53 13 = .ok (.iload_n 0, 1) := by decide +kernel
theorem dJ9_floorDiv_7cf53_14 : decode cJ9_floorDiv_7cf53 14 = .ok (.if_icmp .eq 7, 3) := by decide +kernel
theorem dJ9_floorDiv_7cf53_17 : decode cJ9_floorDiv_7cf53 17 = .ok (.iload_n 2, 1) := by decide +kernel
theorem dJ9_floorDiv_7cf53_18 : decode cJ9_floorDiv_7cf53 18 = .ok (.iconst 1, 1) := by decide +kernel
theorem dJ9_floorDiv_7cf53_19 : decode cJ9_floorDiv_7cf53 19 = .ok (.isub, 1) := by decide +kernel
theorem dJ9_floorDiv_7cf53_20 : decode cJ9_floorDiv_7cf53 20 = .ok (.ireturn, 1) := by decide +kernel
theorem dJ9_floorDiv_7cf53_21 : decode cJ9_floorDiv_7cf53 21 = .ok (.iload_n 2, 1) := by decide +kernel
theorem dJ9_floorDiv_7cf53_22 : decode cJ9_floorDiv_7cf53 22 = .ok (.ireturn, 1) := by decide +kernel
theorem dJ9_floorMod_7cf53_0 : decode cJ9_floorMod_7cf53 0 = .ok (.iload_n 0, 1) := by decide +kernel
theorem dJ9_floorMod_7cf53_1 : decode cJ9_floorMod_7cf53 1 = .ok (.iload_n 1, 1) := by decide +kernel
theorem dJ9_floorMod_7cf53_2 : decode cJ9_floorMod_7cf53 2 = .ok (.irem, 1) := by decide +kernel
theorem dJ9_floorMod_7cf53_3 : decode cJ9_floorMod_7cf53 3 = .ok (.istore_n 2, 1) := by decide +kernel
theorem dJ9_floorMod_7cf53_4 : decode cJ9_floorMod_7cf53 4 = .ok (.iload_n 0, 1) := by decide +kernel
theorem dJ9_floorMod_7cf53_5 : decode cJ9_floorMod_7cf53 5 = .ok (.iload_n 1, 1) := by decide +kernel
theorem dJ9_floorMod_7cf53_6 : decode cJ9_floorMod_7cf53 6 = .ok (.ixor, 1) := by decide +kernel
theorem dJ9_floorMod_7cf53_7 : decode cJ9_floorMod_7cf53 7 = .ok (.ifCond .ge 11, 3) := by decide +kernel
theorem dJ9_floorMod_7cf53_10 : decode cJ9_floorMod_7cf53 10 = .ok (.iload_n 2, 1) := by decide +kernel
theorem dJ9_floorMod_7cf53_11 : decode cJ9_floorMod_7cf53 11 = .ok (.ifCond .eq 7, 3) := by decide +kernel
theorem dJ9_floorMod_7cf53_14 : decode cJ9_floorMod_7cf53 14 = .ok (.iload_n 2, 1) := by decide +kernel
theorem dJ9_floorMod_7cf53_15 : decode cJ9_floorMod_7cf53 15 = .ok (.iload_n 1, 1) := by decide +kernel
theorem dJ9_floorMod_7cf53_16 : decode cJ9_floorMod_7cf53 16 = .ok (.iadd, 1) := by decide +kernel
theorem dJ9_floorMod_7cf53_17 : decode cJ9_floorMod_7cf53 17 = .ok (.ireturn, 1) := by decide +kernel
theorem dJ9_floorMod_7cf53_18 : decode cJ9_floorMod_7cf53 18 = .ok (.iload_n 2, 1) := by decide +kernel
theorem dJ9_floorMod_7cf53_19 : decode cJ9_floorMod_7cf53 19 = .ok (.ireturn, 1) := by decide +kernel
theorem dJ9_abs_0f7a4_0 : decode cJ9_abs_0f7a4 0 = .ok (.iload_n 0, 1) := by decide +kernel
theorem dJ9_abs_0f7a4_1 : decode cJ9_abs_0f7a4 1 = .ok (.ifCond .ge 8, 3) := by decide +kernel
theorem dJ9_abs_0f7a4_4 : decode cJ9_abs_0f7a4 4 = .ok (.iload_n 0, 1) := by decide +kernel
theorem dJ9_abs_0f7a4_5 : decode cJ9_abs_0f7a4 5 = .ok (.ineg, 1) := by decide +kernel
theorem dJ9_abs_0f7a4_6 : decode cJ9_abs_0f7a4 6 = .ok (.goto 4, 3) := by decide +kernel
theorem dJ9_abs_0f7a4_9 : decode cJ9_abs_0f7a4 9 = .ok (.iload_n 0, 1) := by decide +kernel
theorem dJ9_abs_0f7a4_10 : decode cJ9_abs_0f7a4 10 = .ok (.ireturn, 1) := by decide +kernel
theorem dJ9_max_7cf53_0 : decode cJ9_max_7cf53 0 = .ok (.iload_n 0, 1) := by decide +kernel
theorem dJ9_max_7cf53_1 : decode cJ9_max_7cf53 1 = .ok (.iload_n 1, 1) := by decide +kernel
theorem dJ9_max_7cf53_2 : decode cJ9_max_7cf53 2 = .ok (.if_icmp .lt 7, 3) := by decide +kernel
theorem dJ9_max_7cf53_5 : decode cJ9_max_7cf53 5 = .ok (.iload_n 0, 1) := by decide +kernel
theorem dJ9_max_7cf53_6 : decode cJ9_max_7cf53 6 = .ok (.goto 4, 3) := by decide +kernel
theorem dJ9_max_7cf53_9 : decode cJ9_max_7cf53 9 = .ok (.iload_n 1, 1) := by decide +kernel
theorem dJ9_max_7cf53_10 : decode cJ9_max_7cf53 10 = .ok (.ireturn, 1) := by decide +kernel
theorem dJ9_min_7cf53_0 : decode cJ9_min_7cf53 0 = .ok (.iload_n 0, 1) := by decide +kernel
theorem dJ9_min_7cf53_1 : decode cJ9_min_7cf53 1 = .ok (.iload_n 1, 1) := by decide +kernel
theorem dJ9_min_7cf53_2 : decode cJ9_min_7cf53 2 = .ok (.if_icmp .gt 7, 3) := by decide +kernel
theorem dJ9_min_7cf53_5 : decode cJ9_min_7cf53 5 = .ok (.iload_n 0, 1) := by decide +kernel
theorem dJ9_min_7cf53_6 : decode cJ9_min_7cf53 6 = .ok (.goto 4, 3) := by decide +kernel
theorem dJ9_min_7cf53_9 : decode cJ9_min_7cf53 9 = .ok (.iload_n 1, 1) := by decide +kernel
theorem dJ9_min_7cf53_10 : decode cJ9_min_7cf53 10 = .ok (.ireturn, 1) := by decide +kernel
theorem dJxa1e45_init_da8c8_0 : decode cJxa1e45_init_da8c8 0 = .ok (.aload_n 0, 1) := by decide +kernel
theorem dJxa1e45_init_da8c8_1 : decode cJxa1e45_init_da8c8 1 = .ok (.invokespecial 1, 3) := by decide +kernel
theorem dJxa1e45_init_da8c8_4 : decode cJxa1e45_init_da8c8 4 = .ok (.return_, 1) := by decide +kernel
theorem dJxc12de_init_da8c8_0 : decode cJxc12de_init_da8c8 0 = .ok (.aload_n 0, 1) := by decide +kernel
theorem dJxc12de_init_da8c8_1 : decode cJxc12de_init_da8c8 1 = .ok (.invokespecial 1, 3) := by decide +kernel
theorem dJxc12de_init_da8c8_4 : decode cJxc12de_init_da8c8 4 = .ok (.aload_n 0, 1) := by decide +kernel
theorem dJxc12de_init_da8c8_5 : decode cJxc12de_init_da8c8 5 = .ok (.iconst 0, 1) := by decide +kernel
theorem dJxc12de_init_da8c8_6 : decode cJxc12de_init_da8c8 6 = .ok (.putfield 7, 3) := by decide +kernel
theorem dJxc12de_init_da8c8_9 : decode cJxc12de_init_da8c8 9 = .ok (.return_, 1) := by decide +kernel
theorem dJx4a65c_init_da8c8_0 : decode cJx4a65c_init_da8c8 0 = .ok (.aload_n 0, 1) := by decide +kernel
theorem dJx4a65c_init_da8c8_1 : decode cJx4a65c_init_da8c8 1 = .ok (.invokespecial 1, 3) := by decide +kernel
theorem dJx4a65c_init_da8c8_4 : decode cJx4a65c_init_da8c8 4 = .ok (.aload_n 0, 1) := by decide +kernel
theorem dJx4a65c_init_da8c8_5 : decode cJx4a65c_init_da8c8 5 = .ok (.getstatic 39, 3) := by decide +kernel
theorem dJx4a65c_init_da8c8_8 : decode cJx4a65c_init_da8c8 8 = .ok (.putfield 9, 3) := by decide +kernel
theorem dJx4a65c_init_da8c8_11 : decode cJx4a65c_init_da8c8 11 = .ok (.return_, 1) := by decide +kernel
theorem dJx4a65c_grow_92f84_0 : decode cJx4a65c_grow_92f84 0 = .ok (.aload_n 0, 1) := by decide +kernel
theorem dJx4a65c_grow_92f84_1 : decode cJx4a65c_grow_92f84 1 = .ok (.getfield 9, 3) := by decide +kernel
theorem dJx4a65c_grow_92f84_4 : decode cJx4a65c_grow_92f84 4 = .ok (.arraylength, 1) := by decide +kernel
theorem dJx4a65c_grow_92f84_5 : decode cJx4a65c_grow_92f84 5 = .ok (.istore_n 2, 1) := by decide +kernel
theorem dJx4a65c_grow_92f84_6 : decode cJx4a65c_grow_92f84 6 = .ok (.iload_n 2, 1) := by decide +kernel
theorem dJx4a65c_grow_92f84_7 : decode cJx4a65c_grow_92f84 7 = .ok (.ifCond .gt 13, 3) := by decide +kernel
theorem dJx4a65c_grow_92f84_10 : decode cJx4a65c_grow_92f84 10 = .ok (.aload_n 0, 1) := by decide +kernel
theorem dJx4a65c_grow_92f84_11 : decode cJx4a65c_grow_92f84 11 = .ok (.getfield 9, 3) := by decide +kernel
theorem dJx4a65c_grow_92f84_14 : decode cJx4a65c_grow_92f84 14 = .ok (.getstatic 39, 3) := by decide +kernel
theorem dJx4a65c_grow_92f84_17 : decode cJx4a65c_grow_92f84 17 = .ok (.if_acmp .eq 28, 3) := by decide +kernel
theorem dJx4a65c_grow_92f84_20 : decode cJx4a65c_grow_92f84 20 = .ok (.iload_n 2, 1) := by decide +kernel
theorem dJx4a65c_grow_92f84_21 : decode cJx4a65c_grow_92f84 21 = .ok (.iload_n 1, 1) := by decide +kernel
theorem dJx4a65c_grow_92f84_22 : decode cJx4a65c_grow_92f84 22 = .ok (.iload_n 2, 1) := by decide +kernel
theorem dJx4a65c_grow_92f84_23 : decode cJx4a65c_grow_92f84 23 = .ok (.isub, 1) := by decide +kernel
theorem dJx4a65c_grow_92f84_24 : decode cJx4a65c_grow_92f84 24 = .ok (.iload_n 2, 1) := by decide +kernel
theorem dJx4a65c_grow_92f84_25 : decode cJx4a65c_grow_92f84 25 = .ok (.iconst 1, 1) := by decide +kernel
theorem dJx4a65c_grow_92f84_26 : decode cJx4a65c_grow_92f84 26 = .ok (.ishr, 1) := by decide +kernel
theorem dJx4a65c_grow_92f84_27 : decode cJx4a65c_grow_92f84 27 = .ok (.invokestatic 73, 3) := by decide +kernel
theorem dJx4a65c_grow_92f84_30 : decode cJx4a65c_grow_92f84 30 = .ok (.istore_n 3, 1) := by decide +kernel
theorem dJx4a65c_grow_92f84_31 : decode cJx4a65c_grow_92f84 31 = .ok (.aload_n 0, 1) := by decide +kernel
theorem dJx4a65c_grow_92f84_32 : decode cJx4a65c_grow_92f84 32 = .ok (.aload_n 0, 1) := by decide +kernel
theorem dJx4a65c_grow_92f84_33 : decode cJx4a65c_grow_92f84 33 = .ok (.getfield 9, 3) := by decide +kernel
theorem dJx4a65c_grow_92f84_36 : decode cJx4a65c_grow_92f84 36 = .ok (.iload_n 3, 1) := by decide +kernel
theorem dJx4a65c_grow_92f84_37 : decode cJx4a65c_grow_92f84 37 = .ok (.invokestatic 66, 3) := by decide +kernel
theorem dJx4a65c_grow_92f84_40 : decode cJx4a65c_grow_92f84 40 = .ok (.dup_x1, 1) := by decide +kernel
theorem dJx4a65c_grow_92f84_41 : decode cJx4a65c_grow_92f84 41 = .ok (.putfield 9, 3) := by decide +kernel
theorem dJx4a65c_grow_92f84_44 : decode cJx4a65c_grow_92f84 44 = .ok (.areturn, 1) := by decide +kernel
theorem dJx4a65c_grow_92f84_45 : decode cJx4a65c_grow_92f84 45 = .ok (.aload_n 0, 1) := by decide +kernel
theorem dJx4a65c_grow_92f84_46 : decode cJx4a65c_grow_92f84 46 = .ok (.bipush 10, 2) := by decide +kernel
theorem dJx4a65c_grow_92f84_48 : decode cJx4a65c_grow_92f84 48 = .ok (.iload_n 1, 1) := by decide +kernel
theorem dJx4a65c_grow_92f84_49 : decode cJx4a65c_grow_92f84 49 = .ok (.invokestatic 79, 3) := by decide +kernel
theorem dJx4a65c_grow_92f84_52 : decode cJx4a65c_grow_92f84 52 = .ok (.anewarray 7, 3) := by decide +kernel
theorem dJx4a65c_grow_92f84_55 : decode cJx4a65c_grow_92f84 55 = .ok (.dup_x1, 1) := by decide +kernel
theorem dJx4a65c_grow_92f84_56 : decode cJx4a65c_grow_92f84 56 = .ok (.putfield 9, 3) := by decide +kernel
theorem dJx4a65c_grow_92f84_59 : decode cJx4a65c_grow_92f84 59 = .ok (.areturn, 1) := by decide +kernel
theorem dJx4a65c_grow_d5877_0 : decode cJx4a65c_grow_d5877 0 = .ok (.aload_n 0, 1) := by decide +kernel
theorem dJx4a65c_grow_d5877_1 : decode cJx4a65c_grow_d5877 1 = .ok (.aload_n 0, 1) := by decide +kernel
theorem dJx4a65c_grow_d5877_2 : decode cJx4a65c_grow_d5877 2 = .ok (.getfield 48, 3) := by decide +kernel
theorem dJx4a65c_grow_d5877_5 : decode cJx4a65c_grow_d5877 5 = .ok (.iconst 1, 1) := by decide +kernel
theorem dJx4a65c_grow_d5877_6 : decode cJx4a65c_grow_d5877 6 = .ok (.iadd, 1) := by decide +kernel
theorem dJx4a65c_grow_d5877_7 : decode cJx4a65c_grow_d5877 7 = .ok (.invokevirtual 69, 3) := by decide +kernel
theorem dJx4a65c_grow_d5877_10 : decode cJx4a65c_grow_d5877 10 = .ok (.areturn, 1) := by decide +kernel
theorem dJx4a65c_size_8abf5_0 : decode cJx4a65c_size_8abf5 0 = .ok (.aload_n 0, 1) := by decide +kernel
theorem dJx4a65c_size_8abf5_1 : decode cJx4a65c_size_8abf5 1 = .ok (.getfield 48, 3) := by decide +kernel
theorem dJx4a65c_size_8abf5_4 : decode cJx4a65c_size_8abf5 4 = .ok (.ireturn, 1) := by decide +kernel
theorem dJx4a65c_elementData_915e3_0 : decode cJx4a65c_elementData_915e3 0 = .ok (.aload_n 0, 1) := by decide +kernel
theorem dJx4a65c_elementData_915e3_1 : decode cJx4a65c_elementData_915e3 1 = .ok (.getfield 9, 3) := by decide +kernel
theorem dJx4a65c_elementData_915e3_4 : decode cJx4a65c_elementData_915e3 4 = .ok (.iload_n 1, 1) := by decide +kernel
theorem dJx4a65c_elementData_915e3_5 : decode cJx4a65c_elementData_915e3 5 = .ok (.aaload, 1) := by decide +kernel
theorem dJx4a65c_elementData_915e3_6 : decode cJx4a65c_elementData_915e3 6 = .ok (.areturn, 1) := by decide +kernel
theorem dJx4a65c_get_915e3_0 : decode cJx4a65c_get_915e3 0 = .ok (.iload_n 1, 1) := by decide +kernel
theorem dJx4a65c_get_915e3_1 : decode cJx4a65c_get_915e3 1 = .ok (.aload_n 0, 1) := by decide +kernel
theorem dJx4a65c_get_915e3_2 : decode cJx4a65c_get_915e3 2 = .ok (.getfield 48, 3) := by decide +kernel
theorem dJx4a65c_get_915e3_5 : decode cJx4a65c_get_915e3 5 = .ok (.invokestatic 118, 3) := by decide +kernel
theorem dJx4a65c_get_915e3_8 : decode cJx4a65c_get_915e3 8 = .ok (.pop, 1) := by decide +kernel
theorem dJx4a65c_get_915e3_9 : decode cJx4a65c_get_915e3 9 = .ok (.aload_n 0, 1) := by decide +kernel
theorem dJx4a65c_get_915e3_10 : decode cJx4a65c_get_915e3 10 = .ok (.iload_n 1, 1) := by decide +kernel
theorem dJx4a65c_get_915e3_11 : decode cJx4a65c_get_915e3 11 = .ok (.invokevirtual 123, 3) := by decide +kernel
theorem dJx4a65c_get_915e3_14 : decode cJx4a65c_get_915e3 14 = .ok (.areturn, 1) := by decide +kernel
theorem dJx4a65c_add_72be8_0 : decode cJx4a65c_add_72be8 0 = .ok (.iload_n 3, 1) := by decide +kernel
theorem dJx4a65c_add_72be8_1 : decode cJx4a65c_add_72be8 1 = .ok (.aload_n 2, 1) := by decide +kernel
theorem dJx4a65c_add_72be8_2 : decode cJx4a65c_add_72be8 2 = .ok (.arraylength, 1) := by decide +kernel
theorem dJx4a65c_add_72be8_3 : decode cJx4a65c_add_72be8 3 = .ok (.if_icmp .ne 8, 3) := by decide +kernel
theorem dJx4a65c_add_72be8_6 : decode cJx4a65c_add_72be8 6 = .ok (.aload_n 0, 1) := by decide +kernel
theorem dJx4a65c_add_72be8_7 : decode cJx4a65c_add_72be8 7 = .ok (.invokevirtual 129, 3) := by decide +kernel
theorem dJx4a65c_add_72be8_10 : decode cJx4a65c_add_72be8 10 = .ok (.astore_n 2, 1) := by decide +kernel
theorem dJx4a65c_add_72be8_11 : decode cJx4a65c_add_72be8 11 = .ok (.aload_n 2, 1) := by decide +kernel
theorem dJx4a65c_add_72be8_12 : decode cJx4a65c_add_72be8 12 = .ok (.iload_n 3, 1) := by decide +kernel
theorem dJx4a65c_add_72be8_13 : decode cJx4a65c_add_72be8 13 = .ok (.aload_n 1, 1) := by decide +kernel
theorem dJx4a65c_add_72be8_14 : decode cJx4a65c_add_72be8 14 = .ok (.aastore, 1) := by decide +kernel
theorem dJx4a65c_add_72be8_15 : decode cJx4a65c_add_72be8 15 = .ok (.aload_n 0, 1) := by decide +kernel
theorem dJx4a65c_add_72be8_16 : decode cJx4a65c_add_72be8 16 = .ok (.iload_n 3, 1) := by decide +kernel
theorem dJx4a65c_add_72be8_17 : decode cJx4a65c_add_72be8 17 = .ok (.iconst 1, 1) := by decide +kernel
theorem dJx4a65c_add_72be8_18 : decode cJx4a65c_add_72be8 18 = .ok (.iadd, 1) := by decide +kernel
theorem dJx4a65c_add_72be8_19 : decode cJx4a65c_add_72be8 19 = .ok (.putfield 48, 3) := by decide +kernel
theorem dJx4a65c_add_72be8_22 : decode cJx4a65c_add_72be8 22 = .ok (.return_, 1) := by decide +kernel
theorem dJx4a65c_add_9ea2d_0 : decode cJx4a65c_add_9ea2d 0 = .ok (.aload_n 0, 1) := by decide +kernel
theorem dJx4a65c_add_9ea2d_1 : decode cJx4a65c_add_9ea2d 1 = .ok (.dup, 1) := by decide +kernel
theorem dJx4a65c_add_9ea2d_2 : decode cJx4a65c_add_9ea2d 2 = .ok (.getfield 63, 3) := by decide +kernel
theorem dJx4a65c_add_9ea2d_5 : decode cJx4a65c_add_9ea2d 5 = .ok (.iconst 1, 1) := by decide +kernel
theorem dJx4a65c_add_9ea2d_6 : decode cJx4a65c_add_9ea2d 6 = .ok (.iadd, 1) := by decide +kernel
theorem dJx4a65c_add_9ea2d_7 : decode cJx4a65c_add_9ea2d 7 = .ok (.putfield 63, 3) := by decide +kernel
theorem dJx4a65c_add_9ea2d_10 : decode cJx4a65c_add_9ea2d 10 = .ok (.aload_n 0, 1) := by decide +kernel
theorem dJx4a65c_add_9ea2d_11 : decode cJx4a65c_add_9ea2d 11 = .ok (.aload_n 1, 1) := by decide +kernel
theorem dJx4a65c_add_9ea2d_12 : decode cJx4a65c_add_9ea2d 12 = .ok (.aload_n 0, 1) := by decide +kernel
theorem dJx4a65c_add_9ea2d_13 : decode cJx4a65c_add_9ea2d 13 = .ok (.getfield 9, 3) := by decide +kernel
theorem dJx4a65c_add_9ea2d_16 : decode cJx4a65c_add_9ea2d 16 = .ok (.aload_n 0, 1) := by decide +kernel
theorem dJx4a65c_add_9ea2d_17 : decode cJx4a65c_add_9ea2d 17 = .ok (.getfield 48, 3) := by decide +kernel
theorem dJx4a65c_add_9ea2d_20 : decode cJx4a65c_add_9ea2d 20 = .ok (.invokevirtual 131, 3) := by decide +kernel
theorem dJx4a65c_add_9ea2d_23 : decode cJx4a65c_add_9ea2d 23 = .ok (.iconst 1, 1) := by decide +kernel
theorem dJx4a65c_add_9ea2d_24 : decode cJx4a65c_add_9ea2d 24 = .ok (.ireturn, 1) := by decide +kernel
theorem dJx4a65c_clear_da8c8_0 : decode cJx4a65c_clear_da8c8 0 = .ok (.aload_n 0, 1) := by decide +kernel
theorem dJx4a65c_clear_da8c8_1 : decode cJx4a65c_clear_da8c8 1 = .ok (.dup, 1) := by decide +kernel
theorem dJx4a65c_clear_da8c8_2 : decode cJx4a65c_clear_da8c8 2 = .ok (.getfield 63, 3) := by decide +kernel
theorem dJx4a65c_clear_da8c8_5 : decode cJx4a65c_clear_da8c8 5 = .ok (.iconst 1, 1) := by decide +kernel
theorem dJx4a65c_clear_da8c8_6 : decode cJx4a65c_clear_da8c8 6 = .ok (.iadd, 1) := by decide +kernel
theorem dJx4a65c_clear_da8c8_7 : decode cJx4a65c_clear_da8c8 7 = .ok (.putfield 63, 3) := by decide +kernel
theorem dJx4a65c_clear_da8c8_10 : decode cJx4a65c_clear_da8c8 10 = .ok (.aload_n 0, 1) := by decide +kernel
theorem dJx4a65c_clear_da8c8_11 : decode cJx4a65c_clear_da8c8 11 = .ok (.getfield 9, 3) := by decide +kernel
theorem dJx4a65c_clear_da8c8_14 : decode cJx4a65c_clear_da8c8 14 = .ok (.astore_n 1, 1) := by decide +kernel
theorem dJx4a65c_clear_da8c8_15 : decode cJx4a65c_clear_da8c8 15 = .ok (.aload_n 0, 1) := by decide +kernel
theorem dJx4a65c_clear_da8c8_16 : decode cJx4a65c_clear_da8c8 16 = .ok (.getfield 48, 3) := by decide +kernel
theorem dJx4a65c_clear_da8c8_19 : decode cJx4a65c_clear_da8c8 19 = .ok (.istore_n 2, 1) := by decide +kernel
theorem dJx4a65c_clear_da8c8_20 : decode cJx4a65c_clear_da8c8 20 = .ok (.aload_n 0, 1) := by decide +kernel
theorem dJx4a65c_clear_da8c8_21 : decode cJx4a65c_clear_da8c8 21 = .ok (.iconst 0, 1) := by decide +kernel
theorem dJx4a65c_clear_da8c8_22 : decode cJx4a65c_clear_da8c8 22 = .ok (.dup_x1, 1) := by decide +kernel
theorem dJx4a65c_clear_da8c8_23 : decode cJx4a65c_clear_da8c8 23 = .ok (.putfield 48, 3) := by decide +kernel
theorem dJx4a65c_clear_da8c8_26 : decode cJx4a65c_clear_da8c8 26 = .ok (.istore_n 3, 1) := by decide +kernel
theorem dJx4a65c_clear_da8c8_27 : decode cJx4a65c_clear_da8c8 27 = .ok (.iload_n 3, 1) := by decide +kernel
theorem dJx4a65c_clear_da8c8_28 : decode cJx4a65c_clear_da8c8 28 = .ok (.iload_n 2, 1) := by decide +kernel
theorem dJx4a65c_clear_da8c8_29 : decode cJx4a65c_clear_da8c8 29 = .ok (.if_icmp .ge 13, 3) := by decide +kernel
theorem dJx4a65c_clear_da8c8_32 : decode cJx4a65c_clear_da8c8 32 = .ok (.aload_n 1, 1) := by decide +kernel
theorem dJx4a65c_clear_da8c8_33 : decode cJx4a65c_clear_da8c8 33 = .ok (.iload_n 3, 1) := by decide +kernel
theorem dJx4a65c_clear_da8c8_34 : decode cJx4a65c_clear_da8c8 34 = .ok (.aconst_null, 1) := by decide +kernel
theorem dJx4a65c_clear_da8c8_35 : decode cJx4a65c_clear_da8c8 35 = .ok (.aastore, 1) := by decide +kernel
theorem dJx4a65c_clear_da8c8_36 : decode cJx4a65c_clear_da8c8 36 = .ok (.iinc 3 1, 3) := by decide +kernel
theorem dJx4a65c_clear_da8c8_39 : decode cJx4a65c_clear_da8c8 39 = .ok (.goto (-12), 3) := by decide +kernel
theorem dJx4a65c_clear_da8c8_42 : decode cJx4a65c_clear_da8c8 42 = .ok (.return_, 1) := by decide +kernel
theorem dJ7_fill_53178_0 : decode cJ7_fill_53178 0 = .ok (.iconst 0, 1) := by decide +kernel
theorem dJ7_fill_53178_1 : decode cJ7_fill_53178 1 = .ok (.istore_n 2, 1) := by decide +kernel
theorem dJ7_fill_53178_2 : decode cJ7_fill_53178 2 = .ok (.aload_n 0, 1) := by decide +kernel
theorem dJ7_fill_53178_3 : decode cJ7_fill_53178 3 = .ok (.arraylength, 1) := by decide +kernel
theorem dJ7_fill_53178_4 : decode cJ7_fill_53178 4 = .ok (.istore_n 3, 1) := by decide +kernel
theorem dJ7_fill_53178_5 : decode cJ7_fill_53178 5 = .ok (.iload_n 2, 1) := by decide +kernel
theorem dJ7_fill_53178_6 : decode cJ7_fill_53178 6 = .ok (.iload_n 3, 1) := by decide +kernel
theorem dJ7_fill_53178_7 : decode cJ7_fill_53178 7 = .ok (.if_icmp .ge 13, 3) := by decide +kernel
theorem dJ7_fill_53178_10 : decode cJ7_fill_53178 10 = .ok (.aload_n 0, 1) := by decide +kernel
theorem dJ7_fill_53178_11 : decode cJ7_fill_53178 11 = .ok (.iload_n 2, 1) := by decide +kernel
theorem dJ7_fill_53178_12 : decode cJ7_fill_53178 12 = .ok (.iload_n 1, 1) := by decide +kernel
theorem dJ7_fill_53178_13 : decode cJ7_fill_53178 13 = .ok (.iastore, 1) := by decide +kernel
theorem dJ7_fill_53178_14 : decode cJ7_fill_53178 14 = .ok (.iinc 2 1, 3) := by decide +kernel
theorem dJ7_fill_53178_17 : decode cJ7_fill_53178 17 = .ok (.goto (-12), 3) := by decide +kernel
theorem dJ7_fill_53178_20 : decode cJ7_fill_53178 20 = .ok (.return_, 1) := by decide +kernel
theorem dJ7_copyOf_1904c_0 : decode cJ7_copyOf_1904c 0 = .ok (.aload_n 0, 1) := by decide +kernel
theorem dJ7_copyOf_1904c_1 : decode cJ7_copyOf_1904c 1 = .ok (.iload_n 1, 1) := by decide +kernel
theorem dJ7_copyOf_1904c_2 : decode cJ7_copyOf_1904c 2 = .ok (.aload_n 0, 1) := by decide +kernel
theorem dJ7_copyOf_1904c_3 : decode cJ7_copyOf_1904c 3 = .ok (.invokevirtual 86, 3) := by decide +kernel
theorem dJ7_copyOf_1904c_6 : decode cJ7_copyOf_1904c 6 = .ok (.invokestatic 300, 3) := by decide +kernel
theorem dJ7_copyOf_1904c_9 : decode cJ7_copyOf_1904c 9 = .ok (.areturn, 1) := by decide +kernel
theorem dJ7_copyOf_6403c_0 : decode cJ7_copyOf_6403c 0 = .ok (.aload_n 2, 1) := by decide +kernel
theorem dJ7_copyOf_6403c_1 : decode cJ7_copyOf_6403c 1 = .ok (.ldc 110, 2) := by decide +kernel
theorem dJ7_copyOf_6403c_3 : decode cJ7_copyOf_6403c 3 = .ok (.if_acmp .ne 10, 3) := by decide +kernel
theorem dJ7_copyOf_6403c_6 : decode cJ7_copyOf_6403c 6 = .ok (.iload_n 1, 1) := by decide +kernel
theorem dJ7_copyOf_6403c_7 : decode cJ7_copyOf_6403c 7 = .ok (.anewarray 2, 3) := by decide +kernel
theorem dJ7_copyOf_6403c_10 : decode cJ7_copyOf_6403c 10 = .ok (.goto 14, 3) := by decide +kernel
theorem dJ7_copyOf_6403c_13 : decode cJ7_copyOf_6403c 13 = .ok (.aload_n 2, 1) := by decide +kernel
theorem dJ7_copyOf_6403c_14 : decode cJ7_copyOf_6403c 14 = .ok (.invokevirtual 90, 3) := by decide +kernel
theorem dJ7_copyOf_6403c_17 : decode cJ7_copyOf_6403c 17 = .ok (.iload_n 1, 1) := by decide +kernel
theorem dJ7_copyOf_6403c_18 : decode cJ7_copyOf_6403c 18 = .ok (.invokestatic 95, 3) := by decide +kernel
theorem dJ7_copyOf_6403c_21 : decode cJ7_copyOf_6403c 21 = .ok (.checkcast 110, 3) := by decide +kernel
theorem dJ7_copyOf_6403c_24 : decode cJ7_copyOf_6403c 24 = .ok (.astore_n 3, 1) := by decide +kernel
theorem dJ7_copyOf_6403c_25 : decode cJ7_copyOf_6403c 25 = .ok (.aload_n 0, 1) := by decide +kernel
theorem dJ7_copyOf_6403c_26 : decode cJ7_copyOf_6403c 26 = .ok (.iconst 0, 1) := by decide +kernel
theorem dJ7_copyOf_6403c_27 : decode cJ7_copyOf_6403c 27 = .ok (.aload_n 3, 1) := by decide +kernel
theorem dJ7_copyOf_6403c_28 : decode cJ7_copyOf_6403c 28 = .ok (.iconst 0, 1) := by decide +kernel
theorem dJ7_copyOf_6403c_29 : decode cJ7_copyOf_6403c 29 = .ok (.aload_n 0, 1) := by decide +kernel
theorem dJ7_copyOf_6403c_30 : decode cJ7_copyOf_6403c 30 = .ok (.arraylength, 1) := by decide +kernel
theorem dJ7_copyOf_6403c_31 : decode cJ7_copyOf_6403c 31 = .ok (.iload_n 1, 1) := by decide +kernel
theorem dJ7_copyOf_6403c_32 : decode cJ7_copyOf_6403c 32 = .ok (.invokestatic 304, 3) := by decide +kernel
theorem dJ7_copyOf_6403c_35 : decode cJ7_copyOf_6403c 35 = .ok (.invokestatic 150, 3) := by decide +kernel
theorem dJ7_copyOf_6403c_38 : decode cJ7_copyOf_6403c 38 = .ok (.aload_n 3, 1) := by decide +kernel
theorem dJ7_copyOf_6403c_39 : decode cJ7_copyOf_6403c 39 = .ok (.areturn, 1) := by decide +kernel
theorem dJ7_checkLength_df160_0 : decode cJ7_checkLength_df160 0 = .ok (.iload_n 1, 1) := by decide +kernel
theorem dJ7_checkLength_df160_1 : decode cJ7_checkLength_df160 1 = .ok (.iload_n 0, 1) := by decide +kernel
theorem dJ7_checkLength_df160_2 : decode cJ7_checkLength_df160 2 = .ok (.if_icmp .ge 35, 3) := by decide +kernel
theorem dJ7_checkLength_df160_5 : decode cJ7_checkLength_df160 5 = .ok (.new 43, 3) := by decide +kernel
theorem dJ7_checkLength_df160_8 : decode cJ7_checkLength_df160 8 = .ok (.dup, 1) := by decide +kernel
theorem dJ7_checkLength_df160_9 : decode cJ7_checkLength_df160 9 = .ok (.new 45, 3) := by decide +kernel
theorem dJ7_checkLength_df160_12 : decode cJ7_checkLength_df160 12 = .ok (.dup, 1) := by decide +kernel
theorem dJ7_checkLength_df160_13 : decode cJ7_checkLength_df160 13 = .ok (.invokespecial 47, 3) := by decide +kernel
theorem dJ7_checkLength_df160_16 : decode cJ7_checkLength_df160 16 = .ok (.iload_n 0, 1) := by decide +kernel
theorem dJ7_checkLength_df160_17 : decode cJ7_checkLength_df160 17 = .ok (.invokevirtual 54, 3) := by decide +kernel
theorem dJ7_checkLength_df160_20 : decode cJ7_checkLength_df160 20 = .ok (.ldc_w 337, 3) := by decide +kernel
theorem dJ7_checkLength_df160_23 : decode cJ7_checkLength_df160 23 = .ok (.invokevirtual 50, 3) := by decide +kernel
theorem dJ7_checkLength_df160_26 : decode cJ7_checkLength_df160 26 = .ok (.iload_n 1, 1) := by decide +kernel
theorem dJ7_checkLength_df160_27 : decode cJ7_checkLength_df160 27 = .ok (.invokevirtual 54, 3) := by decide +kernel
theorem dJ7_checkLength_df160_30 : decode cJ7_checkLength_df160 30 = .ok (.invokevirtual 61, 3) := by decide +kernel
theorem dJ7_checkLength_df160_33 : decode cJ7_checkLength_df160 33 = .ok (.invokespecial 65, 3) := by decide +kernel
theorem dJ7_checkLength_df160_36 : decode cJ7_checkLength_df160 36 = .ok (.athrow, 1) := by decide +kernel
theorem dJ7_checkLength_df160_37 : decode cJ7_checkLength_df160 37 = .ok (.return_, 1) := by decide +kernel
theorem dJ7_copyOfRange_feecc_0 : decode cJ7_copyOfRange_feecc 0 = .ok (.iload_n 1, 1) := by decide +kernel
theorem dJ7_copyOfRange_feecc_1 : decode cJ7_copyOfRange_feecc 1 = .ok (.ifCond .ne 9, 3) := by decide +kernel
theorem dJ7_copyOfRange_feecc_4 : decode cJ7_copyOfRange_feecc 4 = .ok (.iload_n 2, 1) := by decide +kernel
theorem dJ7_copyOfRange_feecc_5 : decode cJ7_copyOfRange_feecc 5 = .ok (.aload_n 0, 1) := by decide +kernel
theorem dJ7_copyOfRange_feecc_6 : decode cJ7_copyOfRange_feecc 6 = .ok (.arraylength, 1) := by decide +kernel
theorem dJ7_copyOfRange_feecc_7 : decode cJ7_copyOfRange_feecc 7 = .ok (.if_icmp .eq 10, 3) := by decide +kernel
theorem dJ7_copyOfRange_feecc_10 : decode cJ7_copyOfRange_feecc 10 = .ok (.aload_n 0, 1) := by decide +kernel
theorem dJ7_copyOfRange_feecc_11 : decode cJ7_copyOfRange_feecc 11 = .ok (.iload_n 1, 1) := by decide +kernel
theorem dJ7_copyOfRange_feecc_12 : decode cJ7_copyOfRange_feecc 12 = .ok (.iload_n 2, 1) := by decide +kernel
theorem dJ7_copyOfRange_feecc_13 : decode cJ7_copyOfRange_feecc 13 = .ok (.invokestatic 351, 3) := by decide +kernel
theorem dJ7_copyOfRange_feecc_16 : decode cJ7_copyOfRange_feecc 16 = .ok (.areturn, 1) := by decide +kernel
theorem dJ7_copyOfRange_feecc_17 : decode cJ7_copyOfRange_feecc 17 = .ok (.aload_n 0, 1) := by decide +kernel
theorem dJ7_copyOfRange_feecc_18 : decode cJ7_copyOfRange_feecc 18 = .ok (.invokevirtual 316, 3) := by decide +kernel
theorem dJ7_copyOfRange_feecc_21 : decode cJ7_copyOfRange_feecc 21 = .ok (.checkcast 317, 3) := by decide +kernel
theorem dJ7_copyOfRange_feecc_24 : decode cJ7_copyOfRange_feecc 24 = .ok (.areturn, 1) := by decide +kernel
theorem dJ7_copyOfRangeInt_feecc_0 : decode cJ7_copyOfRangeInt_feecc 0 = .ok (.iload_n 1, 1) := by decide +kernel
theorem dJ7_copyOfRangeInt_feecc_1 : decode cJ7_copyOfRangeInt_feecc 1 = .ok (.iload_n 2, 1) := by decide +kernel
theorem dJ7_copyOfRangeInt_feecc_2 : decode cJ7_copyOfRangeInt_feecc 2 = .ok (.invokestatic 343, 3) := by decide +kernel
theorem dJ7_copyOfRangeInt_feecc_5 : decode cJ7_copyOfRangeInt_feecc 5 = .ok (.iload_n 2, 1) := by decide +kernel
theorem dJ7_copyOfRangeInt_feecc_6 : decode cJ7_copyOfRangeInt_feecc 6 = .ok (.iload_n 1, 1) := by decide +kernel
theorem dJ7_copyOfRangeInt_feecc_7 : decode cJ7_copyOfRangeInt_feecc 7 = .ok (.isub, 1) := by decide +kernel
theorem dJ7_copyOfRangeInt_feecc_8 : decode cJ7_copyOfRangeInt_feecc 8 = .ok (.istore_n 3, 1) := by decide +kernel
theorem dJ7_copyOfRangeInt_feecc_9 : decode cJ7_copyOfRangeInt_feecc 9 = .ok (.iload_n 3, 1) := by decide +kernel
theorem dJ7_copyOfRangeInt_feecc_10 : decode cJ7_copyOfRangeInt_feecc 10 = .ok (.newarray .int, 2) := by decide +kernel
theorem dJ7_copyOfRangeInt_feecc_12 : decode cJ7_copyOfRangeInt_feecc 12 = .ok (.astore 4, 2) := by decide +kernel
theorem dJ7_copyOfRangeInt_feecc_14 : decode cJ7_copyOfRangeInt_feecc 14 = .ok (.aload_n 0, 1) := by decide +kernel
theorem dJ7_copyOfRangeInt_feecc_15 : decode cJ7_copyOfRangeInt_feecc 15 = .ok (.iload_n 1, 1) := by decide +kernel
theorem dJ7_copyOfRangeInt_feecc_16 : decode cJ7_copyOfRangeInt_feecc 16 = .ok (.aload 4, 2) := by decide +kernel
theorem dJ7_copyOfRangeInt_feecc_18 : decode cJ7_copyOfRangeInt_feecc 18 = .ok (.iconst 0, 1) := by decide +kernel
theorem dJ7_copyOfRangeInt_feecc_19 : decode cJ7_copyOfRangeInt_feecc 19 = .ok (.aload_n 0, 1) := by decide +kernel
theorem dJ7_copyOfRangeInt_feecc_20 : decode cJ7_copyOfRangeInt_feecc 20 = .ok (.arraylength, 1) := by decide +kernel
theorem dJ7_copyOfRangeInt_feecc_21 : decode cJ7_copyOfRangeInt_feecc 21 = .ok (.iload_n 1, 1) := by decide +kernel
theorem dJ7_copyOfRangeInt_feecc_22 : decode cJ7_copyOfRangeInt_feecc 22 = .ok (.isub, 1) := by decide +kernel
theorem dJ7_copyOfRangeInt_feecc_23 : decode cJ7_copyOfRangeInt_feecc 23 = .ok (.iload_n 3, 1) := by decide +kernel
theorem dJ7_copyOfRangeInt_feecc_24 : decode cJ7_copyOfRangeInt_feecc 24 = .ok (.invokestatic 304, 3) := by decide +kernel
theorem dJ7_copyOfRangeInt_feecc_27 : decode cJ7_copyOfRangeInt_feecc 27 = .ok (.invokestatic 150, 3) := by decide +kernel
theorem dJ7_copyOfRangeInt_feecc_30 : decode cJ7_copyOfRangeInt_feecc 30 = .ok (.aload 4, 2) := by decide +kernel
theorem dJ7_copyOfRangeInt_feecc_32 : decode cJ7_copyOfRangeInt_feecc 32 = .ok (.areturn, 1) := by decide +kernel
theorem dJ15_checkIndex_7cf53_0 : decode cJ15_checkIndex_7cf53 0 = .ok (.iload_n 0, 1) := by decide +kernel
theorem dJ15_checkIndex_7cf53_1 : decode cJ15_checkIndex_7cf53 1 = .ok (.iload_n 1, 1) := by decide +kernel
theorem dJ15_checkIndex_7cf53_2 : decode cJ15_checkIndex_7cf53 2 = .ok (.aconst_null, 1) := by decide +kernel
theorem dJ15_checkIndex_7cf53_3 : decode cJ15_checkIndex_7cf53 3 = .ok (.invokestatic 105, 3) := by decide +kernel
theorem dJ15_checkIndex_7cf53_6 : decode cJ15_checkIndex_7cf53 6 = .ok (.ireturn, 1) := by decide +kernel
theorem dJ8_newLength_cabcc_0 : decode cJ8_newLength_cabcc 0 = .ok (.iload_n 0, 1) := by decide +kernel
theorem dJ8_newLength_cabcc_1 : decode cJ8_newLength_cabcc 1 = .ok (.iload_n 1, 1) := by decide +kernel
theorem dJ8_newLength_cabcc_2 : decode cJ8_newLength_cabcc 2 = .ok (.iload_n 2, 1) := by decide +kernel
theorem dJ8_newLength_cabcc_3 : decode cJ8_newLength_cabcc 3 = .ok (.invokestatic 194, 3) := by decide +kernel
theorem dJ8_newLength_cabcc_6 : decode cJ8_newLength_cabcc 6 = .ok (.iadd, 1) := by decide +kernel
theorem dJ8_newLength_cabcc_7 : decode cJ8_newLength_cabcc 7 = .ok (.istore_n 3, 1) := by decide +kernel
theorem dJ8_newLength_cabcc_8 : decode cJ8_newLength_cabcc 8 = .ok (.iconst 0, 1) := by decide +kernel
theorem dJ8_newLength_cabcc_9 : decode cJ8_newLength_cabcc 9 = .ok (.iload_n 3, 1) := by decide +kernel
theorem dJ8_newLength_cabcc_10 : decode cJ8_newLength_cabcc 10 = .ok (.if_icmp .ge 11, 3) := by decide +kernel
theorem dJ8_newLength_cabcc_13 : decode cJ8_newLength_cabcc 13 = .ok (.iload_n 3, 1) := by decide +kernel
theorem dJ8_newLength_cabcc_14 : decode cJ8_newLength_cabcc 14 = .ok (.ldc 200, 2) := by decide +kernel
theorem dJ8_newLength_cabcc_16 : decode cJ8_newLength_cabcc 16 = .ok (.if_icmp .gt 5, 3) := by decide +kernel
theorem dJ8_newLength_cabcc_19 : decode cJ8_newLength_cabcc 19 = .ok (.iload_n 3, 1) := by decide +kernel
theorem dJ8_newLength_cabcc_20 : decode cJ8_newLength_cabcc 20 = .ok (.ireturn, 1) := by decide +kernel
theorem dJ8_newLength_cabcc_21 : decode cJ8_newLength_cabcc 21 = .ok (.iload_n 0, 1) := by decide +kernel
theorem dJ8_newLength_cabcc_22 : decode cJ8_newLength_cabcc 22 = .ok (.iload_n 1, 1) := by decide +kernel
theorem dJ8_newLength_cabcc_23 : decode cJ8_newLength_cabcc 23 = .ok (.invokestatic 201, 3) := by decide +kernel
theorem dJ8_newLength_cabcc_26 : decode cJ8_newLength_cabcc 26 = .ok (.ireturn, 1) := by decide +kernel
theorem dJ8_hugeLength_7cf53_0 : decode cJ8_hugeLength_7cf53 0 = .ok (.iload_n 0, 1) := by decide +kernel
theorem dJ8_hugeLength_7cf53_1 : decode cJ8_hugeLength_7cf53 1 = .ok (.iload_n 1, 1) := by decide +kernel
theorem dJ8_hugeLength_7cf53_2 : decode cJ8_hugeLength_7cf53 2 = .ok (.iadd, 1) := by decide +kernel
theorem dJ8_hugeLength_7cf53_3 : decode cJ8_hugeLength_7cf53 3 = .ok (.istore_n 2, 1) := by decide +kernel
theorem dJ8_hugeLength_7cf53_4 : decode cJ8_hugeLength_7cf53 4 = .ok (.iload_n 2, 1) := by decide +kernel
theorem dJ8_hugeLength_7cf53_5 : decode cJ8_hugeLength_7cf53 5 = .ok (.ifCond .ge 44, 3) := by decide +kernel
theorem dJ8_hugeLength_7cf53_8 : decode cJ8_hugeLength_7cf53 8 = .ok (.new 204, 3) := by decide +kernel
theorem dJ8_hugeLength_7cf53_11 : decode cJ8_hugeLength_7cf53 11 = .ok (.dup, 1) := by decide +kernel
theorem dJ8_hugeLength_7cf53_12 : decode cJ8_hugeLength_7cf53 12 = .ok (.new 89, 3) := by decide +kernel
theorem dJ8_hugeLength_7cf53_15 : decode cJ8_hugeLength_7cf53 15 = .ok (.dup, 1) := by decide +kernel
theorem dJ8_hugeLength_7cf53_16 : decode cJ8_hugeLength_7cf53 16 = .ok (.invokespecial 91, 3) := by decide +kernel
theorem dJ8_hugeLength_7cf53_19 : decode cJ8_hugeLength_7cf53 19 = .ok (.ldc 206, 2) := by decide +kernel
theorem dJ8_hugeLength_7cf53_21 : decode cJ8_hugeLength_7cf53 21 = .ok (.invokevirtual 94, 3) := by decide +kernel
theorem dJ8_hugeLength_7cf53_24 : decode cJ8_hugeLength_7cf53 24 = .ok (.iload_n 0, 1) := by decide +kernel
theorem dJ8_hugeLength_7cf53_25 : decode cJ8_hugeLength_7cf53 25 = .ok (.invokevirtual 98, 3) := by decide +kernel
theorem dJ8_hugeLength_7cf53_28 : decode cJ8_hugeLength_7cf53 28 = .ok (.ldc 208, 2) := by decide +kernel
theorem dJ8_hugeLength_7cf53_30 : decode cJ8_hugeLength_7cf53 30 = .ok (.invokevirtual 94, 3) := by decide +kernel
theorem dJ8_hugeLength_7cf53_33 : decode cJ8_hugeLength_7cf53 33 = .ok (.iload_n 1, 1) := by decide +kernel
theorem dJ8_hugeLength_7cf53_34 : decode cJ8_hugeLength_7cf53 34 = .ok (.invokevirtual 98, 3) := by decide +kernel
theorem dJ8_hugeLength_7cf53_37 : decode cJ8_hugeLength_7cf53 37 = .ok (.ldc 210, 2) := by decide +kernel
theorem dJ8_hugeLength_7cf53_39 : decode cJ8_hugeLength_7cf53 39 = .ok (.invokevirtual 94, 3) := by decide +kernel
theorem dJ8_hugeLength_7cf53_42 : decode cJ8_hugeLength_7cf53 42 = .ok (.invokevirtual 101, 3) := by decide +kernel
theorem dJ8_hugeLength_7cf53_45 : decode cJ8_hugeLength_7cf53 45 = .ok (.invokespecial 212, 3) := by decide +kernel
theorem dJ8_hugeLength_7cf53_48 : decode cJ8_hugeLength_7cf53 48 = .ok (.athrow, 1) := by decide +kernel
theorem dJ8_hugeLength_7cf53_49 : decode cJ8_hugeLength_7cf53 49 = .ok (.iload_n 2, 1) := by decide +kernel
theorem dJ8_hugeLength_7cf53_50 : decode cJ8_hugeLength_7cf53 50 = .ok (.ldc 200, 2) := by decide +kernel
theorem dJ8_hugeLength_7cf53_52 : decode cJ8_hugeLength_7cf53 52 = .ok (.if_icmp .gt 6, 3) := by decide +kernel
theorem dJ8_hugeLength_7cf53_55 : decode cJ8_hugeLength_7cf53 55 = .ok (.ldc 200, 2) := by decide +kernel
theorem dJ8_hugeLength_7cf53_57 : decode cJ8_hugeLength_7cf53 57 = .ok (.ireturn, 1) := by decide +kernel
theorem dJ8_hugeLength_7cf53_58 : decode cJ8_hugeLength_7cf53 58 = .ok (.iload_n 2, 1) := by decide +kernel
theorem dJ8_hugeLength_7cf53_59 : decode cJ8_hugeLength_7cf53 59 = .ok (.ireturn, 1) := by decide +kernel
theorem dJ3_checkIndex_8e157_0 : decode cJ3_checkIndex_8e157 0 = .ok (.iload_n 0, 1) := by decide +kernel
theorem dJ3_checkIndex_8e157_1 : decode cJ3_checkIndex_8e157 1 = .ok (.ifCond .lt 8, 3) := by decide +kernel
theorem dJ3_checkIndex_8e157_4 : decode cJ3_checkIndex_8e157 4 = .ok (.iload_n 0, 1) := by decide +kernel
theorem dJ3_checkIndex_8e157_5 : decode cJ3_checkIndex_8e157 5 = .ok (.iload_n 1, 1) := by decide +kernel
theorem dJ3_checkIndex_8e157_6 : decode cJ3_checkIndex_8e157 6 = .ok (.if_icmp .lt 10, 3) := by decide +kernel
theorem dJ3_checkIndex_8e157_9 : decode cJ3_checkIndex_8e157 9 = .ok (.aload_n 2, 1) := by decide +kernel
theorem dJ3_checkIndex_8e157_10 : decode cJ3_checkIndex_8e157 10 = .ok (.iload_n 0, 1) := by decide +kernel
theorem dJ3_checkIndex_8e157_11 : decode cJ3_checkIndex_8e157 11 = .ok (.iload_n 1, 1) := by decide +kernel
theorem dJ3_checkIndex_8e157_12 : decode cJ3_checkIndex_8e157 12 = .ok (.invokestatic 95, 3) := by decide +kernel
theorem dJ3_checkIndex_8e157_15 : decode cJ3_checkIndex_8e157 15 = .ok (.athrow, 1) := by decide +kernel
theorem dJ3_checkIndex_8e157_16 : decode cJ3_checkIndex_8e157 16 = .ok (.iload_n 0, 1) := by decide +kernel
theorem dJ3_checkIndex_8e157_17 : decode cJ3_checkIndex_8e157 17 = .ok (.ireturn, 1) := by decide +kernel
theorem dL_law_0 : decode cL_law 0 = .ok (.new 7, 3) := by decide +kernel
theorem dL_law_3 : decode cL_law 3 = .ok (.dup, 1) := by decide +kernel
theorem dL_law_4 : decode cL_law 4 = .ok (.invokespecial 9, 3) := by decide +kernel
theorem dL_law_7 : decode cL_law 7 = .ok (.astore_n 1, 1) := by decide +kernel
theorem dL_law_8 : decode cL_law 8 = .ok (.new 10, 3) := by decide +kernel
theorem dL_law_11 : decode cL_law 11 = .ok (.dup, 1) := by decide +kernel
theorem dL_law_12 : decode cL_law 12 = .ok (.invokespecial 12, 3) := by decide +kernel
theorem dL_law_15 : decode cL_law 15 = .ok (.astore_n 2, 1) := by decide +kernel
theorem dL_law_16 : decode cL_law 16 = .ok (.iconst 0, 1) := by decide +kernel
theorem dL_law_17 : decode cL_law 17 = .ok (.istore_n 3, 1) := by decide +kernel
theorem dL_law_18 : decode cL_law 18 = .ok (.iload_n 3, 1) := by decide +kernel
theorem dL_law_19 : decode cL_law 19 = .ok (.aload_n 0, 1) := by decide +kernel
theorem dL_law_20 : decode cL_law 20 = .ok (.arraylength, 1) := by decide +kernel
theorem dL_law_21 : decode cL_law 21 = .ok (.bipush 9, 2) := by decide +kernel
theorem dL_law_23 : decode cL_law 23 = .ok (.isub, 1) := by decide +kernel
theorem dL_law_24 : decode cL_law 24 = .ok (.if_icmp .gt 1595, 3) := by decide +kernel
theorem dL_law_27 : decode cL_law 27 = .ok (.aload_n 0, 1) := by decide +kernel
theorem dL_law_28 : decode cL_law 28 = .ok (.iload_n 3, 1) := by decide +kernel
theorem dL_law_29 : decode cL_law 29 = .ok (.iaload, 1) := by decide +kernel
theorem dL_law_30 : decode cL_law 30 = .ok (.bipush 63, 2) := by decide +kernel
theorem dL_law_32 : decode cL_law 32 = .ok (.iand, 1) := by decide +kernel
theorem dL_law_33 : decode cL_law 33 = .ok (.tableswitch 1580 0 38 #[171, 246, 279, 312, 387, 420, 463, 496, 539, 572, 595, 618, 641, 664, 697, 710, 743, 776, 875, 918, 961, 974, 987, 1040, 1063, 1117, 1150, 1203, 1236, 1279, 1302, 1345, 1389, 1452, 1475, 1498, 1531, 1544, 1557], 171) := by decide +kernel
theorem dL_law_204 : decode cL_law 204 = .ok (.aload_n 1, 1) := by decide +kernel
theorem dL_law_205 : decode cL_law 205 = .ok (.aload_n 0, 1) := by decide +kernel
theorem dL_law_206 : decode cL_law 206 = .ok (.iload_n 3, 1) := by decide +kernel
theorem dL_law_207 : decode cL_law 207 = .ok (.iconst 1, 1) := by decide +kernel
theorem dL_law_208 : decode cL_law 208 = .ok (.iadd, 1) := by decide +kernel
theorem dL_law_209 : decode cL_law 209 = .ok (.iaload, 1) := by decide +kernel
theorem dL_law_210 : decode cL_law 210 = .ok (.aload_n 0, 1) := by decide +kernel
theorem dL_law_211 : decode cL_law 211 = .ok (.iload_n 3, 1) := by decide +kernel
theorem dL_law_212 : decode cL_law 212 = .ok (.iconst 2, 1) := by decide +kernel
theorem dL_law_213 : decode cL_law 213 = .ok (.iadd, 1) := by decide +kernel
theorem dL_law_214 : decode cL_law 214 = .ok (.iaload, 1) := by decide +kernel
theorem dL_law_215 : decode cL_law 215 = .ok (.aload_n 0, 1) := by decide +kernel
theorem dL_law_216 : decode cL_law 216 = .ok (.iload_n 3, 1) := by decide +kernel
theorem dL_law_217 : decode cL_law 217 = .ok (.iconst 3, 1) := by decide +kernel
theorem dL_law_218 : decode cL_law 218 = .ok (.iadd, 1) := by decide +kernel
theorem dL_law_219 : decode cL_law 219 = .ok (.iaload, 1) := by decide +kernel
theorem dL_law_220 : decode cL_law 220 = .ok (.aload_n 0, 1) := by decide +kernel
theorem dL_law_221 : decode cL_law 221 = .ok (.iload_n 3, 1) := by decide +kernel
theorem dL_law_222 : decode cL_law 222 = .ok (.iconst 4, 1) := by decide +kernel
theorem dL_law_223 : decode cL_law 223 = .ok (.iadd, 1) := by decide +kernel
theorem dL_law_224 : decode cL_law 224 = .ok (.iaload, 1) := by decide +kernel
theorem dL_law_225 : decode cL_law 225 = .ok (.aload_n 0, 1) := by decide +kernel
theorem dL_law_226 : decode cL_law 226 = .ok (.iload_n 3, 1) := by decide +kernel
theorem dL_law_227 : decode cL_law 227 = .ok (.iconst 5, 1) := by decide +kernel
theorem dL_law_228 : decode cL_law 228 = .ok (.iadd, 1) := by decide +kernel
theorem dL_law_229 : decode cL_law 229 = .ok (.iaload, 1) := by decide +kernel
theorem dL_law_230 : decode cL_law 230 = .ok (.aload_n 0, 1) := by decide +kernel
theorem dL_law_231 : decode cL_law 231 = .ok (.iload_n 3, 1) := by decide +kernel
theorem dL_law_232 : decode cL_law 232 = .ok (.bipush 6, 2) := by decide +kernel
theorem dL_law_234 : decode cL_law 234 = .ok (.iadd, 1) := by decide +kernel
theorem dL_law_235 : decode cL_law 235 = .ok (.iaload, 1) := by decide +kernel
theorem dL_law_236 : decode cL_law 236 = .ok (.invokevirtual 13, 3) := by decide +kernel
theorem dL_law_239 : decode cL_law 239 = .ok (.aload_n 2, 1) := by decide +kernel
theorem dL_law_240 : decode cL_law 240 = .ok (.aload_n 0, 1) := by decide +kernel
theorem dL_law_241 : decode cL_law 241 = .ok (.iload_n 3, 1) := by decide +kernel
theorem dL_law_242 : decode cL_law 242 = .ok (.iconst 1, 1) := by decide +kernel
theorem dL_law_243 : decode cL_law 243 = .ok (.iadd, 1) := by decide +kernel
theorem dL_law_244 : decode cL_law 244 = .ok (.iaload, 1) := by decide +kernel
theorem dL_law_245 : decode cL_law 245 = .ok (.aload_n 0, 1) := by decide +kernel
theorem dL_law_246 : decode cL_law 246 = .ok (.iload_n 3, 1) := by decide +kernel
theorem dL_law_247 : decode cL_law 247 = .ok (.iconst 2, 1) := by decide +kernel
theorem dL_law_248 : decode cL_law 248 = .ok (.iadd, 1) := by decide +kernel
theorem dL_law_249 : decode cL_law 249 = .ok (.iaload, 1) := by decide +kernel
theorem dL_law_250 : decode cL_law 250 = .ok (.aload_n 0, 1) := by decide +kernel
theorem dL_law_251 : decode cL_law 251 = .ok (.iload_n 3, 1) := by decide +kernel
theorem dL_law_252 : decode cL_law 252 = .ok (.iconst 3, 1) := by decide +kernel
theorem dL_law_253 : decode cL_law 253 = .ok (.iadd, 1) := by decide +kernel
theorem dL_law_254 : decode cL_law 254 = .ok (.iaload, 1) := by decide +kernel
theorem dL_law_255 : decode cL_law 255 = .ok (.aload_n 0, 1) := by decide +kernel
theorem dL_law_256 : decode cL_law 256 = .ok (.iload_n 3, 1) := by decide +kernel
theorem dL_law_257 : decode cL_law 257 = .ok (.iconst 4, 1) := by decide +kernel
theorem dL_law_258 : decode cL_law 258 = .ok (.iadd, 1) := by decide +kernel
theorem dL_law_259 : decode cL_law 259 = .ok (.iaload, 1) := by decide +kernel
theorem dL_law_260 : decode cL_law 260 = .ok (.aload_n 0, 1) := by decide +kernel
theorem dL_law_261 : decode cL_law 261 = .ok (.iload_n 3, 1) := by decide +kernel
theorem dL_law_262 : decode cL_law 262 = .ok (.iconst 5, 1) := by decide +kernel
theorem dL_law_263 : decode cL_law 263 = .ok (.iadd, 1) := by decide +kernel
theorem dL_law_264 : decode cL_law 264 = .ok (.iaload, 1) := by decide +kernel
theorem dL_law_265 : decode cL_law 265 = .ok (.aload_n 0, 1) := by decide +kernel
theorem dL_law_266 : decode cL_law 266 = .ok (.iload_n 3, 1) := by decide +kernel
theorem dL_law_267 : decode cL_law 267 = .ok (.bipush 6, 2) := by decide +kernel
theorem dL_law_269 : decode cL_law 269 = .ok (.iadd, 1) := by decide +kernel
theorem dL_law_270 : decode cL_law 270 = .ok (.iaload, 1) := by decide +kernel
theorem dL_law_271 : decode cL_law 271 = .ok (.invokevirtual 17, 3) := by decide +kernel
theorem dL_law_274 : decode cL_law 274 = .ok (.if_icmp .eq 1339, 3) := by decide +kernel
theorem dL_law_277 : decode cL_law 277 = .ok (.iconst 0, 1) := by decide +kernel
theorem dL_law_278 : decode cL_law 278 = .ok (.ireturn, 1) := by decide +kernel
theorem dL_law_279 : decode cL_law 279 = .ok (.aload_n 1, 1) := by decide +kernel
theorem dL_law_280 : decode cL_law 280 = .ok (.aload_n 0, 1) := by decide +kernel
theorem dL_law_281 : decode cL_law 281 = .ok (.iload_n 3, 1) := by decide +kernel
theorem dL_law_282 : decode cL_law 282 = .ok (.iconst 1, 1) := by decide +kernel
theorem dL_law_283 : decode cL_law 283 = .ok (.iadd, 1) := by decide +kernel
theorem dL_law_284 : decode cL_law 284 = .ok (.iaload, 1) := by decide +kernel
theorem dL_law_285 : decode cL_law 285 = .ok (.aload_n 0, 1) := by decide +kernel
theorem dL_law_286 : decode cL_law 286 = .ok (.iload_n 3, 1) := by decide +kernel
theorem dL_law_287 : decode cL_law 287 = .ok (.iconst 2, 1) := by decide +kernel
theorem dL_law_288 : decode cL_law 288 = .ok (.iadd, 1) := by decide +kernel
theorem dL_law_289 : decode cL_law 289 = .ok (.iaload, 1) := by decide +kernel
theorem dL_law_290 : decode cL_law 290 = .ok (.invokevirtual 18, 3) := by decide +kernel
theorem dL_law_293 : decode cL_law 293 = .ok (.aload_n 2, 1) := by decide +kernel
theorem dL_law_294 : decode cL_law 294 = .ok (.aload_n 0, 1) := by decide +kernel
theorem dL_law_295 : decode cL_law 295 = .ok (.iload_n 3, 1) := by decide +kernel
theorem dL_law_296 : decode cL_law 296 = .ok (.iconst 1, 1) := by decide +kernel
theorem dL_law_297 : decode cL_law 297 = .ok (.iadd, 1) := by decide +kernel
theorem dL_law_298 : decode cL_law 298 = .ok (.iaload, 1) := by decide +kernel
theorem dL_law_299 : decode cL_law 299 = .ok (.aload_n 0, 1) := by decide +kernel
theorem dL_law_300 : decode cL_law 300 = .ok (.iload_n 3, 1) := by decide +kernel
theorem dL_law_301 : decode cL_law 301 = .ok (.iconst 2, 1) := by decide +kernel
theorem dL_law_302 : decode cL_law 302 = .ok (.iadd, 1) := by decide +kernel
theorem dL_law_303 : decode cL_law 303 = .ok (.iaload, 1) := by decide +kernel
theorem dL_law_304 : decode cL_law 304 = .ok (.invokevirtual 22, 3) := by decide +kernel
theorem dL_law_307 : decode cL_law 307 = .ok (.if_icmp .eq 1306, 3) := by decide +kernel
theorem dL_law_310 : decode cL_law 310 = .ok (.iconst 0, 1) := by decide +kernel
theorem dL_law_311 : decode cL_law 311 = .ok (.ireturn, 1) := by decide +kernel
theorem dL_law_312 : decode cL_law 312 = .ok (.aload_n 1, 1) := by decide +kernel
theorem dL_law_313 : decode cL_law 313 = .ok (.aload_n 0, 1) := by decide +kernel
theorem dL_law_314 : decode cL_law 314 = .ok (.iload_n 3, 1) := by decide +kernel
theorem dL_law_315 : decode cL_law 315 = .ok (.iconst 1, 1) := by decide +kernel
theorem dL_law_316 : decode cL_law 316 = .ok (.iadd, 1) := by decide +kernel
theorem dL_law_317 : decode cL_law 317 = .ok (.iaload, 1) := by decide +kernel
theorem dL_law_318 : decode cL_law 318 = .ok (.aload_n 0, 1) := by decide +kernel
theorem dL_law_319 : decode cL_law 319 = .ok (.iload_n 3, 1) := by decide +kernel
theorem dL_law_320 : decode cL_law 320 = .ok (.iconst 2, 1) := by decide +kernel
theorem dL_law_321 : decode cL_law 321 = .ok (.iadd, 1) := by decide +kernel
theorem dL_law_322 : decode cL_law 322 = .ok (.iaload, 1) := by decide +kernel
theorem dL_law_323 : decode cL_law 323 = .ok (.invokevirtual 23, 3) := by decide +kernel
theorem dL_law_326 : decode cL_law 326 = .ok (.aload_n 2, 1) := by decide +kernel
theorem dL_law_327 : decode cL_law 327 = .ok (.aload_n 0, 1) := by decide +kernel
theorem dL_law_328 : decode cL_law 328 = .ok (.iload_n 3, 1) := by decide +kernel
theorem dL_law_329 : decode cL_law 329 = .ok (.iconst 1, 1) := by decide +kernel
theorem dL_law_330 : decode cL_law 330 = .ok (.iadd, 1) := by decide +kernel
theorem dL_law_331 : decode cL_law 331 = .ok (.iaload, 1) := by decide +kernel
theorem dL_law_332 : decode cL_law 332 = .ok (.aload_n 0, 1) := by decide +kernel
theorem dL_law_333 : decode cL_law 333 = .ok (.iload_n 3, 1) := by decide +kernel
theorem dL_law_334 : decode cL_law 334 = .ok (.iconst 2, 1) := by decide +kernel
theorem dL_law_335 : decode cL_law 335 = .ok (.iadd, 1) := by decide +kernel
theorem dL_law_336 : decode cL_law 336 = .ok (.iaload, 1) := by decide +kernel
theorem dL_law_337 : decode cL_law 337 = .ok (.invokevirtual 26, 3) := by decide +kernel
theorem dL_law_340 : decode cL_law 340 = .ok (.if_icmp .eq 1273, 3) := by decide +kernel
theorem dL_law_343 : decode cL_law 343 = .ok (.iconst 0, 1) := by decide +kernel
theorem dL_law_344 : decode cL_law 344 = .ok (.ireturn, 1) := by decide +kernel
theorem dL_law_345 : decode cL_law 345 = .ok (.aload_n 1, 1) := by decide +kernel
theorem dL_law_346 : decode cL_law 346 = .ok (.aload_n 0, 1) := by decide +kernel
theorem dL_law_347 : decode cL_law 347 = .ok (.iload_n 3, 1) := by decide +kernel
theorem dL_law_348 : decode cL_law 348 = .ok (.iconst 1, 1) := by decide +kernel
theorem dL_law_349 : decode cL_law 349 = .ok (.iadd, 1) := by decide +kernel
theorem dL_law_350 : decode cL_law 350 = .ok (.iaload, 1) := by decide +kernel
theorem dL_law_351 : decode cL_law 351 = .ok (.aload_n 0, 1) := by decide +kernel
theorem dL_law_352 : decode cL_law 352 = .ok (.iload_n 3, 1) := by decide +kernel
theorem dL_law_353 : decode cL_law 353 = .ok (.iconst 2, 1) := by decide +kernel
theorem dL_law_354 : decode cL_law 354 = .ok (.iadd, 1) := by decide +kernel
theorem dL_law_355 : decode cL_law 355 = .ok (.iaload, 1) := by decide +kernel
theorem dL_law_356 : decode cL_law 356 = .ok (.aload_n 0, 1) := by decide +kernel
theorem dL_law_357 : decode cL_law 357 = .ok (.iload_n 3, 1) := by decide +kernel
theorem dL_law_358 : decode cL_law 358 = .ok (.iconst 3, 1) := by decide +kernel
theorem dL_law_359 : decode cL_law 359 = .ok (.iadd, 1) := by decide +kernel
theorem dL_law_360 : decode cL_law 360 = .ok (.iaload, 1) := by decide +kernel
theorem dL_law_361 : decode cL_law 361 = .ok (.aload_n 0, 1) := by decide +kernel
theorem dL_law_362 : decode cL_law 362 = .ok (.iload_n 3, 1) := by decide +kernel
theorem dL_law_363 : decode cL_law 363 = .ok (.iconst 4, 1) := by decide +kernel
theorem dL_law_364 : decode cL_law 364 = .ok (.iadd, 1) := by decide +kernel
theorem dL_law_365 : decode cL_law 365 = .ok (.iaload, 1) := by decide +kernel
theorem dL_law_366 : decode cL_law 366 = .ok (.aload_n 0, 1) := by decide +kernel
theorem dL_law_367 : decode cL_law 367 = .ok (.iload_n 3, 1) := by decide +kernel
theorem dL_law_368 : decode cL_law 368 = .ok (.iconst 5, 1) := by decide +kernel
theorem dL_law_369 : decode cL_law 369 = .ok (.iadd, 1) := by decide +kernel
theorem dL_law_370 : decode cL_law 370 = .ok (.iaload, 1) := by decide +kernel
theorem dL_law_371 : decode cL_law 371 = .ok (.aload_n 0, 1) := by decide +kernel
theorem dL_law_372 : decode cL_law 372 = .ok (.iload_n 3, 1) := by decide +kernel
theorem dL_law_373 : decode cL_law 373 = .ok (.bipush 6, 2) := by decide +kernel
theorem dL_law_375 : decode cL_law 375 = .ok (.iadd, 1) := by decide +kernel
theorem dL_law_376 : decode cL_law 376 = .ok (.iaload, 1) := by decide +kernel
theorem dL_law_377 : decode cL_law 377 = .ok (.invokevirtual 27, 3) := by decide +kernel
theorem dL_law_380 : decode cL_law 380 = .ok (.aload_n 2, 1) := by decide +kernel
theorem dL_law_381 : decode cL_law 381 = .ok (.aload_n 0, 1) := by decide +kernel
theorem dL_law_382 : decode cL_law 382 = .ok (.iload_n 3, 1) := by decide +kernel
theorem dL_law_383 : decode cL_law 383 = .ok (.iconst 1, 1) := by decide +kernel
theorem dL_law_384 : decode cL_law 384 = .ok (.iadd, 1) := by decide +kernel
theorem dL_law_385 : decode cL_law 385 = .ok (.iaload, 1) := by decide +kernel
theorem dL_law_386 : decode cL_law 386 = .ok (.aload_n 0, 1) := by decide +kernel
theorem dL_law_387 : decode cL_law 387 = .ok (.iload_n 3, 1) := by decide +kernel
theorem dL_law_388 : decode cL_law 388 = .ok (.iconst 2, 1) := by decide +kernel
theorem dL_law_389 : decode cL_law 389 = .ok (.iadd, 1) := by decide +kernel
theorem dL_law_390 : decode cL_law 390 = .ok (.iaload, 1) := by decide +kernel
theorem dL_law_391 : decode cL_law 391 = .ok (.aload_n 0, 1) := by decide +kernel
theorem dL_law_392 : decode cL_law 392 = .ok (.iload_n 3, 1) := by decide +kernel
theorem dL_law_393 : decode cL_law 393 = .ok (.iconst 3, 1) := by decide +kernel
theorem dL_law_394 : decode cL_law 394 = .ok (.iadd, 1) := by decide +kernel
theorem dL_law_395 : decode cL_law 395 = .ok (.iaload, 1) := by decide +kernel
theorem dL_law_396 : decode cL_law 396 = .ok (.aload_n 0, 1) := by decide +kernel
theorem dL_law_397 : decode cL_law 397 = .ok (.iload_n 3, 1) := by decide +kernel
theorem dL_law_398 : decode cL_law 398 = .ok (.iconst 4, 1) := by decide +kernel
theorem dL_law_399 : decode cL_law 399 = .ok (.iadd, 1) := by decide +kernel
theorem dL_law_400 : decode cL_law 400 = .ok (.iaload, 1) := by decide +kernel
theorem dL_law_401 : decode cL_law 401 = .ok (.aload_n 0, 1) := by decide +kernel
theorem dL_law_402 : decode cL_law 402 = .ok (.iload_n 3, 1) := by decide +kernel
theorem dL_law_403 : decode cL_law 403 = .ok (.iconst 5, 1) := by decide +kernel
theorem dL_law_404 : decode cL_law 404 = .ok (.iadd, 1) := by decide +kernel
theorem dL_law_405 : decode cL_law 405 = .ok (.iaload, 1) := by decide +kernel
theorem dL_law_406 : decode cL_law 406 = .ok (.aload_n 0, 1) := by decide +kernel
theorem dL_law_407 : decode cL_law 407 = .ok (.iload_n 3, 1) := by decide +kernel
theorem dL_law_408 : decode cL_law 408 = .ok (.bipush 6, 2) := by decide +kernel
theorem dL_law_410 : decode cL_law 410 = .ok (.iadd, 1) := by decide +kernel
theorem dL_law_411 : decode cL_law 411 = .ok (.iaload, 1) := by decide +kernel
theorem dL_law_412 : decode cL_law 412 = .ok (.invokevirtual 30, 3) := by decide +kernel
theorem dL_law_415 : decode cL_law 415 = .ok (.if_icmp .eq 1198, 3) := by decide +kernel
theorem dL_law_418 : decode cL_law 418 = .ok (.iconst 0, 1) := by decide +kernel
theorem dL_law_419 : decode cL_law 419 = .ok (.ireturn, 1) := by decide +kernel
theorem dL_law_420 : decode cL_law 420 = .ok (.aload_n 1, 1) := by decide +kernel
theorem dL_law_421 : decode cL_law 421 = .ok (.aload_n 0, 1) := by decide +kernel
theorem dL_law_422 : decode cL_law 422 = .ok (.iload_n 3, 1) := by decide +kernel
theorem dL_law_423 : decode cL_law 423 = .ok (.iconst 1, 1) := by decide +kernel
theorem dL_law_424 : decode cL_law 424 = .ok (.iadd, 1) := by decide +kernel
theorem dL_law_425 : decode cL_law 425 = .ok (.iaload, 1) := by decide +kernel
theorem dL_law_426 : decode cL_law 426 = .ok (.aload_n 0, 1) := by decide +kernel
theorem dL_law_427 : decode cL_law 427 = .ok (.iload_n 3, 1) := by decide +kernel
theorem dL_law_428 : decode cL_law 428 = .ok (.iconst 2, 1) := by decide +kernel
theorem dL_law_429 : decode cL_law 429 = .ok (.iadd, 1) := by decide +kernel
theorem dL_law_430 : decode cL_law 430 = .ok (.iaload, 1) := by decide +kernel
theorem dL_law_431 : decode cL_law 431 = .ok (.invokevirtual 31, 3) := by decide +kernel
theorem dL_law_434 : decode cL_law 434 = .ok (.aload_n 2, 1) := by decide +kernel
theorem dL_law_435 : decode cL_law 435 = .ok (.aload_n 0, 1) := by decide +kernel
theorem dL_law_436 : decode cL_law 436 = .ok (.iload_n 3, 1) := by decide +kernel
theorem dL_law_437 : decode cL_law 437 = .ok (.iconst 1, 1) := by decide +kernel
theorem dL_law_438 : decode cL_law 438 = .ok (.iadd, 1) := by decide +kernel
theorem dL_law_439 : decode cL_law 439 = .ok (.iaload, 1) := by decide +kernel
theorem dL_law_440 : decode cL_law 440 = .ok (.aload_n 0, 1) := by decide +kernel
theorem dL_law_441 : decode cL_law 441 = .ok (.iload_n 3, 1) := by decide +kernel
theorem dL_law_442 : decode cL_law 442 = .ok (.iconst 2, 1) := by decide +kernel
theorem dL_law_443 : decode cL_law 443 = .ok (.iadd, 1) := by decide +kernel
theorem dL_law_444 : decode cL_law 444 = .ok (.iaload, 1) := by decide +kernel
theorem dL_law_445 : decode cL_law 445 = .ok (.invokevirtual 34, 3) := by decide +kernel
theorem dL_law_448 : decode cL_law 448 = .ok (.if_icmp .eq 1165, 3) := by decide +kernel
theorem dL_law_451 : decode cL_law 451 = .ok (.iconst 0, 1) := by decide +kernel
theorem dL_law_452 : decode cL_law 452 = .ok (.ireturn, 1) := by decide +kernel
theorem dL_law_453 : decode cL_law 453 = .ok (.aload_n 1, 1) := by decide +kernel
theorem dL_law_454 : decode cL_law 454 = .ok (.aload_n 0, 1) := by decide +kernel
theorem dL_law_455 : decode cL_law 455 = .ok (.iload_n 3, 1) := by decide +kernel
theorem dL_law_456 : decode cL_law 456 = .ok (.iconst 1, 1) := by decide +kernel
theorem dL_law_457 : decode cL_law 457 = .ok (.iadd, 1) := by decide +kernel
theorem dL_law_458 : decode cL_law 458 = .ok (.iaload, 1) := by decide +kernel
theorem dL_law_459 : decode cL_law 459 = .ok (.aload_n 0, 1) := by decide +kernel
theorem dL_law_460 : decode cL_law 460 = .ok (.iload_n 3, 1) := by decide +kernel
theorem dL_law_461 : decode cL_law 461 = .ok (.iconst 2, 1) := by decide +kernel
theorem dL_law_462 : decode cL_law 462 = .ok (.iadd, 1) := by decide +kernel
theorem dL_law_463 : decode cL_law 463 = .ok (.iaload, 1) := by decide +kernel
theorem dL_law_464 : decode cL_law 464 = .ok (.aload_n 0, 1) := by decide +kernel
theorem dL_law_465 : decode cL_law 465 = .ok (.iload_n 3, 1) := by decide +kernel
theorem dL_law_466 : decode cL_law 466 = .ok (.iconst 3, 1) := by decide +kernel
theorem dL_law_467 : decode cL_law 467 = .ok (.iadd, 1) := by decide +kernel
theorem dL_law_468 : decode cL_law 468 = .ok (.iaload, 1) := by decide +kernel
theorem dL_law_469 : decode cL_law 469 = .ok (.invokevirtual 35, 3) := by decide +kernel
theorem dL_law_472 : decode cL_law 472 = .ok (.aload_n 2, 1) := by decide +kernel
theorem dL_law_473 : decode cL_law 473 = .ok (.aload_n 0, 1) := by decide +kernel
theorem dL_law_474 : decode cL_law 474 = .ok (.iload_n 3, 1) := by decide +kernel
theorem dL_law_475 : decode cL_law 475 = .ok (.iconst 1, 1) := by decide +kernel
theorem dL_law_476 : decode cL_law 476 = .ok (.iadd, 1) := by decide +kernel
theorem dL_law_477 : decode cL_law 477 = .ok (.iaload, 1) := by decide +kernel
theorem dL_law_478 : decode cL_law 478 = .ok (.aload_n 0, 1) := by decide +kernel
theorem dL_law_479 : decode cL_law 479 = .ok (.iload_n 3, 1) := by decide +kernel
theorem dL_law_480 : decode cL_law 480 = .ok (.iconst 2, 1) := by decide +kernel
theorem dL_law_481 : decode cL_law 481 = .ok (.iadd, 1) := by decide +kernel
theorem dL_law_482 : decode cL_law 482 = .ok (.iaload, 1) := by decide +kernel
theorem dL_law_483 : decode cL_law 483 = .ok (.aload_n 0, 1) := by decide +kernel
theorem dL_law_484 : decode cL_law 484 = .ok (.iload_n 3, 1) := by decide +kernel
theorem dL_law_485 : decode cL_law 485 = .ok (.iconst 3, 1) := by decide +kernel
theorem dL_law_486 : decode cL_law 486 = .ok (.iadd, 1) := by decide +kernel
theorem dL_law_487 : decode cL_law 487 = .ok (.iaload, 1) := by decide +kernel
theorem dL_law_488 : decode cL_law 488 = .ok (.invokevirtual 39, 3) := by decide +kernel
theorem dL_law_491 : decode cL_law 491 = .ok (.if_icmp .eq 1122, 3) := by decide +kernel
theorem dL_law_494 : decode cL_law 494 = .ok (.iconst 0, 1) := by decide +kernel
theorem dL_law_495 : decode cL_law 495 = .ok (.ireturn, 1) := by decide +kernel
theorem dL_law_496 : decode cL_law 496 = .ok (.aload_n 1, 1) := by decide +kernel
theorem dL_law_497 : decode cL_law 497 = .ok (.aload_n 0, 1) := by decide +kernel
theorem dL_law_498 : decode cL_law 498 = .ok (.iload_n 3, 1) := by decide +kernel
theorem dL_law_499 : decode cL_law 499 = .ok (.iconst 1, 1) := by decide +kernel
theorem dL_law_500 : decode cL_law 500 = .ok (.iadd, 1) := by decide +kernel
theorem dL_law_501 : decode cL_law 501 = .ok (.iaload, 1) := by decide +kernel
theorem dL_law_502 : decode cL_law 502 = .ok (.aload_n 0, 1) := by decide +kernel
theorem dL_law_503 : decode cL_law 503 = .ok (.iload_n 3, 1) := by decide +kernel
theorem dL_law_504 : decode cL_law 504 = .ok (.iconst 2, 1) := by decide +kernel
theorem dL_law_505 : decode cL_law 505 = .ok (.iadd, 1) := by decide +kernel
theorem dL_law_506 : decode cL_law 506 = .ok (.iaload, 1) := by decide +kernel
theorem dL_law_507 : decode cL_law 507 = .ok (.invokevirtual 40, 3) := by decide +kernel
theorem dL_law_510 : decode cL_law 510 = .ok (.aload_n 2, 1) := by decide +kernel
theorem dL_law_511 : decode cL_law 511 = .ok (.aload_n 0, 1) := by decide +kernel
theorem dL_law_512 : decode cL_law 512 = .ok (.iload_n 3, 1) := by decide +kernel
theorem dL_law_513 : decode cL_law 513 = .ok (.iconst 1, 1) := by decide +kernel
theorem dL_law_514 : decode cL_law 514 = .ok (.iadd, 1) := by decide +kernel
theorem dL_law_515 : decode cL_law 515 = .ok (.iaload, 1) := by decide +kernel
theorem dL_law_516 : decode cL_law 516 = .ok (.aload_n 0, 1) := by decide +kernel
theorem dL_law_517 : decode cL_law 517 = .ok (.iload_n 3, 1) := by decide +kernel
theorem dL_law_518 : decode cL_law 518 = .ok (.iconst 2, 1) := by decide +kernel
theorem dL_law_519 : decode cL_law 519 = .ok (.iadd, 1) := by decide +kernel
theorem dL_law_520 : decode cL_law 520 = .ok (.iaload, 1) := by decide +kernel
theorem dL_law_521 : decode cL_law 521 = .ok (.invokevirtual 43, 3) := by decide +kernel
theorem dL_law_524 : decode cL_law 524 = .ok (.if_icmp .eq 1089, 3) := by decide +kernel
theorem dL_law_527 : decode cL_law 527 = .ok (.iconst 0, 1) := by decide +kernel
theorem dL_law_528 : decode cL_law 528 = .ok (.ireturn, 1) := by decide +kernel
theorem dL_law_529 : decode cL_law 529 = .ok (.aload_n 1, 1) := by decide +kernel
theorem dL_law_530 : decode cL_law 530 = .ok (.aload_n 0, 1) := by decide +kernel
theorem dL_law_531 : decode cL_law 531 = .ok (.iload_n 3, 1) := by decide +kernel
theorem dL_law_532 : decode cL_law 532 = .ok (.iconst 1, 1) := by decide +kernel
theorem dL_law_533 : decode cL_law 533 = .ok (.iadd, 1) := by decide +kernel
theorem dL_law_534 : decode cL_law 534 = .ok (.iaload, 1) := by decide +kernel
theorem dL_law_535 : decode cL_law 535 = .ok (.aload_n 0, 1) := by decide +kernel
theorem dL_law_536 : decode cL_law 536 = .ok (.iload_n 3, 1) := by decide +kernel
theorem dL_law_537 : decode cL_law 537 = .ok (.iconst 2, 1) := by decide +kernel
theorem dL_law_538 : decode cL_law 538 = .ok (.iadd, 1) := by decide +kernel
theorem dL_law_539 : decode cL_law 539 = .ok (.iaload, 1) := by decide +kernel
theorem dL_law_540 : decode cL_law 540 = .ok (.aload_n 0, 1) := by decide +kernel
theorem dL_law_541 : decode cL_law 541 = .ok (.iload_n 3, 1) := by decide +kernel
theorem dL_law_542 : decode cL_law 542 = .ok (.iconst 3, 1) := by decide +kernel
theorem dL_law_543 : decode cL_law 543 = .ok (.iadd, 1) := by decide +kernel
theorem dL_law_544 : decode cL_law 544 = .ok (.iaload, 1) := by decide +kernel
theorem dL_law_545 : decode cL_law 545 = .ok (.invokevirtual 44, 3) := by decide +kernel
theorem dL_law_548 : decode cL_law 548 = .ok (.aload_n 2, 1) := by decide +kernel
theorem dL_law_549 : decode cL_law 549 = .ok (.aload_n 0, 1) := by decide +kernel
theorem dL_law_550 : decode cL_law 550 = .ok (.iload_n 3, 1) := by decide +kernel
theorem dL_law_551 : decode cL_law 551 = .ok (.iconst 1, 1) := by decide +kernel
theorem dL_law_552 : decode cL_law 552 = .ok (.iadd, 1) := by decide +kernel
theorem dL_law_553 : decode cL_law 553 = .ok (.iaload, 1) := by decide +kernel
theorem dL_law_554 : decode cL_law 554 = .ok (.aload_n 0, 1) := by decide +kernel
theorem dL_law_555 : decode cL_law 555 = .ok (.iload_n 3, 1) := by decide +kernel
theorem dL_law_556 : decode cL_law 556 = .ok (.iconst 2, 1) := by decide +kernel
theorem dL_law_557 : decode cL_law 557 = .ok (.iadd, 1) := by decide +kernel
theorem dL_law_558 : decode cL_law 558 = .ok (.iaload, 1) := by decide +kernel
theorem dL_law_559 : decode cL_law 559 = .ok (.aload_n 0, 1) := by decide +kernel
theorem dL_law_560 : decode cL_law 560 = .ok (.iload_n 3, 1) := by decide +kernel
theorem dL_law_561 : decode cL_law 561 = .ok (.iconst 3, 1) := by decide +kernel
theorem dL_law_562 : decode cL_law 562 = .ok (.iadd, 1) := by decide +kernel
theorem dL_law_563 : decode cL_law 563 = .ok (.iaload, 1) := by decide +kernel
theorem dL_law_564 : decode cL_law 564 = .ok (.invokevirtual 47, 3) := by decide +kernel
theorem dL_law_567 : decode cL_law 567 = .ok (.if_icmp .eq 1046, 3) := by decide +kernel
theorem dL_law_570 : decode cL_law 570 = .ok (.iconst 0, 1) := by decide +kernel
theorem dL_law_571 : decode cL_law 571 = .ok (.ireturn, 1) := by decide +kernel
theorem dL_law_572 : decode cL_law 572 = .ok (.aload_n 1, 1) := by decide +kernel
theorem dL_law_573 : decode cL_law 573 = .ok (.aload_n 0, 1) := by decide +kernel
theorem dL_law_574 : decode cL_law 574 = .ok (.iload_n 3, 1) := by decide +kernel
theorem dL_law_575 : decode cL_law 575 = .ok (.iconst 1, 1) := by decide +kernel
theorem dL_law_576 : decode cL_law 576 = .ok (.iadd, 1) := by decide +kernel
theorem dL_law_577 : decode cL_law 577 = .ok (.iaload, 1) := by decide +kernel
theorem dL_law_578 : decode cL_law 578 = .ok (.aload_n 0, 1) := by decide +kernel
theorem dL_law_579 : decode cL_law 579 = .ok (.iload_n 3, 1) := by decide +kernel
theorem dL_law_580 : decode cL_law 580 = .ok (.iconst 2, 1) := by decide +kernel
theorem dL_law_581 : decode cL_law 581 = .ok (.iadd, 1) := by decide +kernel
theorem dL_law_582 : decode cL_law 582 = .ok (.iaload, 1) := by decide +kernel
theorem dL_law_583 : decode cL_law 583 = .ok (.invokevirtual 48, 3) := by decide +kernel
theorem dL_law_586 : decode cL_law 586 = .ok (.aload_n 2, 1) := by decide +kernel
theorem dL_law_587 : decode cL_law 587 = .ok (.aload_n 0, 1) := by decide +kernel
theorem dL_law_588 : decode cL_law 588 = .ok (.iload_n 3, 1) := by decide +kernel
theorem dL_law_589 : decode cL_law 589 = .ok (.iconst 1, 1) := by decide +kernel
theorem dL_law_590 : decode cL_law 590 = .ok (.iadd, 1) := by decide +kernel
theorem dL_law_591 : decode cL_law 591 = .ok (.iaload, 1) := by decide +kernel
theorem dL_law_592 : decode cL_law 592 = .ok (.aload_n 0, 1) := by decide +kernel
theorem dL_law_593 : decode cL_law 593 = .ok (.iload_n 3, 1) := by decide +kernel
theorem dL_law_594 : decode cL_law 594 = .ok (.iconst 2, 1) := by decide +kernel
theorem dL_law_595 : decode cL_law 595 = .ok (.iadd, 1) := by decide +kernel
theorem dL_law_596 : decode cL_law 596 = .ok (.iaload, 1) := by decide +kernel
theorem dL_law_597 : decode cL_law 597 = .ok (.invokevirtual 51, 3) := by decide +kernel
theorem dL_law_600 : decode cL_law 600 = .ok (.if_icmp .eq 1013, 3) := by decide +kernel
theorem dL_law_603 : decode cL_law 603 = .ok (.iconst 0, 1) := by decide +kernel
theorem dL_law_604 : decode cL_law 604 = .ok (.ireturn, 1) := by decide +kernel
theorem dL_law_605 : decode cL_law 605 = .ok (.aload_n 1, 1) := by decide +kernel
theorem dL_law_606 : decode cL_law 606 = .ok (.aload_n 0, 1) := by decide +kernel
theorem dL_law_607 : decode cL_law 607 = .ok (.iload_n 3, 1) := by decide +kernel
theorem dL_law_608 : decode cL_law 608 = .ok (.iconst 1, 1) := by decide +kernel
theorem dL_law_609 : decode cL_law 609 = .ok (.iadd, 1) := by decide +kernel
theorem dL_law_610 : decode cL_law 610 = .ok (.iaload, 1) := by decide +kernel
theorem dL_law_611 : decode cL_law 611 = .ok (.invokevirtual 52, 3) := by decide +kernel
theorem dL_law_614 : decode cL_law 614 = .ok (.aload_n 2, 1) := by decide +kernel
theorem dL_law_615 : decode cL_law 615 = .ok (.aload_n 0, 1) := by decide +kernel
theorem dL_law_616 : decode cL_law 616 = .ok (.iload_n 3, 1) := by decide +kernel
theorem dL_law_617 : decode cL_law 617 = .ok (.iconst 1, 1) := by decide +kernel
theorem dL_law_618 : decode cL_law 618 = .ok (.iadd, 1) := by decide +kernel
theorem dL_law_619 : decode cL_law 619 = .ok (.iaload, 1) := by decide +kernel
theorem dL_law_620 : decode cL_law 620 = .ok (.invokevirtual 56, 3) := by decide +kernel
theorem dL_law_623 : decode cL_law 623 = .ok (.if_icmp .eq 990, 3) := by decide +kernel
theorem dL_law_626 : decode cL_law 626 = .ok (.iconst 0, 1) := by decide +kernel
theorem dL_law_627 : decode cL_law 627 = .ok (.ireturn, 1) := by decide +kernel
theorem dL_law_628 : decode cL_law 628 = .ok (.aload_n 1, 1) := by decide +kernel
theorem dL_law_629 : decode cL_law 629 = .ok (.aload_n 0, 1) := by decide +kernel
theorem dL_law_630 : decode cL_law 630 = .ok (.iload_n 3, 1) := by decide +kernel
theorem dL_law_631 : decode cL_law 631 = .ok (.iconst 1, 1) := by decide +kernel
theorem dL_law_632 : decode cL_law 632 = .ok (.iadd, 1) := by decide +kernel
theorem dL_law_633 : decode cL_law 633 = .ok (.iaload, 1) := by decide +kernel
theorem dL_law_634 : decode cL_law 634 = .ok (.invokevirtual 57, 3) := by decide +kernel
theorem dL_law_637 : decode cL_law 637 = .ok (.aload_n 2, 1) := by decide +kernel
theorem dL_law_638 : decode cL_law 638 = .ok (.aload_n 0, 1) := by decide +kernel
theorem dL_law_639 : decode cL_law 639 = .ok (.iload_n 3, 1) := by decide +kernel
theorem dL_law_640 : decode cL_law 640 = .ok (.iconst 1, 1) := by decide +kernel
theorem dL_law_641 : decode cL_law 641 = .ok (.iadd, 1) := by decide +kernel
theorem dL_law_642 : decode cL_law 642 = .ok (.iaload, 1) := by decide +kernel
theorem dL_law_643 : decode cL_law 643 = .ok (.invokevirtual 60, 3) := by decide +kernel
theorem dL_law_646 : decode cL_law 646 = .ok (.if_icmp .eq 967, 3) := by decide +kernel
theorem dL_law_649 : decode cL_law 649 = .ok (.iconst 0, 1) := by decide +kernel
theorem dL_law_650 : decode cL_law 650 = .ok (.ireturn, 1) := by decide +kernel
theorem dL_law_651 : decode cL_law 651 = .ok (.aload_n 1, 1) := by decide +kernel
theorem dL_law_652 : decode cL_law 652 = .ok (.aload_n 0, 1) := by decide +kernel
theorem dL_law_653 : decode cL_law 653 = .ok (.iload_n 3, 1) := by decide +kernel
theorem dL_law_654 : decode cL_law 654 = .ok (.iconst 1, 1) := by decide +kernel
theorem dL_law_655 : decode cL_law 655 = .ok (.iadd, 1) := by decide +kernel
theorem dL_law_656 : decode cL_law 656 = .ok (.iaload, 1) := by decide +kernel
theorem dL_law_657 : decode cL_law 657 = .ok (.invokevirtual 61, 3) := by decide +kernel
theorem dL_law_660 : decode cL_law 660 = .ok (.aload_n 2, 1) := by decide +kernel
theorem dL_law_661 : decode cL_law 661 = .ok (.aload_n 0, 1) := by decide +kernel
theorem dL_law_662 : decode cL_law 662 = .ok (.iload_n 3, 1) := by decide +kernel
theorem dL_law_663 : decode cL_law 663 = .ok (.iconst 1, 1) := by decide +kernel
theorem dL_law_664 : decode cL_law 664 = .ok (.iadd, 1) := by decide +kernel
theorem dL_law_665 : decode cL_law 665 = .ok (.iaload, 1) := by decide +kernel
theorem dL_law_666 : decode cL_law 666 = .ok (.invokevirtual 64, 3) := by decide +kernel
theorem dL_law_669 : decode cL_law 669 = .ok (.if_icmp .eq 944, 3) := by decide +kernel
theorem dL_law_672 : decode cL_law 672 = .ok (.iconst 0, 1) := by decide +kernel
theorem dL_law_673 : decode cL_law 673 = .ok (.ireturn, 1) := by decide +kernel
theorem dL_law_674 : decode cL_law 674 = .ok (.aload_n 1, 1) := by decide +kernel
theorem dL_law_675 : decode cL_law 675 = .ok (.aload_n 0, 1) := by decide +kernel
theorem dL_law_676 : decode cL_law 676 = .ok (.iload_n 3, 1) := by decide +kernel
theorem dL_law_677 : decode cL_law 677 = .ok (.iconst 1, 1) := by decide +kernel
theorem dL_law_678 : decode cL_law 678 = .ok (.iadd, 1) := by decide +kernel
theorem dL_law_679 : decode cL_law 679 = .ok (.iaload, 1) := by decide +kernel
theorem dL_law_680 : decode cL_law 680 = .ok (.invokevirtual 65, 3) := by decide +kernel
theorem dL_law_683 : decode cL_law 683 = .ok (.aload_n 2, 1) := by decide +kernel
theorem dL_law_684 : decode cL_law 684 = .ok (.aload_n 0, 1) := by decide +kernel
theorem dL_law_685 : decode cL_law 685 = .ok (.iload_n 3, 1) := by decide +kernel
theorem dL_law_686 : decode cL_law 686 = .ok (.iconst 1, 1) := by decide +kernel
theorem dL_law_687 : decode cL_law 687 = .ok (.iadd, 1) := by decide +kernel
theorem dL_law_688 : decode cL_law 688 = .ok (.iaload, 1) := by decide +kernel
theorem dL_law_689 : decode cL_law 689 = .ok (.invokevirtual 68, 3) := by decide +kernel
theorem dL_law_692 : decode cL_law 692 = .ok (.if_icmp .eq 921, 3) := by decide +kernel
theorem dL_law_695 : decode cL_law 695 = .ok (.iconst 0, 1) := by decide +kernel
theorem dL_law_696 : decode cL_law 696 = .ok (.ireturn, 1) := by decide +kernel
theorem dL_law_697 : decode cL_law 697 = .ok (.aload_n 1, 1) := by decide +kernel
theorem dL_law_698 : decode cL_law 698 = .ok (.aload_n 0, 1) := by decide +kernel
theorem dL_law_699 : decode cL_law 699 = .ok (.iload_n 3, 1) := by decide +kernel
theorem dL_law_700 : decode cL_law 700 = .ok (.iconst 1, 1) := by decide +kernel
theorem dL_law_701 : decode cL_law 701 = .ok (.iadd, 1) := by decide +kernel
theorem dL_law_702 : decode cL_law 702 = .ok (.iaload, 1) := by decide +kernel
theorem dL_law_703 : decode cL_law 703 = .ok (.aload_n 0, 1) := by decide +kernel
theorem dL_law_704 : decode cL_law 704 = .ok (.iload_n 3, 1) := by decide +kernel
theorem dL_law_705 : decode cL_law 705 = .ok (.iconst 2, 1) := by decide +kernel
theorem dL_law_706 : decode cL_law 706 = .ok (.iadd, 1) := by decide +kernel
theorem dL_law_707 : decode cL_law 707 = .ok (.iaload, 1) := by decide +kernel
theorem dL_law_708 : decode cL_law 708 = .ok (.invokevirtual 69, 3) := by decide +kernel
theorem dL_law_711 : decode cL_law 711 = .ok (.aload_n 2, 1) := by decide +kernel
theorem dL_law_712 : decode cL_law 712 = .ok (.aload_n 0, 1) := by decide +kernel
theorem dL_law_713 : decode cL_law 713 = .ok (.iload_n 3, 1) := by decide +kernel
theorem dL_law_714 : decode cL_law 714 = .ok (.iconst 1, 1) := by decide +kernel
theorem dL_law_715 : decode cL_law 715 = .ok (.iadd, 1) := by decide +kernel
theorem dL_law_716 : decode cL_law 716 = .ok (.iaload, 1) := by decide +kernel
theorem dL_law_717 : decode cL_law 717 = .ok (.aload_n 0, 1) := by decide +kernel
theorem dL_law_718 : decode cL_law 718 = .ok (.iload_n 3, 1) := by decide +kernel
theorem dL_law_719 : decode cL_law 719 = .ok (.iconst 2, 1) := by decide +kernel
theorem dL_law_720 : decode cL_law 720 = .ok (.iadd, 1) := by decide +kernel
theorem dL_law_721 : decode cL_law 721 = .ok (.iaload, 1) := by decide +kernel
theorem dL_law_722 : decode cL_law 722 = .ok (.invokevirtual 72, 3) := by decide +kernel
theorem dL_law_725 : decode cL_law 725 = .ok (.if_icmp .eq 888, 3) := by decide +kernel
theorem dL_law_728 : decode cL_law 728 = .ok (.iconst 0, 1) := by decide +kernel
theorem dL_law_729 : decode cL_law 729 = .ok (.ireturn, 1) := by decide +kernel
theorem dL_law_730 : decode cL_law 730 = .ok (.aload_n 1, 1) := by decide +kernel
theorem dL_law_731 : decode cL_law 731 = .ok (.invokevirtual 73, 3) := by decide +kernel
theorem dL_law_734 : decode cL_law 734 = .ok (.aload_n 2, 1) := by decide +kernel
theorem dL_law_735 : decode cL_law 735 = .ok (.invokevirtual 77, 3) := by decide +kernel
theorem dL_law_738 : decode cL_law 738 = .ok (.if_icmp .eq 875, 3) := by decide +kernel
theorem dL_law_741 : decode cL_law 741 = .ok (.iconst 0, 1) := by decide +kernel
theorem dL_law_742 : decode cL_law 742 = .ok (.ireturn, 1) := by decide +kernel
theorem dL_law_743 : decode cL_law 743 = .ok (.aload_n 1, 1) := by decide +kernel
theorem dL_law_744 : decode cL_law 744 = .ok (.aload_n 0, 1) := by decide +kernel
theorem dL_law_745 : decode cL_law 745 = .ok (.iload_n 3, 1) := by decide +kernel
theorem dL_law_746 : decode cL_law 746 = .ok (.iconst 1, 1) := by decide +kernel
theorem dL_law_747 : decode cL_law 747 = .ok (.iadd, 1) := by decide +kernel
theorem dL_law_748 : decode cL_law 748 = .ok (.iaload, 1) := by decide +kernel
theorem dL_law_749 : decode cL_law 749 = .ok (.aload_n 0, 1) := by decide +kernel
theorem dL_law_750 : decode cL_law 750 = .ok (.iload_n 3, 1) := by decide +kernel
theorem dL_law_751 : decode cL_law 751 = .ok (.iconst 2, 1) := by decide +kernel
theorem dL_law_752 : decode cL_law 752 = .ok (.iadd, 1) := by decide +kernel
theorem dL_law_753 : decode cL_law 753 = .ok (.iaload, 1) := by decide +kernel
theorem dL_law_754 : decode cL_law 754 = .ok (.invokevirtual 78, 3) := by decide +kernel
theorem dL_law_757 : decode cL_law 757 = .ok (.aload_n 2, 1) := by decide +kernel
theorem dL_law_758 : decode cL_law 758 = .ok (.aload_n 0, 1) := by decide +kernel
theorem dL_law_759 : decode cL_law 759 = .ok (.iload_n 3, 1) := by decide +kernel
theorem dL_law_760 : decode cL_law 760 = .ok (.iconst 1, 1) := by decide +kernel
theorem dL_law_761 : decode cL_law 761 = .ok (.iadd, 1) := by decide +kernel
theorem dL_law_762 : decode cL_law 762 = .ok (.iaload, 1) := by decide +kernel
theorem dL_law_763 : decode cL_law 763 = .ok (.aload_n 0, 1) := by decide +kernel
theorem dL_law_764 : decode cL_law 764 = .ok (.iload_n 3, 1) := by decide +kernel
theorem dL_law_765 : decode cL_law 765 = .ok (.iconst 2, 1) := by decide +kernel
theorem dL_law_766 : decode cL_law 766 = .ok (.iadd, 1) := by decide +kernel
theorem dL_law_767 : decode cL_law 767 = .ok (.iaload, 1) := by decide +kernel
theorem dL_law_768 : decode cL_law 768 = .ok (.invokevirtual 81, 3) := by decide +kernel
theorem dL_law_771 : decode cL_law 771 = .ok (.if_icmp .eq 842, 3) := by decide +kernel
theorem dL_law_774 : decode cL_law 774 = .ok (.iconst 0, 1) := by decide +kernel
theorem dL_law_775 : decode cL_law 775 = .ok (.ireturn, 1) := by decide +kernel
theorem dL_law_776 : decode cL_law 776 = .ok (.aload_n 1, 1) := by decide +kernel
theorem dL_law_777 : decode cL_law 777 = .ok (.aload_n 0, 1) := by decide +kernel
theorem dL_law_778 : decode cL_law 778 = .ok (.iload_n 3, 1) := by decide +kernel
theorem dL_law_779 : decode cL_law 779 = .ok (.iconst 1, 1) := by decide +kernel
theorem dL_law_780 : decode cL_law 780 = .ok (.iadd, 1) := by decide +kernel
theorem dL_law_781 : decode cL_law 781 = .ok (.iaload, 1) := by decide +kernel
theorem dL_law_782 : decode cL_law 782 = .ok (.aload_n 0, 1) := by decide +kernel
theorem dL_law_783 : decode cL_law 783 = .ok (.iload_n 3, 1) := by decide +kernel
theorem dL_law_784 : decode cL_law 784 = .ok (.iconst 2, 1) := by decide +kernel
theorem dL_law_785 : decode cL_law 785 = .ok (.iadd, 1) := by decide +kernel
theorem dL_law_786 : decode cL_law 786 = .ok (.iaload, 1) := by decide +kernel
theorem dL_law_787 : decode cL_law 787 = .ok (.invokevirtual 82, 3) := by decide +kernel
theorem dL_law_790 : decode cL_law 790 = .ok (.aload_n 2, 1) := by decide +kernel
theorem dL_law_791 : decode cL_law 791 = .ok (.aload_n 0, 1) := by decide +kernel
theorem dL_law_792 : decode cL_law 792 = .ok (.iload_n 3, 1) := by decide +kernel
theorem dL_law_793 : decode cL_law 793 = .ok (.iconst 1, 1) := by decide +kernel
theorem dL_law_794 : decode cL_law 794 = .ok (.iadd, 1) := by decide +kernel
theorem dL_law_795 : decode cL_law 795 = .ok (.iaload, 1) := by decide +kernel
theorem dL_law_796 : decode cL_law 796 = .ok (.aload_n 0, 1) := by decide +kernel
theorem dL_law_797 : decode cL_law 797 = .ok (.iload_n 3, 1) := by decide +kernel
theorem dL_law_798 : decode cL_law 798 = .ok (.iconst 2, 1) := by decide +kernel
theorem dL_law_799 : decode cL_law 799 = .ok (.iadd, 1) := by decide +kernel
theorem dL_law_800 : decode cL_law 800 = .ok (.iaload, 1) := by decide +kernel
theorem dL_law_801 : decode cL_law 801 = .ok (.invokevirtual 85, 3) := by decide +kernel
theorem dL_law_804 : decode cL_law 804 = .ok (.if_icmp .eq 809, 3) := by decide +kernel
theorem dL_law_807 : decode cL_law 807 = .ok (.iconst 0, 1) := by decide +kernel
theorem dL_law_808 : decode cL_law 808 = .ok (.ireturn, 1) := by decide +kernel
theorem dL_law_809 : decode cL_law 809 = .ok (.aload_n 1, 1) := by decide +kernel
theorem dL_law_810 : decode cL_law 810 = .ok (.aload_n 0, 1) := by decide +kernel
theorem dL_law_811 : decode cL_law 811 = .ok (.iload_n 3, 1) := by decide +kernel
theorem dL_law_812 : decode cL_law 812 = .ok (.iconst 1, 1) := by decide +kernel
theorem dL_law_813 : decode cL_law 813 = .ok (.iadd, 1) := by decide +kernel
theorem dL_law_814 : decode cL_law 814 = .ok (.iaload, 1) := by decide +kernel
theorem dL_law_815 : decode cL_law 815 = .ok (.aload_n 0, 1) := by decide +kernel
theorem dL_law_816 : decode cL_law 816 = .ok (.iload_n 3, 1) := by decide +kernel
theorem dL_law_817 : decode cL_law 817 = .ok (.iconst 2, 1) := by decide +kernel
theorem dL_law_818 : decode cL_law 818 = .ok (.iadd, 1) := by decide +kernel
theorem dL_law_819 : decode cL_law 819 = .ok (.iaload, 1) := by decide +kernel
theorem dL_law_820 : decode cL_law 820 = .ok (.aload_n 0, 1) := by decide +kernel
theorem dL_law_821 : decode cL_law 821 = .ok (.iload_n 3, 1) := by decide +kernel
theorem dL_law_822 : decode cL_law 822 = .ok (.iconst 3, 1) := by decide +kernel
theorem dL_law_823 : decode cL_law 823 = .ok (.iadd, 1) := by decide +kernel
theorem dL_law_824 : decode cL_law 824 = .ok (.iaload, 1) := by decide +kernel
theorem dL_law_825 : decode cL_law 825 = .ok (.aload_n 0, 1) := by decide +kernel
theorem dL_law_826 : decode cL_law 826 = .ok (.iload_n 3, 1) := by decide +kernel
theorem dL_law_827 : decode cL_law 827 = .ok (.iconst 4, 1) := by decide +kernel
theorem dL_law_828 : decode cL_law 828 = .ok (.iadd, 1) := by decide +kernel
theorem dL_law_829 : decode cL_law 829 = .ok (.iaload, 1) := by decide +kernel
theorem dL_law_830 : decode cL_law 830 = .ok (.aload_n 0, 1) := by decide +kernel
theorem dL_law_831 : decode cL_law 831 = .ok (.iload_n 3, 1) := by decide +kernel
theorem dL_law_832 : decode cL_law 832 = .ok (.iconst 5, 1) := by decide +kernel
theorem dL_law_833 : decode cL_law 833 = .ok (.iadd, 1) := by decide +kernel
theorem dL_law_834 : decode cL_law 834 = .ok (.iaload, 1) := by decide +kernel
theorem dL_law_835 : decode cL_law 835 = .ok (.aload_n 0, 1) := by decide +kernel
theorem dL_law_836 : decode cL_law 836 = .ok (.iload_n 3, 1) := by decide +kernel
theorem dL_law_837 : decode cL_law 837 = .ok (.bipush 6, 2) := by decide +kernel
theorem dL_law_839 : decode cL_law 839 = .ok (.iadd, 1) := by decide +kernel
theorem dL_law_840 : decode cL_law 840 = .ok (.iaload, 1) := by decide +kernel
theorem dL_law_841 : decode cL_law 841 = .ok (.aload_n 0, 1) := by decide +kernel
theorem dL_law_842 : decode cL_law 842 = .ok (.iload_n 3, 1) := by decide +kernel
theorem dL_law_843 : decode cL_law 843 = .ok (.bipush 7, 2) := by decide +kernel
theorem dL_law_845 : decode cL_law 845 = .ok (.iadd, 1) := by decide +kernel
theorem dL_law_846 : decode cL_law 846 = .ok (.iaload, 1) := by decide +kernel
theorem dL_law_847 : decode cL_law 847 = .ok (.aload_n 0, 1) := by decide +kernel
theorem dL_law_848 : decode cL_law 848 = .ok (.iload_n 3, 1) := by decide +kernel
theorem dL_law_849 : decode cL_law 849 = .ok (.bipush 8, 2) := by decide +kernel
theorem dL_law_851 : decode cL_law 851 = .ok (.iadd, 1) := by decide +kernel
theorem dL_law_852 : decode cL_law 852 = .ok (.iaload, 1) := by decide +kernel
theorem dL_law_853 : decode cL_law 853 = .ok (.invokevirtual 86, 3) := by decide +kernel
theorem dL_law_856 : decode cL_law 856 = .ok (.aload_n 2, 1) := by decide +kernel
theorem dL_law_857 : decode cL_law 857 = .ok (.aload_n 0, 1) := by decide +kernel
theorem dL_law_858 : decode cL_law 858 = .ok (.iload_n 3, 1) := by decide +kernel
theorem dL_law_859 : decode cL_law 859 = .ok (.iconst 1, 1) := by decide +kernel
theorem dL_law_860 : decode cL_law 860 = .ok (.iadd, 1) := by decide +kernel
theorem dL_law_861 : decode cL_law 861 = .ok (.iaload, 1) := by decide +kernel
theorem dL_law_862 : decode cL_law 862 = .ok (.aload_n 0, 1) := by decide +kernel
theorem dL_law_863 : decode cL_law 863 = .ok (.iload_n 3, 1) := by decide +kernel
theorem dL_law_864 : decode cL_law 864 = .ok (.iconst 2, 1) := by decide +kernel
theorem dL_law_865 : decode cL_law 865 = .ok (.iadd, 1) := by decide +kernel
theorem dL_law_866 : decode cL_law 866 = .ok (.iaload, 1) := by decide +kernel
theorem dL_law_867 : decode cL_law 867 = .ok (.aload_n 0, 1) := by decide +kernel
theorem dL_law_868 : decode cL_law 868 = .ok (.iload_n 3, 1) := by decide +kernel
theorem dL_law_869 : decode cL_law 869 = .ok (.iconst 3, 1) := by decide +kernel
theorem dL_law_870 : decode cL_law 870 = .ok (.iadd, 1) := by decide +kernel
theorem dL_law_871 : decode cL_law 871 = .ok (.iaload, 1) := by decide +kernel
theorem dL_law_872 : decode cL_law 872 = .ok (.aload_n 0, 1) := by decide +kernel
theorem dL_law_873 : decode cL_law 873 = .ok (.iload_n 3, 1) := by decide +kernel
theorem dL_law_874 : decode cL_law 874 = .ok (.iconst 4, 1) := by decide +kernel
theorem dL_law_875 : decode cL_law 875 = .ok (.iadd, 1) := by decide +kernel
theorem dL_law_876 : decode cL_law 876 = .ok (.iaload, 1) := by decide +kernel
theorem dL_law_877 : decode cL_law 877 = .ok (.aload_n 0, 1) := by decide +kernel
theorem dL_law_878 : decode cL_law 878 = .ok (.iload_n 3, 1) := by decide +kernel
theorem dL_law_879 : decode cL_law 879 = .ok (.iconst 5, 1) := by decide +kernel
theorem dL_law_880 : decode cL_law 880 = .ok (.iadd, 1) := by decide +kernel
theorem dL_law_881 : decode cL_law 881 = .ok (.iaload, 1) := by decide +kernel
theorem dL_law_882 : decode cL_law 882 = .ok (.aload_n 0, 1) := by decide +kernel
theorem dL_law_883 : decode cL_law 883 = .ok (.iload_n 3, 1) := by decide +kernel
theorem dL_law_884 : decode cL_law 884 = .ok (.bipush 6, 2) := by decide +kernel
theorem dL_law_886 : decode cL_law 886 = .ok (.iadd, 1) := by decide +kernel
theorem dL_law_887 : decode cL_law 887 = .ok (.iaload, 1) := by decide +kernel
theorem dL_law_888 : decode cL_law 888 = .ok (.aload_n 0, 1) := by decide +kernel
theorem dL_law_889 : decode cL_law 889 = .ok (.iload_n 3, 1) := by decide +kernel
theorem dL_law_890 : decode cL_law 890 = .ok (.bipush 7, 2) := by decide +kernel
theorem dL_law_892 : decode cL_law 892 = .ok (.iadd, 1) := by decide +kernel
theorem dL_law_893 : decode cL_law 893 = .ok (.iaload, 1) := by decide +kernel
theorem dL_law_894 : decode cL_law 894 = .ok (.aload_n 0, 1) := by decide +kernel
theorem dL_law_895 : decode cL_law 895 = .ok (.iload_n 3, 1) := by decide +kernel
theorem dL_law_896 : decode cL_law 896 = .ok (.bipush 8, 2) := by decide +kernel
theorem dL_law_898 : decode cL_law 898 = .ok (.iadd, 1) := by decide +kernel
theorem dL_law_899 : decode cL_law 899 = .ok (.iaload, 1) := by decide +kernel
theorem dL_law_900 : decode cL_law 900 = .ok (.invokevirtual 90, 3) := by decide +kernel
theorem dL_law_903 : decode cL_law 903 = .ok (.if_icmp .eq 710, 3) := by decide +kernel
theorem dL_law_906 : decode cL_law 906 = .ok (.iconst 0, 1) := by decide +kernel
theorem dL_law_907 : decode cL_law 907 = .ok (.ireturn, 1) := by decide +kernel
theorem dL_law_908 : decode cL_law 908 = .ok (.aload_n 1, 1) := by decide +kernel
theorem dL_law_909 : decode cL_law 909 = .ok (.aload_n 0, 1) := by decide +kernel
theorem dL_law_910 : decode cL_law 910 = .ok (.iload_n 3, 1) := by decide +kernel
theorem dL_law_911 : decode cL_law 911 = .ok (.iconst 1, 1) := by decide +kernel
theorem dL_law_912 : decode cL_law 912 = .ok (.iadd, 1) := by decide +kernel
theorem dL_law_913 : decode cL_law 913 = .ok (.iaload, 1) := by decide +kernel
theorem dL_law_914 : decode cL_law 914 = .ok (.aload_n 0, 1) := by decide +kernel
theorem dL_law_915 : decode cL_law 915 = .ok (.iload_n 3, 1) := by decide +kernel
theorem dL_law_916 : decode cL_law 916 = .ok (.iconst 2, 1) := by decide +kernel
theorem dL_law_917 : decode cL_law 917 = .ok (.iadd, 1) := by decide +kernel
theorem dL_law_918 : decode cL_law 918 = .ok (.iaload, 1) := by decide +kernel
theorem dL_law_919 : decode cL_law 919 = .ok (.aload_n 0, 1) := by decide +kernel
theorem dL_law_920 : decode cL_law 920 = .ok (.iload_n 3, 1) := by decide +kernel
theorem dL_law_921 : decode cL_law 921 = .ok (.iconst 3, 1) := by decide +kernel
theorem dL_law_922 : decode cL_law 922 = .ok (.iadd, 1) := by decide +kernel
theorem dL_law_923 : decode cL_law 923 = .ok (.iaload, 1) := by decide +kernel
theorem dL_law_924 : decode cL_law 924 = .ok (.invokevirtual 91, 3) := by decide +kernel
theorem dL_law_927 : decode cL_law 927 = .ok (.aload_n 2, 1) := by decide +kernel
theorem dL_law_928 : decode cL_law 928 = .ok (.aload_n 0, 1) := by decide +kernel
theorem dL_law_929 : decode cL_law 929 = .ok (.iload_n 3, 1) := by decide +kernel
theorem dL_law_930 : decode cL_law 930 = .ok (.iconst 1, 1) := by decide +kernel
theorem dL_law_931 : decode cL_law 931 = .ok (.iadd, 1) := by decide +kernel
theorem dL_law_932 : decode cL_law 932 = .ok (.iaload, 1) := by decide +kernel
theorem dL_law_933 : decode cL_law 933 = .ok (.aload_n 0, 1) := by decide +kernel
theorem dL_law_934 : decode cL_law 934 = .ok (.iload_n 3, 1) := by decide +kernel
theorem dL_law_935 : decode cL_law 935 = .ok (.iconst 2, 1) := by decide +kernel
theorem dL_law_936 : decode cL_law 936 = .ok (.iadd, 1) := by decide +kernel
theorem dL_law_937 : decode cL_law 937 = .ok (.iaload, 1) := by decide +kernel
theorem dL_law_938 : decode cL_law 938 = .ok (.aload_n 0, 1) := by decide +kernel
theorem dL_law_939 : decode cL_law 939 = .ok (.iload_n 3, 1) := by decide +kernel
theorem dL_law_940 : decode cL_law 940 = .ok (.iconst 3, 1) := by decide +kernel
theorem dL_law_941 : decode cL_law 941 = .ok (.iadd, 1) := by decide +kernel
theorem dL_law_942 : decode cL_law 942 = .ok (.iaload, 1) := by decide +kernel
theorem dL_law_943 : decode cL_law 943 = .ok (.invokevirtual 94, 3) := by decide +kernel
theorem dL_law_946 : decode cL_law 946 = .ok (.if_icmp .eq 667, 3) := by decide +kernel
theorem dL_law_949 : decode cL_law 949 = .ok (.iconst 0, 1) := by decide +kernel
theorem dL_law_950 : decode cL_law 950 = .ok (.ireturn, 1) := by decide +kernel
theorem dL_law_951 : decode cL_law 951 = .ok (.aload_n 1, 1) := by decide +kernel
theorem dL_law_952 : decode cL_law 952 = .ok (.aload_n 0, 1) := by decide +kernel
theorem dL_law_953 : decode cL_law 953 = .ok (.iload_n 3, 1) := by decide +kernel
theorem dL_law_954 : decode cL_law 954 = .ok (.iconst 1, 1) := by decide +kernel
theorem dL_law_955 : decode cL_law 955 = .ok (.iadd, 1) := by decide +kernel
theorem dL_law_956 : decode cL_law 956 = .ok (.iaload, 1) := by decide +kernel
theorem dL_law_957 : decode cL_law 957 = .ok (.aload_n 0, 1) := by decide +kernel
theorem dL_law_958 : decode cL_law 958 = .ok (.iload_n 3, 1) := by decide +kernel
theorem dL_law_959 : decode cL_law 959 = .ok (.iconst 2, 1) := by decide +kernel
theorem dL_law_960 : decode cL_law 960 = .ok (.iadd, 1) := by decide +kernel
theorem dL_law_961 : decode cL_law 961 = .ok (.iaload, 1) := by decide +kernel
theorem dL_law_962 : decode cL_law 962 = .ok (.aload_n 0, 1) := by decide +kernel
theorem dL_law_963 : decode cL_law 963 = .ok (.iload_n 3, 1) := by decide +kernel
theorem dL_law_964 : decode cL_law 964 = .ok (.iconst 3, 1) := by decide +kernel
theorem dL_law_965 : decode cL_law 965 = .ok (.iadd, 1) := by decide +kernel
theorem dL_law_966 : decode cL_law 966 = .ok (.iaload, 1) := by decide +kernel
theorem dL_law_967 : decode cL_law 967 = .ok (.invokevirtual 95, 3) := by decide +kernel
theorem dL_law_970 : decode cL_law 970 = .ok (.aload_n 2, 1) := by decide +kernel
theorem dL_law_971 : decode cL_law 971 = .ok (.aload_n 0, 1) := by decide +kernel
theorem dL_law_972 : decode cL_law 972 = .ok (.iload_n 3, 1) := by decide +kernel
theorem dL_law_973 : decode cL_law 973 = .ok (.iconst 1, 1) := by decide +kernel
theorem dL_law_974 : decode cL_law 974 = .ok (.iadd, 1) := by decide +kernel
theorem dL_law_975 : decode cL_law 975 = .ok (.iaload, 1) := by decide +kernel
theorem dL_law_976 : decode cL_law 976 = .ok (.aload_n 0, 1) := by decide +kernel
theorem dL_law_977 : decode cL_law 977 = .ok (.iload_n 3, 1) := by decide +kernel
theorem dL_law_978 : decode cL_law 978 = .ok (.iconst 2, 1) := by decide +kernel
theorem dL_law_979 : decode cL_law 979 = .ok (.iadd, 1) := by decide +kernel
theorem dL_law_980 : decode cL_law 980 = .ok (.iaload, 1) := by decide +kernel
theorem dL_law_981 : decode cL_law 981 = .ok (.aload_n 0, 1) := by decide +kernel
theorem dL_law_982 : decode cL_law 982 = .ok (.iload_n 3, 1) := by decide +kernel
theorem dL_law_983 : decode cL_law 983 = .ok (.iconst 3, 1) := by decide +kernel
theorem dL_law_984 : decode cL_law 984 = .ok (.iadd, 1) := by decide +kernel
theorem dL_law_985 : decode cL_law 985 = .ok (.iaload, 1) := by decide +kernel
theorem dL_law_986 : decode cL_law 986 = .ok (.invokevirtual 98, 3) := by decide +kernel
theorem dL_law_989 : decode cL_law 989 = .ok (.if_icmp .eq 624, 3) := by decide +kernel
theorem dL_law_992 : decode cL_law 992 = .ok (.iconst 0, 1) := by decide +kernel
theorem dL_law_993 : decode cL_law 993 = .ok (.ireturn, 1) := by decide +kernel
theorem dL_law_994 : decode cL_law 994 = .ok (.aload_n 1, 1) := by decide +kernel
theorem dL_law_995 : decode cL_law 995 = .ok (.invokevirtual 99, 3) := by decide +kernel
theorem dL_law_998 : decode cL_law 998 = .ok (.aload_n 2, 1) := by decide +kernel
theorem dL_law_999 : decode cL_law 999 = .ok (.invokevirtual 102, 3) := by decide +kernel
theorem dL_law_1002 : decode cL_law 1002 = .ok (.if_icmp .eq 611, 3) := by decide +kernel
theorem dL_law_1005 : decode cL_law 1005 = .ok (.iconst 0, 1) := by decide +kernel
theorem dL_law_1006 : decode cL_law 1006 = .ok (.ireturn, 1) := by decide +kernel
theorem dL_law_1007 : decode cL_law 1007 = .ok (.aload_n 1, 1) := by decide +kernel
theorem dL_law_1008 : decode cL_law 1008 = .ok (.invokevirtual 103, 3) := by decide +kernel
theorem dL_law_1011 : decode cL_law 1011 = .ok (.aload_n 2, 1) := by decide +kernel
theorem dL_law_1012 : decode cL_law 1012 = .ok (.invokevirtual 106, 3) := by decide +kernel
theorem dL_law_1015 : decode cL_law 1015 = .ok (.if_icmp .eq 598, 3) := by decide +kernel
theorem dL_law_1018 : decode cL_law 1018 = .ok (.iconst 0, 1) := by decide +kernel
theorem dL_law_1019 : decode cL_law 1019 = .ok (.ireturn, 1) := by decide +kernel
theorem dL_law_1020 : decode cL_law 1020 = .ok (.aload_n 1, 1) := by decide +kernel
theorem dL_law_1021 : decode cL_law 1021 = .ok (.aload_n 0, 1) := by decide +kernel
theorem dL_law_1022 : decode cL_law 1022 = .ok (.iload_n 3, 1) := by decide +kernel
theorem dL_law_1023 : decode cL_law 1023 = .ok (.iconst 1, 1) := by decide +kernel
theorem dL_law_1024 : decode cL_law 1024 = .ok (.iadd, 1) := by decide +kernel
theorem dL_law_1025 : decode cL_law 1025 = .ok (.iaload, 1) := by decide +kernel
theorem dL_law_1026 : decode cL_law 1026 = .ok (.aload_n 0, 1) := by decide +kernel
theorem dL_law_1027 : decode cL_law 1027 = .ok (.iload_n 3, 1) := by decide +kernel
theorem dL_law_1028 : decode cL_law 1028 = .ok (.iconst 2, 1) := by decide +kernel
theorem dL_law_1029 : decode cL_law 1029 = .ok (.iadd, 1) := by decide +kernel
theorem dL_law_1030 : decode cL_law 1030 = .ok (.iaload, 1) := by decide +kernel
theorem dL_law_1031 : decode cL_law 1031 = .ok (.aload_n 0, 1) := by decide +kernel
theorem dL_law_1032 : decode cL_law 1032 = .ok (.iload_n 3, 1) := by decide +kernel
theorem dL_law_1033 : decode cL_law 1033 = .ok (.iconst 3, 1) := by decide +kernel
theorem dL_law_1034 : decode cL_law 1034 = .ok (.iadd, 1) := by decide +kernel
theorem dL_law_1035 : decode cL_law 1035 = .ok (.iaload, 1) := by decide +kernel
theorem dL_law_1036 : decode cL_law 1036 = .ok (.aload_n 0, 1) := by decide +kernel
theorem dL_law_1037 : decode cL_law 1037 = .ok (.iload_n 3, 1) := by decide +kernel
theorem dL_law_1038 : decode cL_law 1038 = .ok (.iconst 4, 1) := by decide +kernel
theorem dL_law_1039 : decode cL_law 1039 = .ok (.iadd, 1) := by decide +kernel
theorem dL_law_1040 : decode cL_law 1040 = .ok (.iaload, 1) := by decide +kernel
theorem dL_law_1041 : decode cL_law 1041 = .ok (.invokevirtual 107, 3) := by decide +kernel
theorem dL_law_1044 : decode cL_law 1044 = .ok (.aload_n 2, 1) := by decide +kernel
theorem dL_law_1045 : decode cL_law 1045 = .ok (.aload_n 0, 1) := by decide +kernel
theorem dL_law_1046 : decode cL_law 1046 = .ok (.iload_n 3, 1) := by decide +kernel
theorem dL_law_1047 : decode cL_law 1047 = .ok (.iconst 1, 1) := by decide +kernel
theorem dL_law_1048 : decode cL_law 1048 = .ok (.iadd, 1) := by decide +kernel
theorem dL_law_1049 : decode cL_law 1049 = .ok (.iaload, 1) := by decide +kernel
theorem dL_law_1050 : decode cL_law 1050 = .ok (.aload_n 0, 1) := by decide +kernel
theorem dL_law_1051 : decode cL_law 1051 = .ok (.iload_n 3, 1) := by decide +kernel
theorem dL_law_1052 : decode cL_law 1052 = .ok (.iconst 2, 1) := by decide +kernel
theorem dL_law_1053 : decode cL_law 1053 = .ok (.iadd, 1) := by decide +kernel
theorem dL_law_1054 : decode cL_law 1054 = .ok (.iaload, 1) := by decide +kernel
theorem dL_law_1055 : decode cL_law 1055 = .ok (.aload_n 0, 1) := by decide +kernel
theorem dL_law_1056 : decode cL_law 1056 = .ok (.iload_n 3, 1) := by decide +kernel
theorem dL_law_1057 : decode cL_law 1057 = .ok (.iconst 3, 1) := by decide +kernel
theorem dL_law_1058 : decode cL_law 1058 = .ok (.iadd, 1) := by decide +kernel
theorem dL_law_1059 : decode cL_law 1059 = .ok (.iaload, 1) := by decide +kernel
theorem dL_law_1060 : decode cL_law 1060 = .ok (.aload_n 0, 1) := by decide +kernel
theorem dL_law_1061 : decode cL_law 1061 = .ok (.iload_n 3, 1) := by decide +kernel
theorem dL_law_1062 : decode cL_law 1062 = .ok (.iconst 4, 1) := by decide +kernel
theorem dL_law_1063 : decode cL_law 1063 = .ok (.iadd, 1) := by decide +kernel
theorem dL_law_1064 : decode cL_law 1064 = .ok (.iaload, 1) := by decide +kernel
theorem dL_law_1065 : decode cL_law 1065 = .ok (.invokevirtual 111, 3) := by decide +kernel
theorem dL_law_1068 : decode cL_law 1068 = .ok (.if_icmp .eq 545, 3) := by decide +kernel
theorem dL_law_1071 : decode cL_law 1071 = .ok (.iconst 0, 1) := by decide +kernel
theorem dL_law_1072 : decode cL_law 1072 = .ok (.ireturn, 1) := by decide +kernel
theorem dL_law_1073 : decode cL_law 1073 = .ok (.aload_n 1, 1) := by decide +kernel
theorem dL_law_1074 : decode cL_law 1074 = .ok (.aload_n 0, 1) := by decide +kernel
theorem dL_law_1075 : decode cL_law 1075 = .ok (.iload_n 3, 1) := by decide +kernel
theorem dL_law_1076 : decode cL_law 1076 = .ok (.iconst 1, 1) := by decide +kernel
theorem dL_law_1077 : decode cL_law 1077 = .ok (.iadd, 1) := by decide +kernel
theorem dL_law_1078 : decode cL_law 1078 = .ok (.iaload, 1) := by decide +kernel
theorem dL_law_1079 : decode cL_law 1079 = .ok (.invokevirtual 112, 3) := by decide +kernel
theorem dL_law_1082 : decode cL_law 1082 = .ok (.aload_n 2, 1) := by decide +kernel
theorem dL_law_1083 : decode cL_law 1083 = .ok (.aload_n 0, 1) := by decide +kernel
theorem dL_law_1084 : decode cL_law 1084 = .ok (.iload_n 3, 1) := by decide +kernel
theorem dL_law_1085 : decode cL_law 1085 = .ok (.iconst 1, 1) := by decide +kernel
theorem dL_law_1086 : decode cL_law 1086 = .ok (.iadd, 1) := by decide +kernel
theorem dL_law_1087 : decode cL_law 1087 = .ok (.iaload, 1) := by decide +kernel
theorem dL_law_1088 : decode cL_law 1088 = .ok (.invokevirtual 115, 3) := by decide +kernel
theorem dL_law_1091 : decode cL_law 1091 = .ok (.if_icmp .eq 522, 3) := by decide +kernel
theorem dL_law_1094 : decode cL_law 1094 = .ok (.iconst 0, 1) := by decide +kernel
theorem dL_law_1095 : decode cL_law 1095 = .ok (.ireturn, 1) := by decide +kernel
theorem dL_law_1096 : decode cL_law 1096 = .ok (.aload_n 1, 1) := by decide +kernel
theorem dL_law_1097 : decode cL_law 1097 = .ok (.aload_n 0, 1) := by decide +kernel
theorem dL_law_1098 : decode cL_law 1098 = .ok (.iload_n 3, 1) := by decide +kernel
theorem dL_law_1099 : decode cL_law 1099 = .ok (.iconst 1, 1) := by decide +kernel
theorem dL_law_1100 : decode cL_law 1100 = .ok (.iadd, 1) := by decide +kernel
theorem dL_law_1101 : decode cL_law 1101 = .ok (.iaload, 1) := by decide +kernel
theorem dL_law_1102 : decode cL_law 1102 = .ok (.aload_n 0, 1) := by decide +kernel
theorem dL_law_1103 : decode cL_law 1103 = .ok (.iload_n 3, 1) := by decide +kernel
theorem dL_law_1104 : decode cL_law 1104 = .ok (.iconst 2, 1) := by decide +kernel
theorem dL_law_1105 : decode cL_law 1105 = .ok (.iadd, 1) := by decide +kernel
theorem dL_law_1106 : decode cL_law 1106 = .ok (.iaload, 1) := by decide +kernel
theorem dL_law_1107 : decode cL_law 1107 = .ok (.aload_n 0, 1) := by decide +kernel
theorem dL_law_1108 : decode cL_law 1108 = .ok (.iload_n 3, 1) := by decide +kernel
theorem dL_law_1109 : decode cL_law 1109 = .ok (.iconst 3, 1) := by decide +kernel
theorem dL_law_1110 : decode cL_law 1110 = .ok (.iadd, 1) := by decide +kernel
theorem dL_law_1111 : decode cL_law 1111 = .ok (.iaload, 1) := by decide +kernel
theorem dL_law_1112 : decode cL_law 1112 = .ok (.aload_n 0, 1) := by decide +kernel
theorem dL_law_1113 : decode cL_law 1113 = .ok (.iload_n 3, 1) := by decide +kernel
theorem dL_law_1114 : decode cL_law 1114 = .ok (.iconst 4, 1) := by decide +kernel
theorem dL_law_1115 : decode cL_law 1115 = .ok (.iadd, 1) := by decide +kernel
theorem dL_law_1116 : decode cL_law 1116 = .ok (.iaload, 1) := by decide +kernel
theorem dL_law_1117 : decode cL_law 1117 = .ok (.invokevirtual 116, 3) := by decide +kernel
theorem dL_law_1120 : decode cL_law 1120 = .ok (.aload_n 2, 1) := by decide +kernel
theorem dL_law_1121 : decode cL_law 1121 = .ok (.aload_n 0, 1) := by decide +kernel
theorem dL_law_1122 : decode cL_law 1122 = .ok (.iload_n 3, 1) := by decide +kernel
theorem dL_law_1123 : decode cL_law 1123 = .ok (.iconst 1, 1) := by decide +kernel
theorem dL_law_1124 : decode cL_law 1124 = .ok (.iadd, 1) := by decide +kernel
theorem dL_law_1125 : decode cL_law 1125 = .ok (.iaload, 1) := by decide +kernel
theorem dL_law_1126 : decode cL_law 1126 = .ok (.aload_n 0, 1) := by decide +kernel
theorem dL_law_1127 : decode cL_law 1127 = .ok (.iload_n 3, 1) := by decide +kernel
theorem dL_law_1128 : decode cL_law 1128 = .ok (.iconst 2, 1) := by decide +kernel
theorem dL_law_1129 : decode cL_law 1129 = .ok (.iadd, 1) := by decide +kernel
theorem dL_law_1130 : decode cL_law 1130 = .ok (.iaload, 1) := by decide +kernel
theorem dL_law_1131 : decode cL_law 1131 = .ok (.aload_n 0, 1) := by decide +kernel
theorem dL_law_1132 : decode cL_law 1132 = .ok (.iload_n 3, 1) := by decide +kernel
theorem dL_law_1133 : decode cL_law 1133 = .ok (.iconst 3, 1) := by decide +kernel
theorem dL_law_1134 : decode cL_law 1134 = .ok (.iadd, 1) := by decide +kernel
theorem dL_law_1135 : decode cL_law 1135 = .ok (.iaload, 1) := by decide +kernel
theorem dL_law_1136 : decode cL_law 1136 = .ok (.aload_n 0, 1) := by decide +kernel
theorem dL_law_1137 : decode cL_law 1137 = .ok (.iload_n 3, 1) := by decide +kernel
theorem dL_law_1138 : decode cL_law 1138 = .ok (.iconst 4, 1) := by decide +kernel
theorem dL_law_1139 : decode cL_law 1139 = .ok (.iadd, 1) := by decide +kernel
theorem dL_law_1140 : decode cL_law 1140 = .ok (.iaload, 1) := by decide +kernel
theorem dL_law_1141 : decode cL_law 1141 = .ok (.invokevirtual 120, 3) := by decide +kernel
theorem dL_law_1144 : decode cL_law 1144 = .ok (.lcmp, 1) := by decide +kernel
theorem dL_law_1145 : decode cL_law 1145 = .ok (.ifCond .eq 468, 3) := by decide +kernel
theorem dL_law_1148 : decode cL_law 1148 = .ok (.iconst 0, 1) := by decide +kernel
theorem dL_law_1149 : decode cL_law 1149 = .ok (.ireturn, 1) := by decide +kernel
theorem dL_law_1150 : decode cL_law 1150 = .ok (.aload_n 1, 1) := by decide +kernel
theorem dL_law_1151 : decode cL_law 1151 = .ok (.aload_n 0, 1) := by decide +kernel
theorem dL_law_1152 : decode cL_law 1152 = .ok (.iload_n 3, 1) := by decide +kernel
theorem dL_law_1153 : decode cL_law 1153 = .ok (.iconst 1, 1) := by decide +kernel
theorem dL_law_1154 : decode cL_law 1154 = .ok (.iadd, 1) := by decide +kernel
theorem dL_law_1155 : decode cL_law 1155 = .ok (.iaload, 1) := by decide +kernel
theorem dL_law_1156 : decode cL_law 1156 = .ok (.aload_n 0, 1) := by decide +kernel
theorem dL_law_1157 : decode cL_law 1157 = .ok (.iload_n 3, 1) := by decide +kernel
theorem dL_law_1158 : decode cL_law 1158 = .ok (.iconst 2, 1) := by decide +kernel
theorem dL_law_1159 : decode cL_law 1159 = .ok (.iadd, 1) := by decide +kernel
theorem dL_law_1160 : decode cL_law 1160 = .ok (.iaload, 1) := by decide +kernel
theorem dL_law_1161 : decode cL_law 1161 = .ok (.invokevirtual 121, 3) := by decide +kernel
theorem dL_law_1164 : decode cL_law 1164 = .ok (.aload_n 2, 1) := by decide +kernel
theorem dL_law_1165 : decode cL_law 1165 = .ok (.aload_n 0, 1) := by decide +kernel
theorem dL_law_1166 : decode cL_law 1166 = .ok (.iload_n 3, 1) := by decide +kernel
theorem dL_law_1167 : decode cL_law 1167 = .ok (.iconst 1, 1) := by decide +kernel
theorem dL_law_1168 : decode cL_law 1168 = .ok (.iadd, 1) := by decide +kernel
theorem dL_law_1169 : decode cL_law 1169 = .ok (.iaload, 1) := by decide +kernel
theorem dL_law_1170 : decode cL_law 1170 = .ok (.aload_n 0, 1) := by decide +kernel
theorem dL_law_1171 : decode cL_law 1171 = .ok (.iload_n 3, 1) := by decide +kernel
theorem dL_law_1172 : decode cL_law 1172 = .ok (.iconst 2, 1) := by decide +kernel
theorem dL_law_1173 : decode cL_law 1173 = .ok (.iadd, 1) := by decide +kernel
theorem dL_law_1174 : decode cL_law 1174 = .ok (.iaload, 1) := by decide +kernel
theorem dL_law_1175 : decode cL_law 1175 = .ok (.invokevirtual 124, 3) := by decide +kernel
theorem dL_law_1178 : decode cL_law 1178 = .ok (.if_icmp .eq 435, 3) := by decide +kernel
theorem dL_law_1181 : decode cL_law 1181 = .ok (.iconst 0, 1) := by decide +kernel
theorem dL_law_1182 : decode cL_law 1182 = .ok (.ireturn, 1) := by decide +kernel
theorem dL_law_1183 : decode cL_law 1183 = .ok (.aload_n 1, 1) := by decide +kernel
theorem dL_law_1184 : decode cL_law 1184 = .ok (.aload_n 0, 1) := by decide +kernel
theorem dL_law_1185 : decode cL_law 1185 = .ok (.iload_n 3, 1) := by decide +kernel
theorem dL_law_1186 : decode cL_law 1186 = .ok (.iconst 1, 1) := by decide +kernel
theorem dL_law_1187 : decode cL_law 1187 = .ok (.iadd, 1) := by decide +kernel
theorem dL_law_1188 : decode cL_law 1188 = .ok (.iaload, 1) := by decide +kernel
theorem dL_law_1189 : decode cL_law 1189 = .ok (.aload_n 0, 1) := by decide +kernel
theorem dL_law_1190 : decode cL_law 1190 = .ok (.iload_n 3, 1) := by decide +kernel
theorem dL_law_1191 : decode cL_law 1191 = .ok (.iconst 2, 1) := by decide +kernel
theorem dL_law_1192 : decode cL_law 1192 = .ok (.iadd, 1) := by decide +kernel
theorem dL_law_1193 : decode cL_law 1193 = .ok (.iaload, 1) := by decide +kernel
theorem dL_law_1194 : decode cL_law 1194 = .ok (.aload_n 0, 1) := by decide +kernel
theorem dL_law_1195 : decode cL_law 1195 = .ok (.iload_n 3, 1) := by decide +kernel
theorem dL_law_1196 : decode cL_law 1196 = .ok (.iconst 3, 1) := by decide +kernel
theorem dL_law_1197 : decode cL_law 1197 = .ok (.iadd, 1) := by decide +kernel
theorem dL_law_1198 : decode cL_law 1198 = .ok (.iaload, 1) := by decide +kernel
theorem dL_law_1199 : decode cL_law 1199 = .ok (.aload_n 0, 1) := by decide +kernel
theorem dL_law_1200 : decode cL_law 1200 = .ok (.iload_n 3, 1) := by decide +kernel
theorem dL_law_1201 : decode cL_law 1201 = .ok (.iconst 4, 1) := by decide +kernel
theorem dL_law_1202 : decode cL_law 1202 = .ok (.iadd, 1) := by decide +kernel
theorem dL_law_1203 : decode cL_law 1203 = .ok (.iaload, 1) := by decide +kernel
theorem dL_law_1204 : decode cL_law 1204 = .ok (.invokevirtual 125, 3) := by decide +kernel
theorem dL_law_1207 : decode cL_law 1207 = .ok (.aload_n 2, 1) := by decide +kernel
theorem dL_law_1208 : decode cL_law 1208 = .ok (.aload_n 0, 1) := by decide +kernel
theorem dL_law_1209 : decode cL_law 1209 = .ok (.iload_n 3, 1) := by decide +kernel
theorem dL_law_1210 : decode cL_law 1210 = .ok (.iconst 1, 1) := by decide +kernel
theorem dL_law_1211 : decode cL_law 1211 = .ok (.iadd, 1) := by decide +kernel
theorem dL_law_1212 : decode cL_law 1212 = .ok (.iaload, 1) := by decide +kernel
theorem dL_law_1213 : decode cL_law 1213 = .ok (.aload_n 0, 1) := by decide +kernel
theorem dL_law_1214 : decode cL_law 1214 = .ok (.iload_n 3, 1) := by decide +kernel
theorem dL_law_1215 : decode cL_law 1215 = .ok (.iconst 2, 1) := by decide +kernel
theorem dL_law_1216 : decode cL_law 1216 = .ok (.iadd, 1) := by decide +kernel
theorem dL_law_1217 : decode cL_law 1217 = .ok (.iaload, 1) := by decide +kernel
theorem dL_law_1218 : decode cL_law 1218 = .ok (.aload_n 0, 1) := by decide +kernel
theorem dL_law_1219 : decode cL_law 1219 = .ok (.iload_n 3, 1) := by decide +kernel
theorem dL_law_1220 : decode cL_law 1220 = .ok (.iconst 3, 1) := by decide +kernel
theorem dL_law_1221 : decode cL_law 1221 = .ok (.iadd, 1) := by decide +kernel
theorem dL_law_1222 : decode cL_law 1222 = .ok (.iaload, 1) := by decide +kernel
theorem dL_law_1223 : decode cL_law 1223 = .ok (.aload_n 0, 1) := by decide +kernel
theorem dL_law_1224 : decode cL_law 1224 = .ok (.iload_n 3, 1) := by decide +kernel
theorem dL_law_1225 : decode cL_law 1225 = .ok (.iconst 4, 1) := by decide +kernel
theorem dL_law_1226 : decode cL_law 1226 = .ok (.iadd, 1) := by decide +kernel
theorem dL_law_1227 : decode cL_law 1227 = .ok (.iaload, 1) := by decide +kernel
theorem dL_law_1228 : decode cL_law 1228 = .ok (.invokevirtual 128, 3) := by decide +kernel
theorem dL_law_1231 : decode cL_law 1231 = .ok (.if_icmp .eq 382, 3) := by decide +kernel
theorem dL_law_1234 : decode cL_law 1234 = .ok (.iconst 0, 1) := by decide +kernel
theorem dL_law_1235 : decode cL_law 1235 = .ok (.ireturn, 1) := by decide +kernel
theorem dL_law_1236 : decode cL_law 1236 = .ok (.aload_n 1, 1) := by decide +kernel
theorem dL_law_1237 : decode cL_law 1237 = .ok (.aload_n 0, 1) := by decide +kernel
theorem dL_law_1238 : decode cL_law 1238 = .ok (.iload_n 3, 1) := by decide +kernel
theorem dL_law_1239 : decode cL_law 1239 = .ok (.iconst 1, 1) := by decide +kernel
theorem dL_law_1240 : decode cL_law 1240 = .ok (.iadd, 1) := by decide +kernel
theorem dL_law_1241 : decode cL_law 1241 = .ok (.iaload, 1) := by decide +kernel
theorem dL_law_1242 : decode cL_law 1242 = .ok (.aload_n 0, 1) := by decide +kernel
theorem dL_law_1243 : decode cL_law 1243 = .ok (.iload_n 3, 1) := by decide +kernel
theorem dL_law_1244 : decode cL_law 1244 = .ok (.iconst 2, 1) := by decide +kernel
theorem dL_law_1245 : decode cL_law 1245 = .ok (.iadd, 1) := by decide +kernel
theorem dL_law_1246 : decode cL_law 1246 = .ok (.iaload, 1) := by decide +kernel
theorem dL_law_1247 : decode cL_law 1247 = .ok (.invokevirtual 129, 3) := by decide +kernel
theorem dL_law_1250 : decode cL_law 1250 = .ok (.aload_n 2, 1) := by decide +kernel
theorem dL_law_1251 : decode cL_law 1251 = .ok (.aload_n 0, 1) := by decide +kernel
theorem dL_law_1252 : decode cL_law 1252 = .ok (.iload_n 3, 1) := by decide +kernel
theorem dL_law_1253 : decode cL_law 1253 = .ok (.iconst 1, 1) := by decide +kernel
theorem dL_law_1254 : decode cL_law 1254 = .ok (.iadd, 1) := by decide +kernel
theorem dL_law_1255 : decode cL_law 1255 = .ok (.iaload, 1) := by decide +kernel
theorem dL_law_1256 : decode cL_law 1256 = .ok (.aload_n 0, 1) := by decide +kernel
theorem dL_law_1257 : decode cL_law 1257 = .ok (.iload_n 3, 1) := by decide +kernel
theorem dL_law_1258 : decode cL_law 1258 = .ok (.iconst 2, 1) := by decide +kernel
theorem dL_law_1259 : decode cL_law 1259 = .ok (.iadd, 1) := by decide +kernel
theorem dL_law_1260 : decode cL_law 1260 = .ok (.iaload, 1) := by decide +kernel
theorem dL_law_1261 : decode cL_law 1261 = .ok (.invokevirtual 132, 3) := by decide +kernel
theorem dL_law_1264 : decode cL_law 1264 = .ok (.if_icmp .eq 349, 3) := by decide +kernel
theorem dL_law_1267 : decode cL_law 1267 = .ok (.iconst 0, 1) := by decide +kernel
theorem dL_law_1268 : decode cL_law 1268 = .ok (.ireturn, 1) := by decide +kernel
theorem dL_law_1269 : decode cL_law 1269 = .ok (.aload_n 1, 1) := by decide +kernel
theorem dL_law_1270 : decode cL_law 1270 = .ok (.aload_n 0, 1) := by decide +kernel
theorem dL_law_1271 : decode cL_law 1271 = .ok (.iload_n 3, 1) := by decide +kernel
theorem dL_law_1272 : decode cL_law 1272 = .ok (.iconst 1, 1) := by decide +kernel
theorem dL_law_1273 : decode cL_law 1273 = .ok (.iadd, 1) := by decide +kernel
theorem dL_law_1274 : decode cL_law 1274 = .ok (.iaload, 1) := by decide +kernel
theorem dL_law_1275 : decode cL_law 1275 = .ok (.aload_n 0, 1) := by decide +kernel
theorem dL_law_1276 : decode cL_law 1276 = .ok (.iload_n 3, 1) := by decide +kernel
theorem dL_law_1277 : decode cL_law 1277 = .ok (.iconst 2, 1) := by decide +kernel
theorem dL_law_1278 : decode cL_law 1278 = .ok (.iadd, 1) := by decide +kernel
theorem dL_law_1279 : decode cL_law 1279 = .ok (.iaload, 1) := by decide +kernel
theorem dL_law_1280 : decode cL_law 1280 = .ok (.aload_n 0, 1) := by decide +kernel
theorem dL_law_1281 : decode cL_law 1281 = .ok (.iload_n 3, 1) := by decide +kernel
theorem dL_law_1282 : decode cL_law 1282 = .ok (.iconst 3, 1) := by decide +kernel
theorem dL_law_1283 : decode cL_law 1283 = .ok (.iadd, 1) := by decide +kernel
theorem dL_law_1284 : decode cL_law 1284 = .ok (.iaload, 1) := by decide +kernel
theorem dL_law_1285 : decode cL_law 1285 = .ok (.invokevirtual 133, 3) := by decide +kernel
theorem dL_law_1288 : decode cL_law 1288 = .ok (.aload_n 2, 1) := by decide +kernel
theorem dL_law_1289 : decode cL_law 1289 = .ok (.aload_n 0, 1) := by decide +kernel
theorem dL_law_1290 : decode cL_law 1290 = .ok (.iload_n 3, 1) := by decide +kernel
theorem dL_law_1291 : decode cL_law 1291 = .ok (.iconst 1, 1) := by decide +kernel
theorem dL_law_1292 : decode cL_law 1292 = .ok (.iadd, 1) := by decide +kernel
theorem dL_law_1293 : decode cL_law 1293 = .ok (.iaload, 1) := by decide +kernel
theorem dL_law_1294 : decode cL_law 1294 = .ok (.aload_n 0, 1) := by decide +kernel
theorem dL_law_1295 : decode cL_law 1295 = .ok (.iload_n 3, 1) := by decide +kernel
theorem dL_law_1296 : decode cL_law 1296 = .ok (.iconst 2, 1) := by decide +kernel
theorem dL_law_1297 : decode cL_law 1297 = .ok (.iadd, 1) := by decide +kernel
theorem dL_law_1298 : decode cL_law 1298 = .ok (.iaload, 1) := by decide +kernel
theorem dL_law_1299 : decode cL_law 1299 = .ok (.aload_n 0, 1) := by decide +kernel
theorem dL_law_1300 : decode cL_law 1300 = .ok (.iload_n 3, 1) := by decide +kernel
theorem dL_law_1301 : decode cL_law 1301 = .ok (.iconst 3, 1) := by decide +kernel
theorem dL_law_1302 : decode cL_law 1302 = .ok (.iadd, 1) := by decide +kernel
theorem dL_law_1303 : decode cL_law 1303 = .ok (.iaload, 1) := by decide +kernel
theorem dL_law_1304 : decode cL_law 1304 = .ok (.invokevirtual 136, 3) := by decide +kernel
theorem dL_law_1307 : decode cL_law 1307 = .ok (.if_icmp .eq 306, 3) := by decide +kernel
theorem dL_law_1310 : decode cL_law 1310 = .ok (.iconst 0, 1) := by decide +kernel
theorem dL_law_1311 : decode cL_law 1311 = .ok (.ireturn, 1) := by decide +kernel
theorem dL_law_1312 : decode cL_law 1312 = .ok (.aload_n 1, 1) := by decide +kernel
theorem dL_law_1313 : decode cL_law 1313 = .ok (.aload_n 0, 1) := by decide +kernel
theorem dL_law_1314 : decode cL_law 1314 = .ok (.iload_n 3, 1) := by decide +kernel
theorem dL_law_1315 : decode cL_law 1315 = .ok (.iconst 1, 1) := by decide +kernel
theorem dL_law_1316 : decode cL_law 1316 = .ok (.iadd, 1) := by decide +kernel
theorem dL_law_1317 : decode cL_law 1317 = .ok (.iaload, 1) := by decide +kernel
theorem dL_law_1318 : decode cL_law 1318 = .ok (.invokevirtual 137, 3) := by decide +kernel
theorem dL_law_1321 : decode cL_law 1321 = .ok (.aload_n 2, 1) := by decide +kernel
theorem dL_law_1322 : decode cL_law 1322 = .ok (.aload_n 0, 1) := by decide +kernel
theorem dL_law_1323 : decode cL_law 1323 = .ok (.iload_n 3, 1) := by decide +kernel
theorem dL_law_1324 : decode cL_law 1324 = .ok (.iconst 1, 1) := by decide +kernel
theorem dL_law_1325 : decode cL_law 1325 = .ok (.iadd, 1) := by decide +kernel
theorem dL_law_1326 : decode cL_law 1326 = .ok (.iaload, 1) := by decide +kernel
theorem dL_law_1327 : decode cL_law 1327 = .ok (.invokevirtual 140, 3) := by decide +kernel
theorem dL_law_1330 : decode cL_law 1330 = .ok (.if_icmp .eq 283, 3) := by decide +kernel
theorem dL_law_1333 : decode cL_law 1333 = .ok (.iconst 0, 1) := by decide +kernel
theorem dL_law_1334 : decode cL_law 1334 = .ok (.ireturn, 1) := by decide +kernel
theorem dL_law_1335 : decode cL_law 1335 = .ok (.aload_n 1, 1) := by decide +kernel
theorem dL_law_1336 : decode cL_law 1336 = .ok (.aload_n 0, 1) := by decide +kernel
theorem dL_law_1337 : decode cL_law 1337 = .ok (.iload_n 3, 1) := by decide +kernel
theorem dL_law_1338 : decode cL_law 1338 = .ok (.iconst 1, 1) := by decide +kernel
theorem dL_law_1339 : decode cL_law 1339 = .ok (.iadd, 1) := by decide +kernel
theorem dL_law_1340 : decode cL_law 1340 = .ok (.iaload, 1) := by decide +kernel
theorem dL_law_1341 : decode cL_law 1341 = .ok (.aload_n 0, 1) := by decide +kernel
theorem dL_law_1342 : decode cL_law 1342 = .ok (.iload_n 3, 1) := by decide +kernel
theorem dL_law_1343 : decode cL_law 1343 = .ok (.iconst 2, 1) := by decide +kernel
theorem dL_law_1344 : decode cL_law 1344 = .ok (.iadd, 1) := by decide +kernel
theorem dL_law_1345 : decode cL_law 1345 = .ok (.iaload, 1) := by decide +kernel
theorem dL_law_1346 : decode cL_law 1346 = .ok (.aload_n 0, 1) := by decide +kernel
theorem dL_law_1347 : decode cL_law 1347 = .ok (.iload_n 3, 1) := by decide +kernel
theorem dL_law_1348 : decode cL_law 1348 = .ok (.iconst 3, 1) := by decide +kernel
theorem dL_law_1349 : decode cL_law 1349 = .ok (.iadd, 1) := by decide +kernel
theorem dL_law_1350 : decode cL_law 1350 = .ok (.iaload, 1) := by decide +kernel
theorem dL_law_1351 : decode cL_law 1351 = .ok (.invokevirtual 141, 3) := by decide +kernel
theorem dL_law_1354 : decode cL_law 1354 = .ok (.aload_n 2, 1) := by decide +kernel
theorem dL_law_1355 : decode cL_law 1355 = .ok (.aload_n 0, 1) := by decide +kernel
theorem dL_law_1356 : decode cL_law 1356 = .ok (.iload_n 3, 1) := by decide +kernel
theorem dL_law_1357 : decode cL_law 1357 = .ok (.iconst 1, 1) := by decide +kernel
theorem dL_law_1358 : decode cL_law 1358 = .ok (.iadd, 1) := by decide +kernel
theorem dL_law_1359 : decode cL_law 1359 = .ok (.iaload, 1) := by decide +kernel
theorem dL_law_1360 : decode cL_law 1360 = .ok (.aload_n 0, 1) := by decide +kernel
theorem dL_law_1361 : decode cL_law 1361 = .ok (.iload_n 3, 1) := by decide +kernel
theorem dL_law_1362 : decode cL_law 1362 = .ok (.iconst 2, 1) := by decide +kernel
theorem dL_law_1363 : decode cL_law 1363 = .ok (.iadd, 1) := by decide +kernel
theorem dL_law_1364 : decode cL_law 1364 = .ok (.iaload, 1) := by decide +kernel
theorem dL_law_1365 : decode cL_law 1365 = .ok (.aload_n 0, 1) := by decide +kernel
theorem dL_law_1366 : decode cL_law 1366 = .ok (.iload_n 3, 1) := by decide +kernel
theorem dL_law_1367 : decode cL_law 1367 = .ok (.iconst 3, 1) := by decide +kernel
theorem dL_law_1368 : decode cL_law 1368 = .ok (.iadd, 1) := by decide +kernel
theorem dL_law_1369 : decode cL_law 1369 = .ok (.iaload, 1) := by decide +kernel
theorem dL_law_1370 : decode cL_law 1370 = .ok (.invokevirtual 144, 3) := by decide +kernel
theorem dL_law_1373 : decode cL_law 1373 = .ok (.if_icmp .eq 240, 3) := by decide +kernel
theorem dL_law_1376 : decode cL_law 1376 = .ok (.iconst 0, 1) := by decide +kernel
theorem dL_law_1377 : decode cL_law 1377 = .ok (.ireturn, 1) := by decide +kernel
theorem dL_law_1378 : decode cL_law 1378 = .ok (.aload_n 1, 1) := by decide +kernel
theorem dL_law_1379 : decode cL_law 1379 = .ok (.aload_n 0, 1) := by decide +kernel
theorem dL_law_1380 : decode cL_law 1380 = .ok (.iload_n 3, 1) := by decide +kernel
theorem dL_law_1381 : decode cL_law 1381 = .ok (.iconst 1, 1) := by decide +kernel
theorem dL_law_1382 : decode cL_law 1382 = .ok (.iadd, 1) := by decide +kernel
theorem dL_law_1383 : decode cL_law 1383 = .ok (.iaload, 1) := by decide +kernel
theorem dL_law_1384 : decode cL_law 1384 = .ok (.aload_n 0, 1) := by decide +kernel
theorem dL_law_1385 : decode cL_law 1385 = .ok (.iload_n 3, 1) := by decide +kernel
theorem dL_law_1386 : decode cL_law 1386 = .ok (.iconst 2, 1) := by decide +kernel
theorem dL_law_1387 : decode cL_law 1387 = .ok (.iadd, 1) := by decide +kernel
theorem dL_law_1388 : decode cL_law 1388 = .ok (.iaload, 1) := by decide +kernel
theorem dL_law_1389 : decode cL_law 1389 = .ok (.aload_n 0, 1) := by decide +kernel
theorem dL_law_1390 : decode cL_law 1390 = .ok (.iload_n 3, 1) := by decide +kernel
theorem dL_law_1391 : decode cL_law 1391 = .ok (.iconst 3, 1) := by decide +kernel
theorem dL_law_1392 : decode cL_law 1392 = .ok (.iadd, 1) := by decide +kernel
theorem dL_law_1393 : decode cL_law 1393 = .ok (.iaload, 1) := by decide +kernel
theorem dL_law_1394 : decode cL_law 1394 = .ok (.invokevirtual 145, 3) := by decide +kernel
theorem dL_law_1397 : decode cL_law 1397 = .ok (.aload_n 2, 1) := by decide +kernel
theorem dL_law_1398 : decode cL_law 1398 = .ok (.aload_n 0, 1) := by decide +kernel
theorem dL_law_1399 : decode cL_law 1399 = .ok (.iload_n 3, 1) := by decide +kernel
theorem dL_law_1400 : decode cL_law 1400 = .ok (.iconst 1, 1) := by decide +kernel
theorem dL_law_1401 : decode cL_law 1401 = .ok (.iadd, 1) := by decide +kernel
theorem dL_law_1402 : decode cL_law 1402 = .ok (.iaload, 1) := by decide +kernel
theorem dL_law_1403 : decode cL_law 1403 = .ok (.aload_n 0, 1) := by decide +kernel
theorem dL_law_1404 : decode cL_law 1404 = .ok (.iload_n 3, 1) := by decide +kernel
theorem dL_law_1405 : decode cL_law 1405 = .ok (.iconst 2, 1) := by decide +kernel
theorem dL_law_1406 : decode cL_law 1406 = .ok (.iadd, 1) := by decide +kernel
theorem dL_law_1407 : decode cL_law 1407 = .ok (.iaload, 1) := by decide +kernel
theorem dL_law_1408 : decode cL_law 1408 = .ok (.aload_n 0, 1) := by decide +kernel
theorem dL_law_1409 : decode cL_law 1409 = .ok (.iload_n 3, 1) := by decide +kernel
theorem dL_law_1410 : decode cL_law 1410 = .ok (.iconst 3, 1) := by decide +kernel
theorem dL_law_1411 : decode cL_law 1411 = .ok (.iadd, 1) := by decide +kernel
theorem dL_law_1412 : decode cL_law 1412 = .ok (.iaload, 1) := by decide +kernel
theorem dL_law_1413 : decode cL_law 1413 = .ok (.invokevirtual 149, 3) := by decide +kernel
theorem dL_law_1416 : decode cL_law 1416 = .ok (.lcmp, 1) := by decide +kernel
theorem dL_law_1417 : decode cL_law 1417 = .ok (.ifCond .eq 196, 3) := by decide +kernel
theorem dL_law_1420 : decode cL_law 1420 = .ok (.iconst 0, 1) := by decide +kernel
theorem dL_law_1421 : decode cL_law 1421 = .ok (.ireturn, 1) := by decide +kernel
theorem dL_law_1422 : decode cL_law 1422 = .ok (.aload_n 1, 1) := by decide +kernel
theorem dL_law_1423 : decode cL_law 1423 = .ok (.aload_n 0, 1) := by decide +kernel
theorem dL_law_1424 : decode cL_law 1424 = .ok (.iload_n 3, 1) := by decide +kernel
theorem dL_law_1425 : decode cL_law 1425 = .ok (.iconst 1, 1) := by decide +kernel
theorem dL_law_1426 : decode cL_law 1426 = .ok (.iadd, 1) := by decide +kernel
theorem dL_law_1427 : decode cL_law 1427 = .ok (.iaload, 1) := by decide +kernel
theorem dL_law_1428 : decode cL_law 1428 = .ok (.aload_n 0, 1) := by decide +kernel
theorem dL_law_1429 : decode cL_law 1429 = .ok (.iload_n 3, 1) := by decide +kernel
theorem dL_law_1430 : decode cL_law 1430 = .ok (.iconst 2, 1) := by decide +kernel
theorem dL_law_1431 : decode cL_law 1431 = .ok (.iadd, 1) := by decide +kernel
theorem dL_law_1432 : decode cL_law 1432 = .ok (.iaload, 1) := by decide +kernel
theorem dL_law_1433 : decode cL_law 1433 = .ok (.aload_n 0, 1) := by decide +kernel
theorem dL_law_1434 : decode cL_law 1434 = .ok (.iload_n 3, 1) := by decide +kernel
theorem dL_law_1435 : decode cL_law 1435 = .ok (.iconst 3, 1) := by decide +kernel
theorem dL_law_1436 : decode cL_law 1436 = .ok (.iadd, 1) := by decide +kernel
theorem dL_law_1437 : decode cL_law 1437 = .ok (.iaload, 1) := by decide +kernel
theorem dL_law_1438 : decode cL_law 1438 = .ok (.aload_n 0, 1) := by decide +kernel
theorem dL_law_1439 : decode cL_law 1439 = .ok (.iload_n 3, 1) := by decide +kernel
theorem dL_law_1440 : decode cL_law 1440 = .ok (.iconst 4, 1) := by decide +kernel
theorem dL_law_1441 : decode cL_law 1441 = .ok (.iadd, 1) := by decide +kernel
theorem dL_law_1442 : decode cL_law 1442 = .ok (.iaload, 1) := by decide +kernel
theorem dL_law_1443 : decode cL_law 1443 = .ok (.aload_n 0, 1) := by decide +kernel
theorem dL_law_1444 : decode cL_law 1444 = .ok (.iload_n 3, 1) := by decide +kernel
theorem dL_law_1445 : decode cL_law 1445 = .ok (.iconst 5, 1) := by decide +kernel
theorem dL_law_1446 : decode cL_law 1446 = .ok (.iadd, 1) := by decide +kernel
theorem dL_law_1447 : decode cL_law 1447 = .ok (.iaload, 1) := by decide +kernel
theorem dL_law_1448 : decode cL_law 1448 = .ok (.invokevirtual 150, 3) := by decide +kernel
theorem dL_law_1451 : decode cL_law 1451 = .ok (.aload_n 2, 1) := by decide +kernel
theorem dL_law_1452 : decode cL_law 1452 = .ok (.aload_n 0, 1) := by decide +kernel
theorem dL_law_1453 : decode cL_law 1453 = .ok (.iload_n 3, 1) := by decide +kernel
theorem dL_law_1454 : decode cL_law 1454 = .ok (.iconst 1, 1) := by decide +kernel
theorem dL_law_1455 : decode cL_law 1455 = .ok (.iadd, 1) := by decide +kernel
theorem dL_law_1456 : decode cL_law 1456 = .ok (.iaload, 1) := by decide +kernel
theorem dL_law_1457 : decode cL_law 1457 = .ok (.aload_n 0, 1) := by decide +kernel
theorem dL_law_1458 : decode cL_law 1458 = .ok (.iload_n 3, 1) := by decide +kernel
theorem dL_law_1459 : decode cL_law 1459 = .ok (.iconst 2, 1) := by decide +kernel
theorem dL_law_1460 : decode cL_law 1460 = .ok (.iadd, 1) := by decide +kernel
theorem dL_law_1461 : decode cL_law 1461 = .ok (.iaload, 1) := by decide +kernel
theorem dL_law_1462 : decode cL_law 1462 = .ok (.aload_n 0, 1) := by decide +kernel
theorem dL_law_1463 : decode cL_law 1463 = .ok (.iload_n 3, 1) := by decide +kernel
theorem dL_law_1464 : decode cL_law 1464 = .ok (.iconst 3, 1) := by decide +kernel
theorem dL_law_1465 : decode cL_law 1465 = .ok (.iadd, 1) := by decide +kernel
theorem dL_law_1466 : decode cL_law 1466 = .ok (.iaload, 1) := by decide +kernel
theorem dL_law_1467 : decode cL_law 1467 = .ok (.aload_n 0, 1) := by decide +kernel
theorem dL_law_1468 : decode cL_law 1468 = .ok (.iload_n 3, 1) := by decide +kernel
theorem dL_law_1469 : decode cL_law 1469 = .ok (.iconst 4, 1) := by decide +kernel
theorem dL_law_1470 : decode cL_law 1470 = .ok (.iadd, 1) := by decide +kernel
theorem dL_law_1471 : decode cL_law 1471 = .ok (.iaload, 1) := by decide +kernel
theorem dL_law_1472 : decode cL_law 1472 = .ok (.aload_n 0, 1) := by decide +kernel
theorem dL_law_1473 : decode cL_law 1473 = .ok (.iload_n 3, 1) := by decide +kernel
theorem dL_law_1474 : decode cL_law 1474 = .ok (.iconst 5, 1) := by decide +kernel
theorem dL_law_1475 : decode cL_law 1475 = .ok (.iadd, 1) := by decide +kernel
theorem dL_law_1476 : decode cL_law 1476 = .ok (.iaload, 1) := by decide +kernel
theorem dL_law_1477 : decode cL_law 1477 = .ok (.invokevirtual 154, 3) := by decide +kernel
theorem dL_law_1480 : decode cL_law 1480 = .ok (.if_icmp .eq 133, 3) := by decide +kernel
theorem dL_law_1483 : decode cL_law 1483 = .ok (.iconst 0, 1) := by decide +kernel
theorem dL_law_1484 : decode cL_law 1484 = .ok (.ireturn, 1) := by decide +kernel
theorem dL_law_1485 : decode cL_law 1485 = .ok (.aload_n 1, 1) := by decide +kernel
theorem dL_law_1486 : decode cL_law 1486 = .ok (.aload_n 0, 1) := by decide +kernel
theorem dL_law_1487 : decode cL_law 1487 = .ok (.iload_n 3, 1) := by decide +kernel
theorem dL_law_1488 : decode cL_law 1488 = .ok (.iconst 1, 1) := by decide +kernel
theorem dL_law_1489 : decode cL_law 1489 = .ok (.iadd, 1) := by decide +kernel
theorem dL_law_1490 : decode cL_law 1490 = .ok (.iaload, 1) := by decide +kernel
theorem dL_law_1491 : decode cL_law 1491 = .ok (.invokevirtual 155, 3) := by decide +kernel
theorem dL_law_1494 : decode cL_law 1494 = .ok (.aload_n 2, 1) := by decide +kernel
theorem dL_law_1495 : decode cL_law 1495 = .ok (.aload_n 0, 1) := by decide +kernel
theorem dL_law_1496 : decode cL_law 1496 = .ok (.iload_n 3, 1) := by decide +kernel
theorem dL_law_1497 : decode cL_law 1497 = .ok (.iconst 1, 1) := by decide +kernel
theorem dL_law_1498 : decode cL_law 1498 = .ok (.iadd, 1) := by decide +kernel
theorem dL_law_1499 : decode cL_law 1499 = .ok (.iaload, 1) := by decide +kernel
theorem dL_law_1500 : decode cL_law 1500 = .ok (.invokevirtual 158, 3) := by decide +kernel
theorem dL_law_1503 : decode cL_law 1503 = .ok (.if_icmp .eq 110, 3) := by decide +kernel
theorem dL_law_1506 : decode cL_law 1506 = .ok (.iconst 0, 1) := by decide +kernel
theorem dL_law_1507 : decode cL_law 1507 = .ok (.ireturn, 1) := by decide +kernel
theorem dL_law_1508 : decode cL_law 1508 = .ok (.aload_n 1, 1) := by decide +kernel
theorem dL_law_1509 : decode cL_law 1509 = .ok (.aload_n 0, 1) := by decide +kernel
theorem dL_law_1510 : decode cL_law 1510 = .ok (.iload_n 3, 1) := by decide +kernel
theorem dL_law_1511 : decode cL_law 1511 = .ok (.iconst 1, 1) := by decide +kernel
theorem dL_law_1512 : decode cL_law 1512 = .ok (.iadd, 1) := by decide +kernel
theorem dL_law_1513 : decode cL_law 1513 = .ok (.iaload, 1) := by decide +kernel
theorem dL_law_1514 : decode cL_law 1514 = .ok (.invokevirtual 159, 3) := by decide +kernel
theorem dL_law_1517 : decode cL_law 1517 = .ok (.aload_n 2, 1) := by decide +kernel
theorem dL_law_1518 : decode cL_law 1518 = .ok (.aload_n 0, 1) := by decide +kernel
theorem dL_law_1519 : decode cL_law 1519 = .ok (.iload_n 3, 1) := by decide +kernel
theorem dL_law_1520 : decode cL_law 1520 = .ok (.iconst 1, 1) := by decide +kernel
theorem dL_law_1521 : decode cL_law 1521 = .ok (.iadd, 1) := by decide +kernel
theorem dL_law_1522 : decode cL_law 1522 = .ok (.iaload, 1) := by decide +kernel
theorem dL_law_1523 : decode cL_law 1523 = .ok (.invokevirtual 162, 3) := by decide +kernel
theorem dL_law_1526 : decode cL_law 1526 = .ok (.if_icmp .eq 87, 3) := by decide +kernel
theorem dL_law_1529 : decode cL_law 1529 = .ok (.iconst 0, 1) := by decide +kernel
theorem dL_law_1530 : decode cL_law 1530 = .ok (.ireturn, 1) := by decide +kernel
theorem dL_law_1531 : decode cL_law 1531 = .ok (.aload_n 1, 1) := by decide +kernel
theorem dL_law_1532 : decode cL_law 1532 = .ok (.aload_n 0, 1) := by decide +kernel
theorem dL_law_1533 : decode cL_law 1533 = .ok (.iload_n 3, 1) := by decide +kernel
theorem dL_law_1534 : decode cL_law 1534 = .ok (.iconst 1, 1) := by decide +kernel
theorem dL_law_1535 : decode cL_law 1535 = .ok (.iadd, 1) := by decide +kernel
theorem dL_law_1536 : decode cL_law 1536 = .ok (.iaload, 1) := by decide +kernel
theorem dL_law_1537 : decode cL_law 1537 = .ok (.aload_n 0, 1) := by decide +kernel
theorem dL_law_1538 : decode cL_law 1538 = .ok (.iload_n 3, 1) := by decide +kernel
theorem dL_law_1539 : decode cL_law 1539 = .ok (.iconst 2, 1) := by decide +kernel
theorem dL_law_1540 : decode cL_law 1540 = .ok (.iadd, 1) := by decide +kernel
theorem dL_law_1541 : decode cL_law 1541 = .ok (.iaload, 1) := by decide +kernel
theorem dL_law_1542 : decode cL_law 1542 = .ok (.invokevirtual 163, 3) := by decide +kernel
theorem dL_law_1545 : decode cL_law 1545 = .ok (.aload_n 2, 1) := by decide +kernel
theorem dL_law_1546 : decode cL_law 1546 = .ok (.aload_n 0, 1) := by decide +kernel
theorem dL_law_1547 : decode cL_law 1547 = .ok (.iload_n 3, 1) := by decide +kernel
theorem dL_law_1548 : decode cL_law 1548 = .ok (.iconst 1, 1) := by decide +kernel
theorem dL_law_1549 : decode cL_law 1549 = .ok (.iadd, 1) := by decide +kernel
theorem dL_law_1550 : decode cL_law 1550 = .ok (.iaload, 1) := by decide +kernel
theorem dL_law_1551 : decode cL_law 1551 = .ok (.aload_n 0, 1) := by decide +kernel
theorem dL_law_1552 : decode cL_law 1552 = .ok (.iload_n 3, 1) := by decide +kernel
theorem dL_law_1553 : decode cL_law 1553 = .ok (.iconst 2, 1) := by decide +kernel
theorem dL_law_1554 : decode cL_law 1554 = .ok (.iadd, 1) := by decide +kernel
theorem dL_law_1555 : decode cL_law 1555 = .ok (.iaload, 1) := by decide +kernel
theorem dL_law_1556 : decode cL_law 1556 = .ok (.invokevirtual 166, 3) := by decide +kernel
theorem dL_law_1559 : decode cL_law 1559 = .ok (.if_icmp .eq 54, 3) := by decide +kernel
theorem dL_law_1562 : decode cL_law 1562 = .ok (.iconst 0, 1) := by decide +kernel
theorem dL_law_1563 : decode cL_law 1563 = .ok (.ireturn, 1) := by decide +kernel
theorem dL_law_1564 : decode cL_law 1564 = .ok (.aload_n 1, 1) := by decide +kernel
theorem dL_law_1565 : decode cL_law 1565 = .ok (.invokevirtual 167, 3) := by decide +kernel
theorem dL_law_1568 : decode cL_law 1568 = .ok (.aload_n 2, 1) := by decide +kernel
theorem dL_law_1569 : decode cL_law 1569 = .ok (.invokevirtual 170, 3) := by decide +kernel
theorem dL_law_1572 : decode cL_law 1572 = .ok (.if_icmp .eq 41, 3) := by decide +kernel
theorem dL_law_1575 : decode cL_law 1575 = .ok (.iconst 0, 1) := by decide +kernel
theorem dL_law_1576 : decode cL_law 1576 = .ok (.ireturn, 1) := by decide +kernel
theorem dL_law_1577 : decode cL_law 1577 = .ok (.aload_n 1, 1) := by decide +kernel
theorem dL_law_1578 : decode cL_law 1578 = .ok (.invokevirtual 171, 3) := by decide +kernel
theorem dL_law_1581 : decode cL_law 1581 = .ok (.aload_n 2, 1) := by decide +kernel
theorem dL_law_1582 : decode cL_law 1582 = .ok (.invokevirtual 174, 3) := by decide +kernel
theorem dL_law_1585 : decode cL_law 1585 = .ok (.if_icmp .eq 28, 3) := by decide +kernel
theorem dL_law_1588 : decode cL_law 1588 = .ok (.iconst 0, 1) := by decide +kernel
theorem dL_law_1589 : decode cL_law 1589 = .ok (.ireturn, 1) := by decide +kernel
theorem dL_law_1590 : decode cL_law 1590 = .ok (.aload_n 1, 1) := by decide +kernel
theorem dL_law_1591 : decode cL_law 1591 = .ok (.aload_n 0, 1) := by decide +kernel
theorem dL_law_1592 : decode cL_law 1592 = .ok (.iload_n 3, 1) := by decide +kernel
theorem dL_law_1593 : decode cL_law 1593 = .ok (.iconst 1, 1) := by decide +kernel
theorem dL_law_1594 : decode cL_law 1594 = .ok (.iadd, 1) := by decide +kernel
theorem dL_law_1595 : decode cL_law 1595 = .ok (.iaload, 1) := by decide +kernel
theorem dL_law_1596 : decode cL_law 1596 = .ok (.invokevirtual 175, 3) := by decide +kernel
theorem dL_law_1599 : decode cL_law 1599 = .ok (.aload_n 2, 1) := by decide +kernel
theorem dL_law_1600 : decode cL_law 1600 = .ok (.aload_n 0, 1) := by decide +kernel
theorem dL_law_1601 : decode cL_law 1601 = .ok (.iload_n 3, 1) := by decide +kernel
theorem dL_law_1602 : decode cL_law 1602 = .ok (.iconst 1, 1) := by decide +kernel
theorem dL_law_1603 : decode cL_law 1603 = .ok (.iadd, 1) := by decide +kernel
theorem dL_law_1604 : decode cL_law 1604 = .ok (.iaload, 1) := by decide +kernel
theorem dL_law_1605 : decode cL_law 1605 = .ok (.invokevirtual 178, 3) := by decide +kernel
theorem dL_law_1608 : decode cL_law 1608 = .ok (.if_icmp .eq 5, 3) := by decide +kernel
theorem dL_law_1611 : decode cL_law 1611 = .ok (.iconst 0, 1) := by decide +kernel
theorem dL_law_1612 : decode cL_law 1612 = .ok (.ireturn, 1) := by decide +kernel
theorem dL_law_1613 : decode cL_law 1613 = .ok (.iinc 3 9, 3) := by decide +kernel
theorem dL_law_1616 : decode cL_law 1616 = .ok (.goto (-1598), 3) := by decide +kernel
theorem dL_law_1619 : decode cL_law 1619 = .ok (.iconst 1, 1) := by decide +kernel
theorem dL_law_1620 : decode cL_law 1620 = .ok (.ireturn, 1) := by decide +kernel
