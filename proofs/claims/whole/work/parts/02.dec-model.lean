theorem dX6_init_0 : decode cX6_init 0 = .ok (.aload_n 0, 1) := by decide +kernel
theorem dX6_init_1 : decode cX6_init 1 = .ok (.invokespecial 1, 3) := by decide +kernel
theorem dX6_init_4 : decode cX6_init 4 = .ok (.aload_n 0, 1) := by decide +kernel
theorem dX6_init_5 : decode cX6_init 5 = .ok (.bipush 31, 2) := by decide +kernel
theorem dX6_init_7 : decode cX6_init 7 = .ok (.newarray .int, 2) := by decide +kernel
theorem dX6_init_9 : decode cX6_init 9 = .ok (.putfield 7, 3) := by decide +kernel
theorem dX6_init_12 : decode cX6_init 12 = .ok (.aload_n 0, 1) := by decide +kernel
theorem dX6_init_13 : decode cX6_init 13 = .ok (.bipush 31, 2) := by decide +kernel
theorem dX6_init_15 : decode cX6_init 15 = .ok (.newarray .int, 2) := by decide +kernel
theorem dX6_init_17 : decode cX6_init 17 = .ok (.putfield 13, 3) := by decide +kernel
theorem dX6_init_20 : decode cX6_init 20 = .ok (.aload_n 0, 1) := by decide +kernel
theorem dX6_init_21 : decode cX6_init 21 = .ok (.sipush 155, 3) := by decide +kernel
theorem dX6_init_24 : decode cX6_init 24 = .ok (.newarray .int, 2) := by decide +kernel
theorem dX6_init_26 : decode cX6_init 26 = .ok (.putfield 16, 3) := by decide +kernel
theorem dX6_init_29 : decode cX6_init 29 = .ok (.aload_n 0, 1) := by decide +kernel
theorem dX6_init_30 : decode cX6_init 30 = .ok (.iconst 3, 1) := by decide +kernel
theorem dX6_init_31 : decode cX6_init 31 = .ok (.newarray .int, 2) := by decide +kernel
theorem dX6_init_33 : decode cX6_init 33 = .ok (.putfield 19, 3) := by decide +kernel
theorem dX6_init_36 : decode cX6_init 36 = .ok (.aload_n 0, 1) := by decide +kernel
theorem dX6_init_37 : decode cX6_init 37 = .ok (.bipush 120, 2) := by decide +kernel
theorem dX6_init_39 : decode cX6_init 39 = .ok (.newarray .int, 2) := by decide +kernel
theorem dX6_init_41 : decode cX6_init 41 = .ok (.putfield 22, 3) := by decide +kernel
theorem dX6_init_44 : decode cX6_init 44 = .ok (.aload_n 0, 1) := by decide +kernel
theorem dX6_init_45 : decode cX6_init 45 = .ok (.bipush 120, 2) := by decide +kernel
theorem dX6_init_47 : decode cX6_init 47 = .ok (.newarray .int, 2) := by decide +kernel
theorem dX6_init_49 : decode cX6_init 49 = .ok (.putfield 25, 3) := by decide +kernel
theorem dX6_init_52 : decode cX6_init 52 = .ok (.aload_n 0, 1) := by decide +kernel
theorem dX6_init_53 : decode cX6_init 53 = .ok (.bipush 121, 2) := by decide +kernel
theorem dX6_init_55 : decode cX6_init 55 = .ok (.newarray .int, 2) := by decide +kernel
theorem dX6_init_57 : decode cX6_init 57 = .ok (.putfield 28, 3) := by decide +kernel
theorem dX6_init_60 : decode cX6_init 60 = .ok (.aload_n 0, 1) := by decide +kernel
theorem dX6_init_61 : decode cX6_init 61 = .ok (.bipush 120, 2) := by decide +kernel
theorem dX6_init_63 : decode cX6_init 63 = .ok (.newarray .int, 2) := by decide +kernel
theorem dX6_init_65 : decode cX6_init 65 = .ok (.putfield 31, 3) := by decide +kernel
theorem dX6_init_68 : decode cX6_init 68 = .ok (.aload_n 0, 1) := by decide +kernel
theorem dX6_init_69 : decode cX6_init 69 = .ok (.sipush 13260, 3) := by decide +kernel
theorem dX6_init_72 : decode cX6_init 72 = .ok (.newarray .long, 2) := by decide +kernel
theorem dX6_init_74 : decode cX6_init 74 = .ok (.putfield 34, 3) := by decide +kernel
theorem dX6_init_77 : decode cX6_init 77 = .ok (.aload_n 0, 1) := by decide +kernel
theorem dX6_init_78 : decode cX6_init 78 = .ok (.sipush 13260, 3) := by decide +kernel
theorem dX6_init_81 : decode cX6_init 81 = .ok (.newarray .int, 2) := by decide +kernel
theorem dX6_init_83 : decode cX6_init 83 = .ok (.putfield 38, 3) := by decide +kernel
theorem dX6_init_86 : decode cX6_init 86 = .ok (.aload_n 0, 1) := by decide +kernel
theorem dX6_init_87 : decode cX6_init 87 = .ok (.bipush 12, 2) := by decide +kernel
theorem dX6_init_89 : decode cX6_init 89 = .ok (.newarray .int, 2) := by decide +kernel
theorem dX6_init_91 : decode cX6_init 91 = .ok (.putfield 41, 3) := by decide +kernel
theorem dX6_init_94 : decode cX6_init 94 = .ok (.aload_n 0, 1) := by decide +kernel
theorem dX6_init_95 : decode cX6_init 95 = .ok (.bipush 12, 2) := by decide +kernel
theorem dX6_init_97 : decode cX6_init 97 = .ok (.newarray .int, 2) := by decide +kernel
theorem dX6_init_99 : decode cX6_init 99 = .ok (.putfield 44, 3) := by decide +kernel
theorem dX6_init_102 : decode cX6_init 102 = .ok (.aload_n 0, 1) := by decide +kernel
theorem dX6_init_103 : decode cX6_init 103 = .ok (.bipush 31, 2) := by decide +kernel
theorem dX6_init_105 : decode cX6_init 105 = .ok (.newarray .int, 2) := by decide +kernel
theorem dX6_init_107 : decode cX6_init 107 = .ok (.putfield 47, 3) := by decide +kernel
theorem dX6_init_110 : decode cX6_init 110 = .ok (.iconst 0, 1) := by decide +kernel
theorem dX6_init_111 : decode cX6_init 111 = .ok (.istore_n 1, 1) := by decide +kernel
theorem dX6_init_112 : decode cX6_init 112 = .ok (.iload_n 1, 1) := by decide +kernel
theorem dX6_init_113 : decode cX6_init 113 = .ok (.bipush 31, 2) := by decide +kernel
theorem dX6_init_115 : decode cX6_init 115 = .ok (.if_icmp .ge 38, 3) := by decide +kernel
theorem dX6_init_118 : decode cX6_init 118 = .ok (.aload_n 0, 1) := by decide +kernel
theorem dX6_init_119 : decode cX6_init 119 = .ok (.getfield 7, 3) := by decide +kernel
theorem dX6_init_122 : decode cX6_init 122 = .ok (.iload_n 1, 1) := by decide +kernel
theorem dX6_init_123 : decode cX6_init 123 = .ok (.iload_n 1, 1) := by decide +kernel
theorem dX6_init_124 : decode cX6_init 124 = .ok (.bipush 13, 2) := by decide +kernel
theorem dX6_init_126 : decode cX6_init 126 = .ok (.if_icmp .lt 15, 3) := by decide +kernel
theorem dX6_init_129 : decode cX6_init 129 = .ok (.iload_n 1, 1) := by decide +kernel
theorem dX6_init_130 : decode cX6_init 130 = .ok (.bipush 28, 2) := by decide +kernel
theorem dX6_init_132 : decode cX6_init 132 = .ok (.if_icmp .eq 9, 3) := by decide +kernel
theorem dX6_init_135 : decode cX6_init 135 = .ok (.iload_n 1, 1) := by decide +kernel
theorem dX6_init_136 : decode cX6_init 136 = .ok (.bipush 30, 2) := by decide +kernel
theorem dX6_init_138 : decode cX6_init 138 = .ok (.if_icmp .ne 7, 3) := by decide +kernel
theorem dX6_init_141 : decode cX6_init 141 = .ok (.iconst 0, 1) := by decide +kernel
theorem dX6_init_142 : decode cX6_init 142 = .ok (.goto 4, 3) := by decide +kernel
theorem dX6_init_145 : decode cX6_init 145 = .ok (.iconst (-1), 1) := by decide +kernel
theorem dX6_init_146 : decode cX6_init 146 = .ok (.iastore, 1) := by decide +kernel
theorem dX6_init_147 : decode cX6_init 147 = .ok (.iinc 1 1, 3) := by decide +kernel
theorem dX6_init_150 : decode cX6_init 150 = .ok (.goto (-38), 3) := by decide +kernel
theorem dX6_init_153 : decode cX6_init 153 = .ok (.return_, 1) := by decide +kernel
theorem dX6_in_0 : decode cX6_in 0 = .ok (.lload_n 0, 1) := by decide +kernel
theorem dX6_in_1 : decode cX6_in 1 = .ok (.lload_n 2, 1) := by decide +kernel
theorem dX6_in_2 : decode cX6_in 2 = .ok (.lcmp, 1) := by decide +kernel
theorem dX6_in_3 : decode cX6_in 3 = .ok (.ifCond .lt 14, 3) := by decide +kernel
theorem dX6_in_6 : decode cX6_in 6 = .ok (.lload_n 0, 1) := by decide +kernel
theorem dX6_in_7 : decode cX6_in 7 = .ok (.lload 4, 2) := by decide +kernel
theorem dX6_in_9 : decode cX6_in 9 = .ok (.lcmp, 1) := by decide +kernel
theorem dX6_in_10 : decode cX6_in 10 = .ok (.ifCond .gt 7, 3) := by decide +kernel
theorem dX6_in_13 : decode cX6_in 13 = .ok (.iconst 1, 1) := by decide +kernel
theorem dX6_in_14 : decode cX6_in 14 = .ok (.goto 4, 3) := by decide +kernel
theorem dX6_in_17 : decode cX6_in 17 = .ok (.iconst 0, 1) := by decide +kernel
theorem dX6_in_18 : decode cX6_in 18 = .ok (.ireturn, 1) := by decide +kernel
theorem dX6_bring_0 : decode cX6_bring 0 = .ok (.iconst 0, 1) := by decide +kernel
theorem dX6_bring_1 : decode cX6_bring 1 = .ok (.istore 4, 2) := by decide +kernel
theorem dX6_bring_3 : decode cX6_bring 3 = .ok (.iload 4, 2) := by decide +kernel
theorem dX6_bring_5 : decode cX6_bring 5 = .ok (.bipush 31, 2) := by decide +kernel
theorem dX6_bring_7 : decode cX6_bring 7 = .ok (.if_icmp .ge 21, 3) := by decide +kernel
theorem dX6_bring_10 : decode cX6_bring 10 = .ok (.aload_n 2, 1) := by decide +kernel
theorem dX6_bring_11 : decode cX6_bring 11 = .ok (.iload_n 3, 1) := by decide +kernel
theorem dX6_bring_12 : decode cX6_bring 12 = .ok (.iload 4, 2) := by decide +kernel
theorem dX6_bring_14 : decode cX6_bring 14 = .ok (.iadd, 1) := by decide +kernel
theorem dX6_bring_15 : decode cX6_bring 15 = .ok (.aload_n 0, 1) := by decide +kernel
theorem dX6_bring_16 : decode cX6_bring 16 = .ok (.iload_n 1, 1) := by decide +kernel
theorem dX6_bring_17 : decode cX6_bring 17 = .ok (.iload 4, 2) := by decide +kernel
theorem dX6_bring_19 : decode cX6_bring 19 = .ok (.iadd, 1) := by decide +kernel
theorem dX6_bring_20 : decode cX6_bring 20 = .ok (.iaload, 1) := by decide +kernel
theorem dX6_bring_21 : decode cX6_bring 21 = .ok (.iastore, 1) := by decide +kernel
theorem dX6_bring_22 : decode cX6_bring 22 = .ok (.iinc 4 1, 3) := by decide +kernel
theorem dX6_bring_25 : decode cX6_bring 25 = .ok (.goto (-22), 3) := by decide +kernel
theorem dX6_bring_28 : decode cX6_bring 28 = .ok (.return_, 1) := by decide +kernel
theorem dX6_refuse_0 : decode cX6_refuse 0 = .ok (.aload_n 0, 1) := by decide +kernel
theorem dX6_refuse_1 : decode cX6_refuse 1 = .ok (.getfield 19, 3) := by decide +kernel
theorem dX6_refuse_4 : decode cX6_refuse 4 = .ok (.bipush (-2), 2) := by decide +kernel
theorem dX6_refuse_6 : decode cX6_refuse 6 = .ok (.iload_n 1, 1) := by decide +kernel
theorem dX6_refuse_7 : decode cX6_refuse 7 = .ok (.isub, 1) := by decide +kernel
theorem dX6_refuse_8 : decode cX6_refuse 8 = .ok (.dup2, 1) := by decide +kernel
theorem dX6_refuse_9 : decode cX6_refuse 9 = .ok (.iaload, 1) := by decide +kernel
theorem dX6_refuse_10 : decode cX6_refuse 10 = .ok (.iconst 1, 1) := by decide +kernel
theorem dX6_refuse_11 : decode cX6_refuse 11 = .ok (.iadd, 1) := by decide +kernel
theorem dX6_refuse_12 : decode cX6_refuse 12 = .ok (.iastore, 1) := by decide +kernel
theorem dX6_refuse_13 : decode cX6_refuse 13 = .ok (.iload_n 1, 1) := by decide +kernel
theorem dX6_refuse_14 : decode cX6_refuse 14 = .ok (.ireturn, 1) := by decide +kernel
theorem dX6_save_0 : decode cX6_save 0 = .ok (.aload_n 0, 1) := by decide +kernel
theorem dX6_save_1 : decode cX6_save 1 = .ok (.getfield 7, 3) := by decide +kernel
theorem dX6_save_4 : decode cX6_save 4 = .ok (.iconst 0, 1) := by decide +kernel
theorem dX6_save_5 : decode cX6_save 5 = .ok (.aload_n 0, 1) := by decide +kernel
theorem dX6_save_6 : decode cX6_save 6 = .ok (.getfield 13, 3) := by decide +kernel
theorem dX6_save_9 : decode cX6_save 9 = .ok (.iconst 0, 1) := by decide +kernel
theorem dX6_save_10 : decode cX6_save 10 = .ok (.invokestatic 50, 3) := by decide +kernel
theorem dX6_save_13 : decode cX6_save 13 = .ok (.return_, 1) := by decide +kernel
theorem dX6_finish_0 : decode cX6_finish 0 = .ok (.iload_n 1, 1) := by decide +kernel
theorem dX6_finish_1 : decode cX6_finish 1 = .ok (.bipush (-2), 2) := by decide +kernel
theorem dX6_finish_3 : decode cX6_finish 3 = .ok (.if_icmp .gt 9, 3) := by decide +kernel
theorem dX6_finish_6 : decode cX6_finish 6 = .ok (.aload_n 0, 1) := by decide +kernel
theorem dX6_finish_7 : decode cX6_finish 7 = .ok (.iload_n 1, 1) := by decide +kernel
theorem dX6_finish_8 : decode cX6_finish 8 = .ok (.invokevirtual 54, 3) := by decide +kernel
theorem dX6_finish_11 : decode cX6_finish 11 = .ok (.ireturn, 1) := by decide +kernel
theorem dX6_finish_12 : decode cX6_finish 12 = .ok (.aload_n 0, 1) := by decide +kernel
theorem dX6_finish_13 : decode cX6_finish 13 = .ok (.getfield 58, 3) := by decide +kernel
theorem dX6_finish_16 : decode cX6_finish 16 = .ok (.iconst 5, 1) := by decide +kernel
theorem dX6_finish_17 : decode cX6_finish 17 = .ok (.if_icmp .ne 42, 3) := by decide +kernel
theorem dX6_finish_20 : decode cX6_finish 20 = .ok (.iconst 0, 1) := by decide +kernel
theorem dX6_finish_21 : decode cX6_finish 21 = .ok (.istore_n 2, 1) := by decide +kernel
theorem dX6_finish_22 : decode cX6_finish 22 = .ok (.iload_n 2, 1) := by decide +kernel
theorem dX6_finish_23 : decode cX6_finish 23 = .ok (.bipush 124, 2) := by decide +kernel
theorem dX6_finish_25 : decode cX6_finish 25 = .ok (.if_icmp .ge 24, 3) := by decide +kernel
theorem dX6_finish_28 : decode cX6_finish 28 = .ok (.aload_n 0, 1) := by decide +kernel
theorem dX6_finish_29 : decode cX6_finish 29 = .ok (.getfield 16, 3) := by decide +kernel
theorem dX6_finish_32 : decode cX6_finish 32 = .ok (.iload_n 2, 1) := by decide +kernel
theorem dX6_finish_33 : decode cX6_finish 33 = .ok (.aload_n 0, 1) := by decide +kernel
theorem dX6_finish_34 : decode cX6_finish 34 = .ok (.getfield 16, 3) := by decide +kernel
theorem dX6_finish_37 : decode cX6_finish 37 = .ok (.iload_n 2, 1) := by decide +kernel
theorem dX6_finish_38 : decode cX6_finish 38 = .ok (.bipush 31, 2) := by decide +kernel
theorem dX6_finish_40 : decode cX6_finish 40 = .ok (.iadd, 1) := by decide +kernel
theorem dX6_finish_41 : decode cX6_finish 41 = .ok (.iaload, 1) := by decide +kernel
theorem dX6_finish_42 : decode cX6_finish 42 = .ok (.iastore, 1) := by decide +kernel
theorem dX6_finish_43 : decode cX6_finish 43 = .ok (.iinc 2 1, 3) := by decide +kernel
theorem dX6_finish_46 : decode cX6_finish 46 = .ok (.goto (-24), 3) := by decide +kernel
theorem dX6_finish_49 : decode cX6_finish 49 = .ok (.aload_n 0, 1) := by decide +kernel
theorem dX6_finish_50 : decode cX6_finish 50 = .ok (.dup, 1) := by decide +kernel
theorem dX6_finish_51 : decode cX6_finish 51 = .ok (.getfield 58, 3) := by decide +kernel
theorem dX6_finish_54 : decode cX6_finish 54 = .ok (.iconst 1, 1) := by decide +kernel
theorem dX6_finish_55 : decode cX6_finish 55 = .ok (.isub, 1) := by decide +kernel
theorem dX6_finish_56 : decode cX6_finish 56 = .ok (.putfield 58, 3) := by decide +kernel
theorem dX6_finish_59 : decode cX6_finish 59 = .ok (.aload_n 0, 1) := by decide +kernel
theorem dX6_finish_60 : decode cX6_finish 60 = .ok (.getfield 13, 3) := by decide +kernel
theorem dX6_finish_63 : decode cX6_finish 63 = .ok (.iconst 0, 1) := by decide +kernel
theorem dX6_finish_64 : decode cX6_finish 64 = .ok (.aload_n 0, 1) := by decide +kernel
theorem dX6_finish_65 : decode cX6_finish 65 = .ok (.getfield 16, 3) := by decide +kernel
theorem dX6_finish_68 : decode cX6_finish 68 = .ok (.bipush 31, 2) := by decide +kernel
theorem dX6_finish_70 : decode cX6_finish 70 = .ok (.aload_n 0, 1) := by decide +kernel
theorem dX6_finish_71 : decode cX6_finish 71 = .ok (.getfield 58, 3) := by decide +kernel
theorem dX6_finish_74 : decode cX6_finish 74 = .ok (.imul, 1) := by decide +kernel
theorem dX6_finish_75 : decode cX6_finish 75 = .ok (.invokestatic 50, 3) := by decide +kernel
theorem dX6_finish_78 : decode cX6_finish 78 = .ok (.aload_n 0, 1) := by decide +kernel
theorem dX6_finish_79 : decode cX6_finish 79 = .ok (.dup, 1) := by decide +kernel
theorem dX6_finish_80 : decode cX6_finish 80 = .ok (.getfield 58, 3) := by decide +kernel
theorem dX6_finish_83 : decode cX6_finish 83 = .ok (.iconst 1, 1) := by decide +kernel
theorem dX6_finish_84 : decode cX6_finish 84 = .ok (.iadd, 1) := by decide +kernel
theorem dX6_finish_85 : decode cX6_finish 85 = .ok (.putfield 58, 3) := by decide +kernel
theorem dX6_finish_88 : decode cX6_finish 88 = .ok (.iload_n 1, 1) := by decide +kernel
theorem dX6_finish_89 : decode cX6_finish 89 = .ok (.ireturn, 1) := by decide +kernel
theorem dX6_isQuarter_0 : decode cX6_isQuarter 0 = .ok (.iload_n 1, 1) := by decide +kernel
theorem dX6_isQuarter_1 : decode cX6_isQuarter 1 = .ok (.i2l, 1) := by decide +kernel
theorem dX6_isQuarter_2 : decode cX6_isQuarter 2 = .ok (.lconst 0, 1) := by decide +kernel
theorem dX6_isQuarter_3 : decode cX6_isQuarter 3 = .ok (.aload_n 0, 1) := by decide +kernel
theorem dX6_isQuarter_4 : decode cX6_isQuarter 4 = .ok (.getfield 7, 3) := by decide +kernel
theorem dX6_isQuarter_7 : decode cX6_isQuarter 7 = .ok (.iconst 0, 1) := by decide +kernel
theorem dX6_isQuarter_8 : decode cX6_isQuarter 8 = .ok (.iaload, 1) := by decide +kernel
theorem dX6_isQuarter_9 : decode cX6_isQuarter 9 = .ok (.iconst 1, 1) := by decide +kernel
theorem dX6_isQuarter_10 : decode cX6_isQuarter 10 = .ok (.isub, 1) := by decide +kernel
theorem dX6_isQuarter_11 : decode cX6_isQuarter 11 = .ok (.i2l, 1) := by decide +kernel
theorem dX6_isQuarter_12 : decode cX6_isQuarter 12 = .ok (.invokestatic 62, 3) := by decide +kernel
theorem dX6_isQuarter_15 : decode cX6_isQuarter 15 = .ok (.ireturn, 1) := by decide +kernel
theorem dX6_isYear_0 : decode cX6_isYear 0 = .ok (.iload_n 0, 1) := by decide +kernel
theorem dX6_isYear_1 : decode cX6_isYear 1 = .ok (.i2l, 1) := by decide +kernel
theorem dX6_isYear_2 : decode cX6_isYear 2 = .ok (.lconst 0, 1) := by decide +kernel
theorem dX6_isYear_3 : decode cX6_isYear 3 = .ok (.ldc2_w 66, 3) := by decide +kernel
theorem dX6_isYear_6 : decode cX6_isYear 6 = .ok (.invokestatic 62, 3) := by decide +kernel
theorem dX6_isYear_9 : decode cX6_isYear 9 = .ok (.ireturn, 1) := by decide +kernel
theorem dX6_putQuarter_0 : decode cX6_putQuarter 0 = .ok (.iload_n 1, 1) := by decide +kernel
theorem dX6_putQuarter_1 : decode cX6_putQuarter 1 = .ok (.i2l, 1) := by decide +kernel
theorem dX6_putQuarter_2 : decode cX6_putQuarter 2 = .ok (.lconst 1, 1) := by decide +kernel
theorem dX6_putQuarter_3 : decode cX6_putQuarter 3 = .ok (.ldc2_w 68, 3) := by decide +kernel
theorem dX6_putQuarter_6 : decode cX6_putQuarter 6 = .ok (.invokestatic 62, 3) := by decide +kernel
theorem dX6_putQuarter_9 : decode cX6_putQuarter 9 = .ok (.ifCond .ne 6, 3) := by decide +kernel
theorem dX6_putQuarter_12 : decode cX6_putQuarter 12 = .ok (.bipush (-2), 2) := by decide +kernel
theorem dX6_putQuarter_14 : decode cX6_putQuarter 14 = .ok (.ireturn, 1) := by decide +kernel
theorem dX6_putQuarter_15 : decode cX6_putQuarter 15 = .ok (.aload_n 0, 1) := by decide +kernel
theorem dX6_putQuarter_16 : decode cX6_putQuarter 16 = .ok (.getfield 7, 3) := by decide +kernel
theorem dX6_putQuarter_19 : decode cX6_putQuarter 19 = .ok (.iconst 0, 1) := by decide +kernel
theorem dX6_putQuarter_20 : decode cX6_putQuarter 20 = .ok (.iaload, 1) := by decide +kernel
theorem dX6_putQuarter_21 : decode cX6_putQuarter 21 = .ok (.bipush 12, 2) := by decide +kernel
theorem dX6_putQuarter_23 : decode cX6_putQuarter 23 = .ok (.if_icmp .ne 6, 3) := by decide +kernel
theorem dX6_putQuarter_26 : decode cX6_putQuarter 26 = .ok (.bipush (-4), 2) := by decide +kernel
theorem dX6_putQuarter_28 : decode cX6_putQuarter 28 = .ok (.ireturn, 1) := by decide +kernel
theorem dX6_putQuarter_29 : decode cX6_putQuarter 29 = .ok (.aload_n 0, 1) := by decide +kernel
theorem dX6_putQuarter_30 : decode cX6_putQuarter 30 = .ok (.getfield 7, 3) := by decide +kernel
theorem dX6_putQuarter_33 : decode cX6_putQuarter 33 = .ok (.iconst 0, 1) := by decide +kernel
theorem dX6_putQuarter_34 : decode cX6_putQuarter 34 = .ok (.iaload, 1) := by decide +kernel
theorem dX6_putQuarter_35 : decode cX6_putQuarter 35 = .ok (.istore_n 2, 1) := by decide +kernel
theorem dX6_putQuarter_36 : decode cX6_putQuarter 36 = .ok (.aload_n 0, 1) := by decide +kernel
theorem dX6_putQuarter_37 : decode cX6_putQuarter 37 = .ok (.getfield 7, 3) := by decide +kernel
theorem dX6_putQuarter_40 : decode cX6_putQuarter 40 = .ok (.iconst 1, 1) := by decide +kernel
theorem dX6_putQuarter_41 : decode cX6_putQuarter 41 = .ok (.iload_n 2, 1) := by decide +kernel
theorem dX6_putQuarter_42 : decode cX6_putQuarter 42 = .ok (.iadd, 1) := by decide +kernel
theorem dX6_putQuarter_43 : decode cX6_putQuarter 43 = .ok (.iload_n 1, 1) := by decide +kernel
theorem dX6_putQuarter_44 : decode cX6_putQuarter 44 = .ok (.iastore, 1) := by decide +kernel
theorem dX6_putQuarter_45 : decode cX6_putQuarter 45 = .ok (.aload_n 0, 1) := by decide +kernel
theorem dX6_putQuarter_46 : decode cX6_putQuarter 46 = .ok (.getfield 7, 3) := by decide +kernel
theorem dX6_putQuarter_49 : decode cX6_putQuarter 49 = .ok (.iconst 0, 1) := by decide +kernel
theorem dX6_putQuarter_50 : decode cX6_putQuarter 50 = .ok (.dup2, 1) := by decide +kernel
theorem dX6_putQuarter_51 : decode cX6_putQuarter 51 = .ok (.iaload, 1) := by decide +kernel
theorem dX6_putQuarter_52 : decode cX6_putQuarter 52 = .ok (.iconst 1, 1) := by decide +kernel
theorem dX6_putQuarter_53 : decode cX6_putQuarter 53 = .ok (.iadd, 1) := by decide +kernel
theorem dX6_putQuarter_54 : decode cX6_putQuarter 54 = .ok (.iastore, 1) := by decide +kernel
theorem dX6_putQuarter_55 : decode cX6_putQuarter 55 = .ok (.iload_n 2, 1) := by decide +kernel
theorem dX6_putQuarter_56 : decode cX6_putQuarter 56 = .ok (.ireturn, 1) := by decide +kernel
theorem dX6_putIndicator_0 : decode cX6_putIndicator 0 = .ok (.aload_n 0, 1) := by decide +kernel
theorem dX6_putIndicator_1 : decode cX6_putIndicator 1 = .ok (.iload_n 1, 1) := by decide +kernel
theorem dX6_putIndicator_2 : decode cX6_putIndicator 2 = .ok (.invokevirtual 70, 3) := by decide +kernel
theorem dX6_putIndicator_5 : decode cX6_putIndicator 5 = .ok (.ifCond .eq 15, 3) := by decide +kernel
theorem dX6_putIndicator_8 : decode cX6_putIndicator 8 = .ok (.iload_n 2, 1) := by decide +kernel
theorem dX6_putIndicator_9 : decode cX6_putIndicator 9 = .ok (.i2l, 1) := by decide +kernel
theorem dX6_putIndicator_10 : decode cX6_putIndicator 10 = .ok (.lconst 1, 1) := by decide +kernel
theorem dX6_putIndicator_11 : decode cX6_putIndicator 11 = .ok (.ldc2_w 68, 3) := by decide +kernel
theorem dX6_putIndicator_14 : decode cX6_putIndicator 14 = .ok (.invokestatic 62, 3) := by decide +kernel
theorem dX6_putIndicator_17 : decode cX6_putIndicator 17 = .ok (.ifCond .ne 6, 3) := by decide +kernel
theorem dX6_putIndicator_20 : decode cX6_putIndicator 20 = .ok (.bipush (-2), 2) := by decide +kernel
theorem dX6_putIndicator_22 : decode cX6_putIndicator 22 = .ok (.ireturn, 1) := by decide +kernel
theorem dX6_putIndicator_23 : decode cX6_putIndicator 23 = .ok (.aload_n 0, 1) := by decide +kernel
theorem dX6_putIndicator_24 : decode cX6_putIndicator 24 = .ok (.getfield 7, 3) := by decide +kernel
theorem dX6_putIndicator_27 : decode cX6_putIndicator 27 = .ok (.iconst 1, 1) := by decide +kernel
theorem dX6_putIndicator_28 : decode cX6_putIndicator 28 = .ok (.iload_n 1, 1) := by decide +kernel
theorem dX6_putIndicator_29 : decode cX6_putIndicator 29 = .ok (.iadd, 1) := by decide +kernel
theorem dX6_putIndicator_30 : decode cX6_putIndicator 30 = .ok (.iaload, 1) := by decide +kernel
theorem dX6_putIndicator_31 : decode cX6_putIndicator 31 = .ok (.istore_n 3, 1) := by decide +kernel
theorem dX6_putIndicator_32 : decode cX6_putIndicator 32 = .ok (.aload_n 0, 1) := by decide +kernel
theorem dX6_putIndicator_33 : decode cX6_putIndicator 33 = .ok (.getfield 7, 3) := by decide +kernel
theorem dX6_putIndicator_36 : decode cX6_putIndicator 36 = .ok (.iconst 1, 1) := by decide +kernel
theorem dX6_putIndicator_37 : decode cX6_putIndicator 37 = .ok (.iload_n 1, 1) := by decide +kernel
theorem dX6_putIndicator_38 : decode cX6_putIndicator 38 = .ok (.iadd, 1) := by decide +kernel
theorem dX6_putIndicator_39 : decode cX6_putIndicator 39 = .ok (.iload_n 2, 1) := by decide +kernel
theorem dX6_putIndicator_40 : decode cX6_putIndicator 40 = .ok (.iastore, 1) := by decide +kernel
theorem dX6_putIndicator_41 : decode cX6_putIndicator 41 = .ok (.iload_n 3, 1) := by decide +kernel
theorem dX6_putIndicator_42 : decode cX6_putIndicator 42 = .ok (.ireturn, 1) := by decide +kernel
theorem dX6_putTotal_0 : decode cX6_putTotal 0 = .ok (.iload_n 1, 1) := by decide +kernel
theorem dX6_putTotal_1 : decode cX6_putTotal 1 = .ok (.invokestatic 74, 3) := by decide +kernel
theorem dX6_putTotal_4 : decode cX6_putTotal 4 = .ok (.ifCond .eq 15, 3) := by decide +kernel
theorem dX6_putTotal_7 : decode cX6_putTotal 7 = .ok (.iload_n 2, 1) := by decide +kernel
theorem dX6_putTotal_8 : decode cX6_putTotal 8 = .ok (.i2l, 1) := by decide +kernel
theorem dX6_putTotal_9 : decode cX6_putTotal 9 = .ok (.lconst 0, 1) := by decide +kernel
theorem dX6_putTotal_10 : decode cX6_putTotal 10 = .ok (.ldc2_w 77, 3) := by decide +kernel
theorem dX6_putTotal_13 : decode cX6_putTotal 13 = .ok (.invokestatic 62, 3) := by decide +kernel
theorem dX6_putTotal_16 : decode cX6_putTotal 16 = .ok (.ifCond .ne 6, 3) := by decide +kernel
theorem dX6_putTotal_19 : decode cX6_putTotal 19 = .ok (.bipush (-2), 2) := by decide +kernel
theorem dX6_putTotal_21 : decode cX6_putTotal 21 = .ok (.ireturn, 1) := by decide +kernel
theorem dX6_putTotal_22 : decode cX6_putTotal 22 = .ok (.aload_n 0, 1) := by decide +kernel
theorem dX6_putTotal_23 : decode cX6_putTotal 23 = .ok (.getfield 7, 3) := by decide +kernel
theorem dX6_putTotal_26 : decode cX6_putTotal 26 = .ok (.iconst 0, 1) := by decide +kernel
theorem dX6_putTotal_27 : decode cX6_putTotal 27 = .ok (.iaload, 1) := by decide +kernel
theorem dX6_putTotal_28 : decode cX6_putTotal 28 = .ok (.iconst 4, 1) := by decide +kernel
theorem dX6_putTotal_29 : decode cX6_putTotal 29 = .ok (.iload_n 1, 1) := by decide +kernel
theorem dX6_putTotal_30 : decode cX6_putTotal 30 = .ok (.imul, 1) := by decide +kernel
theorem dX6_putTotal_31 : decode cX6_putTotal 31 = .ok (.iconst 4, 1) := by decide +kernel
theorem dX6_putTotal_32 : decode cX6_putTotal 32 = .ok (.iadd, 1) := by decide +kernel
theorem dX6_putTotal_33 : decode cX6_putTotal 33 = .ok (.if_icmp .ge 6, 3) := by decide +kernel
theorem dX6_putTotal_36 : decode cX6_putTotal 36 = .ok (.bipush (-3), 2) := by decide +kernel
theorem dX6_putTotal_38 : decode cX6_putTotal 38 = .ok (.ireturn, 1) := by decide +kernel
theorem dX6_putTotal_39 : decode cX6_putTotal 39 = .ok (.aload_n 0, 1) := by decide +kernel
theorem dX6_putTotal_40 : decode cX6_putTotal 40 = .ok (.getfield 7, 3) := by decide +kernel
theorem dX6_putTotal_43 : decode cX6_putTotal 43 = .ok (.bipush 13, 2) := by decide +kernel
theorem dX6_putTotal_45 : decode cX6_putTotal 45 = .ok (.iload_n 1, 1) := by decide +kernel
theorem dX6_putTotal_46 : decode cX6_putTotal 46 = .ok (.iadd, 1) := by decide +kernel
theorem dX6_putTotal_47 : decode cX6_putTotal 47 = .ok (.iaload, 1) := by decide +kernel
theorem dX6_putTotal_48 : decode cX6_putTotal 48 = .ok (.istore_n 3, 1) := by decide +kernel
theorem dX6_putTotal_49 : decode cX6_putTotal 49 = .ok (.aload_n 0, 1) := by decide +kernel
theorem dX6_putTotal_50 : decode cX6_putTotal 50 = .ok (.getfield 7, 3) := by decide +kernel
theorem dX6_putTotal_53 : decode cX6_putTotal 53 = .ok (.bipush 13, 2) := by decide +kernel
theorem dX6_putTotal_55 : decode cX6_putTotal 55 = .ok (.iload_n 1, 1) := by decide +kernel
theorem dX6_putTotal_56 : decode cX6_putTotal 56 = .ok (.iadd, 1) := by decide +kernel
theorem dX6_putTotal_57 : decode cX6_putTotal 57 = .ok (.iload_n 2, 1) := by decide +kernel
theorem dX6_putTotal_58 : decode cX6_putTotal 58 = .ok (.iastore, 1) := by decide +kernel
theorem dX6_putTotal_59 : decode cX6_putTotal 59 = .ok (.iload_n 3, 1) := by decide +kernel
theorem dX6_putTotal_60 : decode cX6_putTotal 60 = .ok (.ireturn, 1) := by decide +kernel
theorem dX6_dropTotal_0 : decode cX6_dropTotal 0 = .ok (.iload_n 1, 1) := by decide +kernel
theorem dX6_dropTotal_1 : decode cX6_dropTotal 1 = .ok (.invokestatic 74, 3) := by decide +kernel
theorem dX6_dropTotal_4 : decode cX6_dropTotal 4 = .ok (.ifCond .ne 6, 3) := by decide +kernel
theorem dX6_dropTotal_7 : decode cX6_dropTotal 7 = .ok (.bipush (-2), 2) := by decide +kernel
theorem dX6_dropTotal_9 : decode cX6_dropTotal 9 = .ok (.ireturn, 1) := by decide +kernel
theorem dX6_dropTotal_10 : decode cX6_dropTotal 10 = .ok (.aload_n 0, 1) := by decide +kernel
theorem dX6_dropTotal_11 : decode cX6_dropTotal 11 = .ok (.getfield 7, 3) := by decide +kernel
theorem dX6_dropTotal_14 : decode cX6_dropTotal 14 = .ok (.bipush 13, 2) := by decide +kernel
theorem dX6_dropTotal_16 : decode cX6_dropTotal 16 = .ok (.iload_n 1, 1) := by decide +kernel
theorem dX6_dropTotal_17 : decode cX6_dropTotal 17 = .ok (.iadd, 1) := by decide +kernel
theorem dX6_dropTotal_18 : decode cX6_dropTotal 18 = .ok (.iaload, 1) := by decide +kernel
theorem dX6_dropTotal_19 : decode cX6_dropTotal 19 = .ok (.istore_n 2, 1) := by decide +kernel
theorem dX6_dropTotal_20 : decode cX6_dropTotal 20 = .ok (.aload_n 0, 1) := by decide +kernel
theorem dX6_dropTotal_21 : decode cX6_dropTotal 21 = .ok (.getfield 7, 3) := by decide +kernel
theorem dX6_dropTotal_24 : decode cX6_dropTotal 24 = .ok (.bipush 13, 2) := by decide +kernel
theorem dX6_dropTotal_26 : decode cX6_dropTotal 26 = .ok (.iload_n 1, 1) := by decide +kernel
theorem dX6_dropTotal_27 : decode cX6_dropTotal 27 = .ok (.iadd, 1) := by decide +kernel
theorem dX6_dropTotal_28 : decode cX6_dropTotal 28 = .ok (.iconst (-1), 1) := by decide +kernel
theorem dX6_dropTotal_29 : decode cX6_dropTotal 29 = .ok (.iastore, 1) := by decide +kernel
theorem dX6_dropTotal_30 : decode cX6_dropTotal 30 = .ok (.iload_n 2, 1) := by decide +kernel
theorem dX6_dropTotal_31 : decode cX6_dropTotal 31 = .ok (.iconst (-1), 1) := by decide +kernel
theorem dX6_dropTotal_32 : decode cX6_dropTotal 32 = .ok (.if_icmp .ne 8, 3) := by decide +kernel
theorem dX6_dropTotal_35 : decode cX6_dropTotal 35 = .ok (.bipush (-3), 2) := by decide +kernel
theorem dX6_dropTotal_37 : decode cX6_dropTotal 37 = .ok (.goto 4, 3) := by decide +kernel
theorem dX6_dropTotal_40 : decode cX6_dropTotal 40 = .ok (.iload_n 2, 1) := by decide +kernel
theorem dX6_dropTotal_41 : decode cX6_dropTotal 41 = .ok (.ireturn, 1) := by decide +kernel
theorem dX6_ones_0 : decode cX6_ones 0 = .ok (.iconst 0, 1) := by decide +kernel
theorem dX6_ones_1 : decode cX6_ones 1 = .ok (.istore_n 1, 1) := by decide +kernel
theorem dX6_ones_2 : decode cX6_ones 2 = .ok (.iconst 0, 1) := by decide +kernel
theorem dX6_ones_3 : decode cX6_ones 3 = .ok (.istore_n 2, 1) := by decide +kernel
theorem dX6_ones_4 : decode cX6_ones 4 = .ok (.iload_n 2, 1) := by decide +kernel
theorem dX6_ones_5 : decode cX6_ones 5 = .ok (.bipush 12, 2) := by decide +kernel
theorem dX6_ones_7 : decode cX6_ones 7 = .ok (.if_icmp .ge 17, 3) := by decide +kernel
theorem dX6_ones_10 : decode cX6_ones 10 = .ok (.iload_n 1, 1) := by decide +kernel
theorem dX6_ones_11 : decode cX6_ones 11 = .ok (.iload_n 0, 1) := by decide +kernel
theorem dX6_ones_12 : decode cX6_ones 12 = .ok (.iload_n 2, 1) := by decide +kernel
theorem dX6_ones_13 : decode cX6_ones 13 = .ok (.ishr, 1) := by decide +kernel
theorem dX6_ones_14 : decode cX6_ones 14 = .ok (.iconst 1, 1) := by decide +kernel
theorem dX6_ones_15 : decode cX6_ones 15 = .ok (.iand, 1) := by decide +kernel
theorem dX6_ones_16 : decode cX6_ones 16 = .ok (.iadd, 1) := by decide +kernel
theorem dX6_ones_17 : decode cX6_ones 17 = .ok (.istore_n 1, 1) := by decide +kernel
theorem dX6_ones_18 : decode cX6_ones 18 = .ok (.iinc 2 1, 3) := by decide +kernel
theorem dX6_ones_21 : decode cX6_ones 21 = .ok (.goto (-17), 3) := by decide +kernel
theorem dX6_ones_24 : decode cX6_ones 24 = .ok (.iload_n 1, 1) := by decide +kernel
theorem dX6_ones_25 : decode cX6_ones 25 = .ok (.ireturn, 1) := by decide +kernel
theorem dX6_putFrozen_0 : decode cX6_putFrozen 0 = .ok (.aload_n 0, 1) := by decide +kernel
theorem dX6_putFrozen_1 : decode cX6_putFrozen 1 = .ok (.iload_n 1, 1) := by decide +kernel
theorem dX6_putFrozen_2 : decode cX6_putFrozen 2 = .ok (.invokevirtual 70, 3) := by decide +kernel
theorem dX6_putFrozen_5 : decode cX6_putFrozen 5 = .ok (.ifCond .eq 13, 3) := by decide +kernel
theorem dX6_putFrozen_8 : decode cX6_putFrozen 8 = .ok (.iload_n 2, 1) := by decide +kernel
theorem dX6_putFrozen_9 : decode cX6_putFrozen 9 = .ok (.i2l, 1) := by decide +kernel
theorem dX6_putFrozen_10 : decode cX6_putFrozen 10 = .ok (.lconst 0, 1) := by decide +kernel
theorem dX6_putFrozen_11 : decode cX6_putFrozen 11 = .ok (.lconst 1, 1) := by decide +kernel
theorem dX6_putFrozen_12 : decode cX6_putFrozen 12 = .ok (.invokestatic 62, 3) := by decide +kernel
theorem dX6_putFrozen_15 : decode cX6_putFrozen 15 = .ok (.ifCond .ne 6, 3) := by decide +kernel
theorem dX6_putFrozen_18 : decode cX6_putFrozen 18 = .ok (.bipush (-2), 2) := by decide +kernel
theorem dX6_putFrozen_20 : decode cX6_putFrozen 20 = .ok (.ireturn, 1) := by decide +kernel
theorem dX6_putFrozen_21 : decode cX6_putFrozen 21 = .ok (.aload_n 0, 1) := by decide +kernel
theorem dX6_putFrozen_22 : decode cX6_putFrozen 22 = .ok (.getfield 7, 3) := by decide +kernel
theorem dX6_putFrozen_25 : decode cX6_putFrozen 25 = .ok (.bipush 16, 2) := by decide +kernel
theorem dX6_putFrozen_27 : decode cX6_putFrozen 27 = .ok (.iload_n 1, 1) := by decide +kernel
theorem dX6_putFrozen_28 : decode cX6_putFrozen 28 = .ok (.iadd, 1) := by decide +kernel
theorem dX6_putFrozen_29 : decode cX6_putFrozen 29 = .ok (.iaload, 1) := by decide +kernel
theorem dX6_putFrozen_30 : decode cX6_putFrozen 30 = .ok (.iconst (-1), 1) := by decide +kernel
theorem dX6_putFrozen_31 : decode cX6_putFrozen 31 = .ok (.if_icmp .ne 6, 3) := by decide +kernel
theorem dX6_putFrozen_34 : decode cX6_putFrozen 34 = .ok (.bipush (-3), 2) := by decide +kernel
theorem dX6_putFrozen_36 : decode cX6_putFrozen 36 = .ok (.ireturn, 1) := by decide +kernel
theorem dX6_putFrozen_37 : decode cX6_putFrozen 37 = .ok (.aload_n 0, 1) := by decide +kernel
theorem dX6_putFrozen_38 : decode cX6_putFrozen 38 = .ok (.getfield 7, 3) := by decide +kernel
theorem dX6_putFrozen_41 : decode cX6_putFrozen 41 = .ok (.bipush 28, 2) := by decide +kernel
theorem dX6_putFrozen_43 : decode cX6_putFrozen 43 = .ok (.iload_n 2, 1) := by decide +kernel
theorem dX6_putFrozen_44 : decode cX6_putFrozen 44 = .ok (.iconst 1, 1) := by decide +kernel
theorem dX6_putFrozen_45 : decode cX6_putFrozen 45 = .ok (.if_icmp .ne 17, 3) := by decide +kernel
theorem dX6_putFrozen_48 : decode cX6_putFrozen 48 = .ok (.aload_n 0, 1) := by decide +kernel
theorem dX6_putFrozen_49 : decode cX6_putFrozen 49 = .ok (.getfield 7, 3) := by decide +kernel
theorem dX6_putFrozen_52 : decode cX6_putFrozen 52 = .ok (.bipush 28, 2) := by decide +kernel
theorem dX6_putFrozen_54 : decode cX6_putFrozen 54 = .ok (.iaload, 1) := by decide +kernel
theorem dX6_putFrozen_55 : decode cX6_putFrozen 55 = .ok (.iconst 1, 1) := by decide +kernel
theorem dX6_putFrozen_56 : decode cX6_putFrozen 56 = .ok (.iload_n 1, 1) := by decide +kernel
theorem dX6_putFrozen_57 : decode cX6_putFrozen 57 = .ok (.ishl, 1) := by decide +kernel
theorem dX6_putFrozen_58 : decode cX6_putFrozen 58 = .ok (.ior, 1) := by decide +kernel
theorem dX6_putFrozen_59 : decode cX6_putFrozen 59 = .ok (.goto 16, 3) := by decide +kernel
theorem dX6_putFrozen_62 : decode cX6_putFrozen 62 = .ok (.aload_n 0, 1) := by decide +kernel
theorem dX6_putFrozen_63 : decode cX6_putFrozen 63 = .ok (.getfield 7, 3) := by decide +kernel
theorem dX6_putFrozen_66 : decode cX6_putFrozen 66 = .ok (.bipush 28, 2) := by decide +kernel
theorem dX6_putFrozen_68 : decode cX6_putFrozen 68 = .ok (.iaload, 1) := by decide +kernel
theorem dX6_putFrozen_69 : decode cX6_putFrozen 69 = .ok (.iconst 1, 1) := by decide +kernel
theorem dX6_putFrozen_70 : decode cX6_putFrozen 70 = .ok (.iload_n 1, 1) := by decide +kernel
theorem dX6_putFrozen_71 : decode cX6_putFrozen 71 = .ok (.ishl, 1) := by decide +kernel
theorem dX6_putFrozen_72 : decode cX6_putFrozen 72 = .ok (.iconst (-1), 1) := by decide +kernel
theorem dX6_putFrozen_73 : decode cX6_putFrozen 73 = .ok (.ixor, 1) := by decide +kernel
theorem dX6_putFrozen_74 : decode cX6_putFrozen 74 = .ok (.iand, 1) := by decide +kernel
theorem dX6_putFrozen_75 : decode cX6_putFrozen 75 = .ok (.iastore, 1) := by decide +kernel
theorem dX6_putFrozen_76 : decode cX6_putFrozen 76 = .ok (.aload_n 0, 1) := by decide +kernel
theorem dX6_putFrozen_77 : decode cX6_putFrozen 77 = .ok (.getfield 7, 3) := by decide +kernel
theorem dX6_putFrozen_80 : decode cX6_putFrozen 80 = .ok (.bipush 28, 2) := by decide +kernel
theorem dX6_putFrozen_82 : decode cX6_putFrozen 82 = .ok (.iaload, 1) := by decide +kernel
theorem dX6_putFrozen_83 : decode cX6_putFrozen 83 = .ok (.invokestatic 79, 3) := by decide +kernel
theorem dX6_putFrozen_86 : decode cX6_putFrozen 86 = .ok (.ireturn, 1) := by decide +kernel
theorem dX6_putLimit_0 : decode cX6_putLimit 0 = .ok (.iload_n 1, 1) := by decide +kernel
theorem dX6_putLimit_1 : decode cX6_putLimit 1 = .ok (.i2l, 1) := by decide +kernel
theorem dX6_putLimit_2 : decode cX6_putLimit 2 = .ok (.ldc2_w 82, 3) := by decide +kernel
theorem dX6_putLimit_5 : decode cX6_putLimit 5 = .ok (.ldc2_w 84, 3) := by decide +kernel
theorem dX6_putLimit_8 : decode cX6_putLimit 8 = .ok (.invokestatic 62, 3) := by decide +kernel
theorem dX6_putLimit_11 : decode cX6_putLimit 11 = .ok (.ifCond .ne 6, 3) := by decide +kernel
theorem dX6_putLimit_14 : decode cX6_putLimit 14 = .ok (.bipush (-2), 2) := by decide +kernel
theorem dX6_putLimit_16 : decode cX6_putLimit 16 = .ok (.ireturn, 1) := by decide +kernel
theorem dX6_putLimit_17 : decode cX6_putLimit 17 = .ok (.aload_n 0, 1) := by decide +kernel
theorem dX6_putLimit_18 : decode cX6_putLimit 18 = .ok (.getfield 7, 3) := by decide +kernel
theorem dX6_putLimit_21 : decode cX6_putLimit 21 = .ok (.bipush 29, 2) := by decide +kernel
theorem dX6_putLimit_23 : decode cX6_putLimit 23 = .ok (.iaload, 1) := by decide +kernel
theorem dX6_putLimit_24 : decode cX6_putLimit 24 = .ok (.istore_n 2, 1) := by decide +kernel
theorem dX6_putLimit_25 : decode cX6_putLimit 25 = .ok (.aload_n 0, 1) := by decide +kernel
theorem dX6_putLimit_26 : decode cX6_putLimit 26 = .ok (.getfield 7, 3) := by decide +kernel
theorem dX6_putLimit_29 : decode cX6_putLimit 29 = .ok (.bipush 29, 2) := by decide +kernel
theorem dX6_putLimit_31 : decode cX6_putLimit 31 = .ok (.iload_n 1, 1) := by decide +kernel
theorem dX6_putLimit_32 : decode cX6_putLimit 32 = .ok (.iastore, 1) := by decide +kernel
theorem dX6_putLimit_33 : decode cX6_putLimit 33 = .ok (.iload_n 2, 1) := by decide +kernel
theorem dX6_putLimit_34 : decode cX6_putLimit 34 = .ok (.ireturn, 1) := by decide +kernel
theorem dX6_putForm_0 : decode cX6_putForm 0 = .ok (.iload_n 1, 1) := by decide +kernel
theorem dX6_putForm_1 : decode cX6_putForm 1 = .ok (.i2l, 1) := by decide +kernel
theorem dX6_putForm_2 : decode cX6_putForm 2 = .ok (.lconst 0, 1) := by decide +kernel
theorem dX6_putForm_3 : decode cX6_putForm 3 = .ok (.lconst 1, 1) := by decide +kernel
theorem dX6_putForm_4 : decode cX6_putForm 4 = .ok (.invokestatic 62, 3) := by decide +kernel
theorem dX6_putForm_7 : decode cX6_putForm 7 = .ok (.ifCond .ne 6, 3) := by decide +kernel
theorem dX6_putForm_10 : decode cX6_putForm 10 = .ok (.bipush (-2), 2) := by decide +kernel
theorem dX6_putForm_12 : decode cX6_putForm 12 = .ok (.ireturn, 1) := by decide +kernel
theorem dX6_putForm_13 : decode cX6_putForm 13 = .ok (.aload_n 0, 1) := by decide +kernel
theorem dX6_putForm_14 : decode cX6_putForm 14 = .ok (.getfield 7, 3) := by decide +kernel
theorem dX6_putForm_17 : decode cX6_putForm 17 = .ok (.bipush 30, 2) := by decide +kernel
theorem dX6_putForm_19 : decode cX6_putForm 19 = .ok (.iaload, 1) := by decide +kernel
theorem dX6_putForm_20 : decode cX6_putForm 20 = .ok (.istore_n 2, 1) := by decide +kernel
theorem dX6_putForm_21 : decode cX6_putForm 21 = .ok (.aload_n 0, 1) := by decide +kernel
theorem dX6_putForm_22 : decode cX6_putForm 22 = .ok (.getfield 7, 3) := by decide +kernel
theorem dX6_putForm_25 : decode cX6_putForm 25 = .ok (.bipush 30, 2) := by decide +kernel
theorem dX6_putForm_27 : decode cX6_putForm 27 = .ok (.iload_n 1, 1) := by decide +kernel
theorem dX6_putForm_28 : decode cX6_putForm 28 = .ok (.iastore, 1) := by decide +kernel
theorem dX6_putForm_29 : decode cX6_putForm 29 = .ok (.iload_n 2, 1) := by decide +kernel
theorem dX6_putForm_30 : decode cX6_putForm 30 = .ok (.ireturn, 1) := by decide +kernel
theorem dX6_publishAll_0 : decode cX6_publishAll 0 = .ok (.aload_n 0, 1) := by decide +kernel
theorem dX6_publishAll_1 : decode cX6_publishAll 1 = .ok (.invokevirtual 86, 3) := by decide +kernel
theorem dX6_publishAll_4 : decode cX6_publishAll 4 = .ok (.ifCond .ne 6, 3) := by decide +kernel
theorem dX6_publishAll_7 : decode cX6_publishAll 7 = .ok (.bipush (-3), 2) := by decide +kernel
theorem dX6_publishAll_9 : decode cX6_publishAll 9 = .ok (.ireturn, 1) := by decide +kernel
theorem dX6_publishAll_10 : decode cX6_publishAll 10 = .ok (.iconst 0, 1) := by decide +kernel
theorem dX6_publishAll_11 : decode cX6_publishAll 11 = .ok (.istore_n 1, 1) := by decide +kernel
theorem dX6_publishAll_12 : decode cX6_publishAll 12 = .ok (.iload_n 1, 1) := by decide +kernel
theorem dX6_publishAll_13 : decode cX6_publishAll 13 = .ok (.aload_n 0, 1) := by decide +kernel
theorem dX6_publishAll_14 : decode cX6_publishAll 14 = .ok (.getfield 7, 3) := by decide +kernel
theorem dX6_publishAll_17 : decode cX6_publishAll 17 = .ok (.iconst 0, 1) := by decide +kernel
theorem dX6_publishAll_18 : decode cX6_publishAll 18 = .ok (.iaload, 1) := by decide +kernel
theorem dX6_publishAll_19 : decode cX6_publishAll 19 = .ok (.if_icmp .ge 27, 3) := by decide +kernel
theorem dX6_publishAll_22 : decode cX6_publishAll 22 = .ok (.aload_n 0, 1) := by decide +kernel
theorem dX6_publishAll_23 : decode cX6_publishAll 23 = .ok (.getfield 7, 3) := by decide +kernel
theorem dX6_publishAll_26 : decode cX6_publishAll 26 = .ok (.bipush 16, 2) := by decide +kernel
theorem dX6_publishAll_28 : decode cX6_publishAll 28 = .ok (.iload_n 1, 1) := by decide +kernel
theorem dX6_publishAll_29 : decode cX6_publishAll 29 = .ok (.iadd, 1) := by decide +kernel
theorem dX6_publishAll_30 : decode cX6_publishAll 30 = .ok (.aload_n 0, 1) := by decide +kernel
theorem dX6_publishAll_31 : decode cX6_publishAll 31 = .ok (.getfield 41, 3) := by decide +kernel
theorem dX6_publishAll_34 : decode cX6_publishAll 34 = .ok (.iload_n 1, 1) := by decide +kernel
theorem dX6_publishAll_35 : decode cX6_publishAll 35 = .ok (.iaload, 1) := by decide +kernel
theorem dX6_publishAll_36 : decode cX6_publishAll 36 = .ok (.bipush 8, 2) := by decide +kernel
theorem dX6_publishAll_38 : decode cX6_publishAll 38 = .ok (.iadd, 1) := by decide +kernel
theorem dX6_publishAll_39 : decode cX6_publishAll 39 = .ok (.iastore, 1) := by decide +kernel
theorem dX6_publishAll_40 : decode cX6_publishAll 40 = .ok (.iinc 1 1, 3) := by decide +kernel
theorem dX6_publishAll_43 : decode cX6_publishAll 43 = .ok (.goto (-31), 3) := by decide +kernel
theorem dX6_publishAll_46 : decode cX6_publishAll 46 = .ok (.aload_n 0, 1) := by decide +kernel
theorem dX6_publishAll_47 : decode cX6_publishAll 47 = .ok (.getfield 7, 3) := by decide +kernel
theorem dX6_publishAll_50 : decode cX6_publishAll 50 = .ok (.iconst 0, 1) := by decide +kernel
theorem dX6_publishAll_51 : decode cX6_publishAll 51 = .ok (.iaload, 1) := by decide +kernel
theorem dX6_publishAll_52 : decode cX6_publishAll 52 = .ok (.ireturn, 1) := by decide +kernel
theorem dX6_publishedMany_0 : decode cX6_publishedMany 0 = .ok (.iconst 0, 1) := by decide +kernel
theorem dX6_publishedMany_1 : decode cX6_publishedMany 1 = .ok (.istore_n 1, 1) := by decide +kernel
theorem dX6_publishedMany_2 : decode cX6_publishedMany 2 = .ok (.iconst 0, 1) := by decide +kernel
theorem dX6_publishedMany_3 : decode cX6_publishedMany 3 = .ok (.istore_n 2, 1) := by decide +kernel
theorem dX6_publishedMany_4 : decode cX6_publishedMany 4 = .ok (.iload_n 2, 1) := by decide +kernel
theorem dX6_publishedMany_5 : decode cX6_publishedMany 5 = .ok (.aload_n 0, 1) := by decide +kernel
theorem dX6_publishedMany_6 : decode cX6_publishedMany 6 = .ok (.getfield 7, 3) := by decide +kernel
theorem dX6_publishedMany_9 : decode cX6_publishedMany 9 = .ok (.iconst 0, 1) := by decide +kernel
theorem dX6_publishedMany_10 : decode cX6_publishedMany 10 = .ok (.iaload, 1) := by decide +kernel
theorem dX6_publishedMany_11 : decode cX6_publishedMany 11 = .ok (.if_icmp .ge 30, 3) := by decide +kernel
theorem dX6_publishedMany_14 : decode cX6_publishedMany 14 = .ok (.iload_n 1, 1) := by decide +kernel
theorem dX6_publishedMany_15 : decode cX6_publishedMany 15 = .ok (.aload_n 0, 1) := by decide +kernel
theorem dX6_publishedMany_16 : decode cX6_publishedMany 16 = .ok (.getfield 7, 3) := by decide +kernel
theorem dX6_publishedMany_19 : decode cX6_publishedMany 19 = .ok (.bipush 16, 2) := by decide +kernel
theorem dX6_publishedMany_21 : decode cX6_publishedMany 21 = .ok (.iload_n 2, 1) := by decide +kernel
theorem dX6_publishedMany_22 : decode cX6_publishedMany 22 = .ok (.iadd, 1) := by decide +kernel
theorem dX6_publishedMany_23 : decode cX6_publishedMany 23 = .ok (.iaload, 1) := by decide +kernel
theorem dX6_publishedMany_24 : decode cX6_publishedMany 24 = .ok (.iconst (-1), 1) := by decide +kernel
theorem dX6_publishedMany_25 : decode cX6_publishedMany 25 = .ok (.if_icmp .ne 7, 3) := by decide +kernel
theorem dX6_publishedMany_28 : decode cX6_publishedMany 28 = .ok (.iconst 0, 1) := by decide +kernel
theorem dX6_publishedMany_29 : decode cX6_publishedMany 29 = .ok (.goto 4, 3) := by decide +kernel
theorem dX6_publishedMany_32 : decode cX6_publishedMany 32 = .ok (.iconst 1, 1) := by decide +kernel
theorem dX6_publishedMany_33 : decode cX6_publishedMany 33 = .ok (.iadd, 1) := by decide +kernel
theorem dX6_publishedMany_34 : decode cX6_publishedMany 34 = .ok (.istore_n 1, 1) := by decide +kernel
theorem dX6_publishedMany_35 : decode cX6_publishedMany 35 = .ok (.iinc 2 1, 3) := by decide +kernel
theorem dX6_publishedMany_38 : decode cX6_publishedMany 38 = .ok (.goto (-34), 3) := by decide +kernel
theorem dX6_publishedMany_41 : decode cX6_publishedMany 41 = .ok (.iload_n 1, 1) := by decide +kernel
theorem dX6_publishedMany_42 : decode cX6_publishedMany 42 = .ok (.ireturn, 1) := by decide +kernel
theorem dX6_quarter_0 : decode cX6_quarter 0 = .ok (.aload_n 0, 1) := by decide +kernel
theorem dX6_quarter_1 : decode cX6_quarter 1 = .ok (.invokevirtual 90, 3) := by decide +kernel
theorem dX6_quarter_4 : decode cX6_quarter 4 = .ok (.aload_n 0, 1) := by decide +kernel
theorem dX6_quarter_5 : decode cX6_quarter 5 = .ok (.aload_n 0, 1) := by decide +kernel
theorem dX6_quarter_6 : decode cX6_quarter 6 = .ok (.iload_n 1, 1) := by decide +kernel
theorem dX6_quarter_7 : decode cX6_quarter 7 = .ok (.invokevirtual 93, 3) := by decide +kernel
theorem dX6_quarter_10 : decode cX6_quarter 10 = .ok (.invokevirtual 96, 3) := by decide +kernel
theorem dX6_quarter_13 : decode cX6_quarter 13 = .ok (.ireturn, 1) := by decide +kernel
theorem dX6_indicates_0 : decode cX6_indicates 0 = .ok (.aload_n 0, 1) := by decide +kernel
theorem dX6_indicates_1 : decode cX6_indicates 1 = .ok (.invokevirtual 90, 3) := by decide +kernel
theorem dX6_indicates_4 : decode cX6_indicates 4 = .ok (.aload_n 0, 1) := by decide +kernel
theorem dX6_indicates_5 : decode cX6_indicates 5 = .ok (.aload_n 0, 1) := by decide +kernel
theorem dX6_indicates_6 : decode cX6_indicates 6 = .ok (.iload_n 1, 1) := by decide +kernel
theorem dX6_indicates_7 : decode cX6_indicates 7 = .ok (.iload_n 2, 1) := by decide +kernel
theorem dX6_indicates_8 : decode cX6_indicates 8 = .ok (.invokevirtual 99, 3) := by decide +kernel
theorem dX6_indicates_11 : decode cX6_indicates 11 = .ok (.invokevirtual 96, 3) := by decide +kernel
theorem dX6_indicates_14 : decode cX6_indicates 14 = .ok (.ireturn, 1) := by decide +kernel
theorem dX6_total_0 : decode cX6_total 0 = .ok (.aload_n 0, 1) := by decide +kernel
theorem dX6_total_1 : decode cX6_total 1 = .ok (.invokevirtual 90, 3) := by decide +kernel
theorem dX6_total_4 : decode cX6_total 4 = .ok (.aload_n 0, 1) := by decide +kernel
theorem dX6_total_5 : decode cX6_total 5 = .ok (.aload_n 0, 1) := by decide +kernel
theorem dX6_total_6 : decode cX6_total 6 = .ok (.iload_n 1, 1) := by decide +kernel
theorem dX6_total_7 : decode cX6_total 7 = .ok (.iload_n 2, 1) := by decide +kernel
theorem dX6_total_8 : decode cX6_total 8 = .ok (.invokevirtual 103, 3) := by decide +kernel
theorem dX6_total_11 : decode cX6_total 11 = .ok (.invokevirtual 96, 3) := by decide +kernel
theorem dX6_total_14 : decode cX6_total 14 = .ok (.ireturn, 1) := by decide +kernel
theorem dX6_untold_0 : decode cX6_untold 0 = .ok (.aload_n 0, 1) := by decide +kernel
theorem dX6_untold_1 : decode cX6_untold 1 = .ok (.invokevirtual 90, 3) := by decide +kernel
theorem dX6_untold_4 : decode cX6_untold 4 = .ok (.aload_n 0, 1) := by decide +kernel
theorem dX6_untold_5 : decode cX6_untold 5 = .ok (.aload_n 0, 1) := by decide +kernel
theorem dX6_untold_6 : decode cX6_untold 6 = .ok (.iload_n 1, 1) := by decide +kernel
theorem dX6_untold_7 : decode cX6_untold 7 = .ok (.invokevirtual 106, 3) := by decide +kernel
theorem dX6_untold_10 : decode cX6_untold 10 = .ok (.invokevirtual 96, 3) := by decide +kernel
theorem dX6_untold_13 : decode cX6_untold 13 = .ok (.ireturn, 1) := by decide +kernel
theorem dX6_freezes_0 : decode cX6_freezes 0 = .ok (.aload_n 0, 1) := by decide +kernel
theorem dX6_freezes_1 : decode cX6_freezes 1 = .ok (.invokevirtual 90, 3) := by decide +kernel
theorem dX6_freezes_4 : decode cX6_freezes 4 = .ok (.aload_n 0, 1) := by decide +kernel
theorem dX6_freezes_5 : decode cX6_freezes 5 = .ok (.aload_n 0, 1) := by decide +kernel
theorem dX6_freezes_6 : decode cX6_freezes 6 = .ok (.iload_n 1, 1) := by decide +kernel
theorem dX6_freezes_7 : decode cX6_freezes 7 = .ok (.iload_n 2, 1) := by decide +kernel
theorem dX6_freezes_8 : decode cX6_freezes 8 = .ok (.invokevirtual 109, 3) := by decide +kernel
theorem dX6_freezes_11 : decode cX6_freezes 11 = .ok (.invokevirtual 96, 3) := by decide +kernel
theorem dX6_freezes_14 : decode cX6_freezes 14 = .ok (.ireturn, 1) := by decide +kernel
theorem dX6_limits_0 : decode cX6_limits 0 = .ok (.aload_n 0, 1) := by decide +kernel
theorem dX6_limits_1 : decode cX6_limits 1 = .ok (.invokevirtual 90, 3) := by decide +kernel
theorem dX6_limits_4 : decode cX6_limits 4 = .ok (.aload_n 0, 1) := by decide +kernel
theorem dX6_limits_5 : decode cX6_limits 5 = .ok (.aload_n 0, 1) := by decide +kernel
theorem dX6_limits_6 : decode cX6_limits 6 = .ok (.iload_n 1, 1) := by decide +kernel
theorem dX6_limits_7 : decode cX6_limits 7 = .ok (.invokevirtual 112, 3) := by decide +kernel
theorem dX6_limits_10 : decode cX6_limits 10 = .ok (.invokevirtual 96, 3) := by decide +kernel
theorem dX6_limits_13 : decode cX6_limits 13 = .ok (.ireturn, 1) := by decide +kernel
theorem dX6_form_0 : decode cX6_form 0 = .ok (.aload_n 0, 1) := by decide +kernel
theorem dX6_form_1 : decode cX6_form 1 = .ok (.invokevirtual 90, 3) := by decide +kernel
theorem dX6_form_4 : decode cX6_form 4 = .ok (.aload_n 0, 1) := by decide +kernel
theorem dX6_form_5 : decode cX6_form 5 = .ok (.aload_n 0, 1) := by decide +kernel
theorem dX6_form_6 : decode cX6_form 6 = .ok (.iload_n 1, 1) := by decide +kernel
theorem dX6_form_7 : decode cX6_form 7 = .ok (.invokevirtual 115, 3) := by decide +kernel
theorem dX6_form_10 : decode cX6_form 10 = .ok (.invokevirtual 96, 3) := by decide +kernel
theorem dX6_form_13 : decode cX6_form 13 = .ok (.ireturn, 1) := by decide +kernel
theorem dX6_publishes_0 : decode cX6_publishes 0 = .ok (.aload_n 0, 1) := by decide +kernel
theorem dX6_publishes_1 : decode cX6_publishes 1 = .ok (.invokevirtual 90, 3) := by decide +kernel
theorem dX6_publishes_4 : decode cX6_publishes 4 = .ok (.aload_n 0, 1) := by decide +kernel
theorem dX6_publishes_5 : decode cX6_publishes 5 = .ok (.aload_n 0, 1) := by decide +kernel
theorem dX6_publishes_6 : decode cX6_publishes 6 = .ok (.invokevirtual 118, 3) := by decide +kernel
theorem dX6_publishes_9 : decode cX6_publishes 9 = .ok (.invokevirtual 96, 3) := by decide +kernel
theorem dX6_publishes_12 : decode cX6_publishes 12 = .ok (.ireturn, 1) := by decide +kernel
theorem dX6_recalls_0 : decode cX6_recalls 0 = .ok (.aload_n 0, 1) := by decide +kernel
theorem dX6_recalls_1 : decode cX6_recalls 1 = .ok (.invokevirtual 90, 3) := by decide +kernel
theorem dX6_recalls_4 : decode cX6_recalls 4 = .ok (.aload_n 0, 1) := by decide +kernel
theorem dX6_recalls_5 : decode cX6_recalls 5 = .ok (.invokevirtual 122, 3) := by decide +kernel
theorem dX6_recalls_8 : decode cX6_recalls 8 = .ok (.istore_n 1, 1) := by decide +kernel
theorem dX6_recalls_9 : decode cX6_recalls 9 = .ok (.iconst 0, 1) := by decide +kernel
theorem dX6_recalls_10 : decode cX6_recalls 10 = .ok (.istore_n 2, 1) := by decide +kernel
theorem dX6_recalls_11 : decode cX6_recalls 11 = .ok (.iload_n 2, 1) := by decide +kernel
theorem dX6_recalls_12 : decode cX6_recalls 12 = .ok (.bipush 12, 2) := by decide +kernel
theorem dX6_recalls_14 : decode cX6_recalls 14 = .ok (.if_icmp .ge 19, 3) := by decide +kernel
theorem dX6_recalls_17 : decode cX6_recalls 17 = .ok (.aload_n 0, 1) := by decide +kernel
theorem dX6_recalls_18 : decode cX6_recalls 18 = .ok (.getfield 7, 3) := by decide +kernel
theorem dX6_recalls_21 : decode cX6_recalls 21 = .ok (.bipush 16, 2) := by decide +kernel
theorem dX6_recalls_23 : decode cX6_recalls 23 = .ok (.iload_n 2, 1) := by decide +kernel
theorem dX6_recalls_24 : decode cX6_recalls 24 = .ok (.iadd, 1) := by decide +kernel
theorem dX6_recalls_25 : decode cX6_recalls 25 = .ok (.iconst (-1), 1) := by decide +kernel
theorem dX6_recalls_26 : decode cX6_recalls 26 = .ok (.iastore, 1) := by decide +kernel
theorem dX6_recalls_27 : decode cX6_recalls 27 = .ok (.iinc 2 1, 3) := by decide +kernel
theorem dX6_recalls_30 : decode cX6_recalls 30 = .ok (.goto (-19), 3) := by decide +kernel
theorem dX6_recalls_33 : decode cX6_recalls 33 = .ok (.aload_n 0, 1) := by decide +kernel
theorem dX6_recalls_34 : decode cX6_recalls 34 = .ok (.getfield 7, 3) := by decide +kernel
theorem dX6_recalls_37 : decode cX6_recalls 37 = .ok (.bipush 28, 2) := by decide +kernel
theorem dX6_recalls_39 : decode cX6_recalls 39 = .ok (.iconst 0, 1) := by decide +kernel
theorem dX6_recalls_40 : decode cX6_recalls 40 = .ok (.iastore, 1) := by decide +kernel
theorem dX6_recalls_41 : decode cX6_recalls 41 = .ok (.aload_n 0, 1) := by decide +kernel
theorem dX6_recalls_42 : decode cX6_recalls 42 = .ok (.iload_n 1, 1) := by decide +kernel
theorem dX6_recalls_43 : decode cX6_recalls 43 = .ok (.invokevirtual 96, 3) := by decide +kernel
theorem dX6_recalls_46 : decode cX6_recalls 46 = .ok (.ireturn, 1) := by decide +kernel
theorem dX6_ofQuarter_0 : decode cX6_ofQuarter 0 = .ok (.iload_n 2, 1) := by decide +kernel
theorem dX6_ofQuarter_1 : decode cX6_ofQuarter 1 = .ok (.ifCond .ne 14, 3) := by decide +kernel
theorem dX6_ofQuarter_4 : decode cX6_ofQuarter 4 = .ok (.aload_n 0, 1) := by decide +kernel
theorem dX6_ofQuarter_5 : decode cX6_ofQuarter 5 = .ok (.getfield 7, 3) := by decide +kernel
theorem dX6_ofQuarter_8 : decode cX6_ofQuarter 8 = .ok (.iconst 1, 1) := by decide +kernel
theorem dX6_ofQuarter_9 : decode cX6_ofQuarter 9 = .ok (.iload_n 1, 1) := by decide +kernel
theorem dX6_ofQuarter_10 : decode cX6_ofQuarter 10 = .ok (.iadd, 1) := by decide +kernel
theorem dX6_ofQuarter_11 : decode cX6_ofQuarter 11 = .ok (.iaload, 1) := by decide +kernel
theorem dX6_ofQuarter_12 : decode cX6_ofQuarter 12 = .ok (.goto 42, 3) := by decide +kernel
theorem dX6_ofQuarter_15 : decode cX6_ofQuarter 15 = .ok (.iload_n 2, 1) := by decide +kernel
theorem dX6_ofQuarter_16 : decode cX6_ofQuarter 16 = .ok (.iconst 1, 1) := by decide +kernel
theorem dX6_ofQuarter_17 : decode cX6_ofQuarter 17 = .ok (.if_icmp .ne 15, 3) := by decide +kernel
theorem dX6_ofQuarter_20 : decode cX6_ofQuarter 20 = .ok (.aload_n 0, 1) := by decide +kernel
theorem dX6_ofQuarter_21 : decode cX6_ofQuarter 21 = .ok (.getfield 7, 3) := by decide +kernel
theorem dX6_ofQuarter_24 : decode cX6_ofQuarter 24 = .ok (.bipush 16, 2) := by decide +kernel
theorem dX6_ofQuarter_26 : decode cX6_ofQuarter 26 = .ok (.iload_n 1, 1) := by decide +kernel
theorem dX6_ofQuarter_27 : decode cX6_ofQuarter 27 = .ok (.iadd, 1) := by decide +kernel
theorem dX6_ofQuarter_28 : decode cX6_ofQuarter 28 = .ok (.iaload, 1) := by decide +kernel
theorem dX6_ofQuarter_29 : decode cX6_ofQuarter 29 = .ok (.goto 25, 3) := by decide +kernel
theorem dX6_ofQuarter_32 : decode cX6_ofQuarter 32 = .ok (.iload_n 2, 1) := by decide +kernel
theorem dX6_ofQuarter_33 : decode cX6_ofQuarter 33 = .ok (.iconst 2, 1) := by decide +kernel
theorem dX6_ofQuarter_34 : decode cX6_ofQuarter 34 = .ok (.if_icmp .ne 17, 3) := by decide +kernel
theorem dX6_ofQuarter_37 : decode cX6_ofQuarter 37 = .ok (.aload_n 0, 1) := by decide +kernel
theorem dX6_ofQuarter_38 : decode cX6_ofQuarter 38 = .ok (.getfield 7, 3) := by decide +kernel
theorem dX6_ofQuarter_41 : decode cX6_ofQuarter 41 = .ok (.bipush 28, 2) := by decide +kernel
theorem dX6_ofQuarter_43 : decode cX6_ofQuarter 43 = .ok (.iaload, 1) := by decide +kernel
theorem dX6_ofQuarter_44 : decode cX6_ofQuarter 44 = .ok (.iload_n 1, 1) := by decide +kernel
theorem dX6_ofQuarter_45 : decode cX6_ofQuarter 45 = .ok (.ishr, 1) := by decide +kernel
theorem dX6_ofQuarter_46 : decode cX6_ofQuarter 46 = .ok (.iconst 1, 1) := by decide +kernel
theorem dX6_ofQuarter_47 : decode cX6_ofQuarter 47 = .ok (.iand, 1) := by decide +kernel
theorem dX6_ofQuarter_48 : decode cX6_ofQuarter 48 = .ok (.goto 6, 3) := by decide +kernel
theorem dX6_ofQuarter_51 : decode cX6_ofQuarter 51 = .ok (.iload_n 1, 1) := by decide +kernel
theorem dX6_ofQuarter_52 : decode cX6_ofQuarter 52 = .ok (.iconst 4, 1) := by decide +kernel
theorem dX6_ofQuarter_53 : decode cX6_ofQuarter 53 = .ok (.idiv, 1) := by decide +kernel
theorem dX6_ofQuarter_54 : decode cX6_ofQuarter 54 = .ok (.ireturn, 1) := by decide +kernel
theorem dX6_of_0 : decode cX6_of 0 = .ok (.aload_n 0, 1) := by decide +kernel
theorem dX6_of_1 : decode cX6_of 1 = .ok (.iload_n 1, 1) := by decide +kernel
theorem dX6_of_2 : decode cX6_of 2 = .ok (.invokevirtual 70, 3) := by decide +kernel
theorem dX6_of_5 : decode cX6_of 5 = .ok (.ifCond .eq 24, 3) := by decide +kernel
theorem dX6_of_8 : decode cX6_of 8 = .ok (.iload_n 2, 1) := by decide +kernel
theorem dX6_of_9 : decode cX6_of 9 = .ok (.i2l, 1) := by decide +kernel
theorem dX6_of_10 : decode cX6_of 10 = .ok (.lconst 0, 1) := by decide +kernel
theorem dX6_of_11 : decode cX6_of 11 = .ok (.ldc2_w 125, 3) := by decide +kernel
theorem dX6_of_14 : decode cX6_of 14 = .ok (.invokestatic 62, 3) := by decide +kernel
theorem dX6_of_17 : decode cX6_of 17 = .ok (.ifCond .eq 12, 3) := by decide +kernel
theorem dX6_of_20 : decode cX6_of 20 = .ok (.aload_n 0, 1) := by decide +kernel
theorem dX6_of_21 : decode cX6_of 21 = .ok (.iload_n 1, 1) := by decide +kernel
theorem dX6_of_22 : decode cX6_of 22 = .ok (.iload_n 2, 1) := by decide +kernel
theorem dX6_of_23 : decode cX6_of 23 = .ok (.invokevirtual 127, 3) := by decide +kernel
theorem dX6_of_26 : decode cX6_of 26 = .ok (.goto 9, 3) := by decide +kernel
theorem dX6_of_29 : decode cX6_of 29 = .ok (.aload_n 0, 1) := by decide +kernel
theorem dX6_of_30 : decode cX6_of 30 = .ok (.bipush (-2), 2) := by decide +kernel
theorem dX6_of_32 : decode cX6_of 32 = .ok (.invokevirtual 54, 3) := by decide +kernel
theorem dX6_of_35 : decode cX6_of 35 = .ok (.ireturn, 1) := by decide +kernel
theorem dX6_together_0 : decode cX6_together 0 = .ok (.iconst 0, 1) := by decide +kernel
theorem dX6_together_1 : decode cX6_together 1 = .ok (.istore_n 2, 1) := by decide +kernel
theorem dX6_together_2 : decode cX6_together 2 = .ok (.iconst 4, 1) := by decide +kernel
theorem dX6_together_3 : decode cX6_together 3 = .ok (.iload_n 1, 1) := by decide +kernel
theorem dX6_together_4 : decode cX6_together 4 = .ok (.imul, 1) := by decide +kernel
theorem dX6_together_5 : decode cX6_together 5 = .ok (.istore_n 3, 1) := by decide +kernel
theorem dX6_together_6 : decode cX6_together 6 = .ok (.iload_n 3, 1) := by decide +kernel
theorem dX6_together_7 : decode cX6_together 7 = .ok (.iconst 4, 1) := by decide +kernel
theorem dX6_together_8 : decode cX6_together 8 = .ok (.iload_n 1, 1) := by decide +kernel
theorem dX6_together_9 : decode cX6_together 9 = .ok (.imul, 1) := by decide +kernel
theorem dX6_together_10 : decode cX6_together 10 = .ok (.iconst 4, 1) := by decide +kernel
theorem dX6_together_11 : decode cX6_together 11 = .ok (.iadd, 1) := by decide +kernel
theorem dX6_together_12 : decode cX6_together 12 = .ok (.if_icmp .ge 30, 3) := by decide +kernel
theorem dX6_together_15 : decode cX6_together 15 = .ok (.iload_n 3, 1) := by decide +kernel
theorem dX6_together_16 : decode cX6_together 16 = .ok (.aload_n 0, 1) := by decide +kernel
theorem dX6_together_17 : decode cX6_together 17 = .ok (.getfield 7, 3) := by decide +kernel
theorem dX6_together_20 : decode cX6_together 20 = .ok (.iconst 0, 1) := by decide +kernel
theorem dX6_together_21 : decode cX6_together 21 = .ok (.iaload, 1) := by decide +kernel
theorem dX6_together_22 : decode cX6_together 22 = .ok (.if_icmp .ge 20, 3) := by decide +kernel
theorem dX6_together_25 : decode cX6_together 25 = .ok (.iload_n 2, 1) := by decide +kernel
theorem dX6_together_26 : decode cX6_together 26 = .ok (.aload_n 0, 1) := by decide +kernel
theorem dX6_together_27 : decode cX6_together 27 = .ok (.getfield 7, 3) := by decide +kernel
theorem dX6_together_30 : decode cX6_together 30 = .ok (.iconst 1, 1) := by decide +kernel
theorem dX6_together_31 : decode cX6_together 31 = .ok (.iload_n 3, 1) := by decide +kernel
theorem dX6_together_32 : decode cX6_together 32 = .ok (.iadd, 1) := by decide +kernel
theorem dX6_together_33 : decode cX6_together 33 = .ok (.iaload, 1) := by decide +kernel
theorem dX6_together_34 : decode cX6_together 34 = .ok (.iadd, 1) := by decide +kernel
theorem dX6_together_35 : decode cX6_together 35 = .ok (.istore_n 2, 1) := by decide +kernel
theorem dX6_together_36 : decode cX6_together 36 = .ok (.iinc 3 1, 3) := by decide +kernel
theorem dX6_together_39 : decode cX6_together 39 = .ok (.goto (-33), 3) := by decide +kernel
theorem dX6_together_42 : decode cX6_together 42 = .ok (.iload_n 2, 1) := by decide +kernel
theorem dX6_together_43 : decode cX6_together 43 = .ok (.ireturn, 1) := by decide +kernel
theorem dX6_ofYear_0 : decode cX6_ofYear 0 = .ok (.iload_n 2, 1) := by decide +kernel
theorem dX6_ofYear_1 : decode cX6_ofYear 1 = .ok (.iconst 1, 1) := by decide +kernel
theorem dX6_ofYear_2 : decode cX6_ofYear 2 = .ok (.if_icmp .ne 11, 3) := by decide +kernel
theorem dX6_ofYear_5 : decode cX6_ofYear 5 = .ok (.aload_n 0, 1) := by decide +kernel
theorem dX6_ofYear_6 : decode cX6_ofYear 6 = .ok (.iload_n 1, 1) := by decide +kernel
theorem dX6_ofYear_7 : decode cX6_ofYear 7 = .ok (.invokevirtual 130, 3) := by decide +kernel
theorem dX6_ofYear_10 : decode cX6_ofYear 10 = .ok (.goto 55, 3) := by decide +kernel
theorem dX6_ofYear_13 : decode cX6_ofYear 13 = .ok (.aload_n 0, 1) := by decide +kernel
theorem dX6_ofYear_14 : decode cX6_ofYear 14 = .ok (.getfield 7, 3) := by decide +kernel
theorem dX6_ofYear_17 : decode cX6_ofYear 17 = .ok (.bipush 13, 2) := by decide +kernel
theorem dX6_ofYear_19 : decode cX6_ofYear 19 = .ok (.iload_n 1, 1) := by decide +kernel
theorem dX6_ofYear_20 : decode cX6_ofYear 20 = .ok (.iadd, 1) := by decide +kernel
theorem dX6_ofYear_21 : decode cX6_ofYear 21 = .ok (.iaload, 1) := by decide +kernel
theorem dX6_ofYear_22 : decode cX6_ofYear 22 = .ok (.iconst (-1), 1) := by decide +kernel
theorem dX6_ofYear_23 : decode cX6_ofYear 23 = .ok (.if_icmp .ne 7, 3) := by decide +kernel
theorem dX6_ofYear_26 : decode cX6_ofYear 26 = .ok (.iconst (-1), 1) := by decide +kernel
theorem dX6_ofYear_27 : decode cX6_ofYear 27 = .ok (.goto 38, 3) := by decide +kernel
theorem dX6_ofYear_30 : decode cX6_ofYear 30 = .ok (.iload_n 2, 1) := by decide +kernel
theorem dX6_ofYear_31 : decode cX6_ofYear 31 = .ok (.ifCond .ne 15, 3) := by decide +kernel
theorem dX6_ofYear_34 : decode cX6_ofYear 34 = .ok (.aload_n 0, 1) := by decide +kernel
theorem dX6_ofYear_35 : decode cX6_ofYear 35 = .ok (.getfield 7, 3) := by decide +kernel
theorem dX6_ofYear_38 : decode cX6_ofYear 38 = .ok (.bipush 13, 2) := by decide +kernel
theorem dX6_ofYear_40 : decode cX6_ofYear 40 = .ok (.iload_n 1, 1) := by decide +kernel
theorem dX6_ofYear_41 : decode cX6_ofYear 41 = .ok (.iadd, 1) := by decide +kernel
theorem dX6_ofYear_42 : decode cX6_ofYear 42 = .ok (.iaload, 1) := by decide +kernel
theorem dX6_ofYear_43 : decode cX6_ofYear 43 = .ok (.goto 22, 3) := by decide +kernel
theorem dX6_ofYear_46 : decode cX6_ofYear 46 = .ok (.aload_n 0, 1) := by decide +kernel
theorem dX6_ofYear_47 : decode cX6_ofYear 47 = .ok (.getfield 7, 3) := by decide +kernel
theorem dX6_ofYear_50 : decode cX6_ofYear 50 = .ok (.bipush 13, 2) := by decide +kernel
theorem dX6_ofYear_52 : decode cX6_ofYear 52 = .ok (.iload_n 1, 1) := by decide +kernel
theorem dX6_ofYear_53 : decode cX6_ofYear 53 = .ok (.iadd, 1) := by decide +kernel
theorem dX6_ofYear_54 : decode cX6_ofYear 54 = .ok (.iaload, 1) := by decide +kernel
theorem dX6_ofYear_55 : decode cX6_ofYear 55 = .ok (.aload_n 0, 1) := by decide +kernel
theorem dX6_ofYear_56 : decode cX6_ofYear 56 = .ok (.iload_n 1, 1) := by decide +kernel
theorem dX6_ofYear_57 : decode cX6_ofYear 57 = .ok (.invokevirtual 130, 3) := by decide +kernel
theorem dX6_ofYear_60 : decode cX6_ofYear 60 = .ok (.isub, 1) := by decide +kernel
theorem dX6_ofYear_61 : decode cX6_ofYear 61 = .ok (.sipush 1000, 3) := by decide +kernel
theorem dX6_ofYear_64 : decode cX6_ofYear 64 = .ok (.iadd, 1) := by decide +kernel
theorem dX6_ofYear_65 : decode cX6_ofYear 65 = .ok (.ireturn, 1) := by decide +kernel
theorem dX6_year_0 : decode cX6_year 0 = .ok (.iload_n 1, 1) := by decide +kernel
theorem dX6_year_1 : decode cX6_year 1 = .ok (.invokestatic 74, 3) := by decide +kernel
theorem dX6_year_4 : decode cX6_year 4 = .ok (.ifCond .eq 24, 3) := by decide +kernel
theorem dX6_year_7 : decode cX6_year 7 = .ok (.iload_n 2, 1) := by decide +kernel
theorem dX6_year_8 : decode cX6_year 8 = .ok (.i2l, 1) := by decide +kernel
theorem dX6_year_9 : decode cX6_year 9 = .ok (.lconst 0, 1) := by decide +kernel
theorem dX6_year_10 : decode cX6_year 10 = .ok (.ldc2_w 66, 3) := by decide +kernel
theorem dX6_year_13 : decode cX6_year 13 = .ok (.invokestatic 62, 3) := by decide +kernel
theorem dX6_year_16 : decode cX6_year 16 = .ok (.ifCond .eq 12, 3) := by decide +kernel
theorem dX6_year_19 : decode cX6_year 19 = .ok (.aload_n 0, 1) := by decide +kernel
theorem dX6_year_20 : decode cX6_year 20 = .ok (.iload_n 1, 1) := by decide +kernel
theorem dX6_year_21 : decode cX6_year 21 = .ok (.iload_n 2, 1) := by decide +kernel
theorem dX6_year_22 : decode cX6_year 22 = .ok (.invokevirtual 133, 3) := by decide +kernel
theorem dX6_year_25 : decode cX6_year 25 = .ok (.goto 9, 3) := by decide +kernel
theorem dX6_year_28 : decode cX6_year 28 = .ok (.aload_n 0, 1) := by decide +kernel
theorem dX6_year_29 : decode cX6_year 29 = .ok (.bipush (-2), 2) := by decide +kernel
theorem dX6_year_31 : decode cX6_year 31 = .ok (.invokevirtual 54, 3) := by decide +kernel
theorem dX6_year_34 : decode cX6_year 34 = .ok (.ireturn, 1) := by decide +kernel
theorem dX6_countOf_0 : decode cX6_countOf 0 = .ok (.iload_n 1, 1) := by decide +kernel
theorem dX6_countOf_1 : decode cX6_countOf 1 = .ok (.tableswitch 101 0 4 #[35, 42, 80, 85, 93], 35) := by decide +kernel
theorem dX6_countOf_36 : decode cX6_countOf 36 = .ok (.aload_n 0, 1) := by decide +kernel
theorem dX6_countOf_37 : decode cX6_countOf 37 = .ok (.getfield 7, 3) := by decide +kernel
theorem dX6_countOf_40 : decode cX6_countOf 40 = .ok (.iconst 0, 1) := by decide +kernel
theorem dX6_countOf_41 : decode cX6_countOf 41 = .ok (.iaload, 1) := by decide +kernel
theorem dX6_countOf_42 : decode cX6_countOf 42 = .ok (.ireturn, 1) := by decide +kernel
theorem dX6_countOf_43 : decode cX6_countOf 43 = .ok (.iconst 0, 1) := by decide +kernel
theorem dX6_countOf_44 : decode cX6_countOf 44 = .ok (.istore_n 2, 1) := by decide +kernel
theorem dX6_countOf_45 : decode cX6_countOf 45 = .ok (.iconst 0, 1) := by decide +kernel
theorem dX6_countOf_46 : decode cX6_countOf 46 = .ok (.istore_n 3, 1) := by decide +kernel
theorem dX6_countOf_47 : decode cX6_countOf 47 = .ok (.iload_n 3, 1) := by decide +kernel
theorem dX6_countOf_48 : decode cX6_countOf 48 = .ok (.iconst 3, 1) := by decide +kernel
theorem dX6_countOf_49 : decode cX6_countOf 49 = .ok (.if_icmp .ge 30, 3) := by decide +kernel
theorem dX6_countOf_52 : decode cX6_countOf 52 = .ok (.iload_n 2, 1) := by decide +kernel
theorem dX6_countOf_53 : decode cX6_countOf 53 = .ok (.aload_n 0, 1) := by decide +kernel
theorem dX6_countOf_54 : decode cX6_countOf 54 = .ok (.getfield 7, 3) := by decide +kernel
theorem dX6_countOf_57 : decode cX6_countOf 57 = .ok (.bipush 13, 2) := by decide +kernel
theorem dX6_countOf_59 : decode cX6_countOf 59 = .ok (.iload_n 3, 1) := by decide +kernel
theorem dX6_countOf_60 : decode cX6_countOf 60 = .ok (.iadd, 1) := by decide +kernel
theorem dX6_countOf_61 : decode cX6_countOf 61 = .ok (.iaload, 1) := by decide +kernel
theorem dX6_countOf_62 : decode cX6_countOf 62 = .ok (.iconst (-1), 1) := by decide +kernel
theorem dX6_countOf_63 : decode cX6_countOf 63 = .ok (.if_icmp .ne 7, 3) := by decide +kernel
theorem dX6_countOf_66 : decode cX6_countOf 66 = .ok (.iconst 0, 1) := by decide +kernel
theorem dX6_countOf_67 : decode cX6_countOf 67 = .ok (.goto 4, 3) := by decide +kernel
theorem dX6_countOf_70 : decode cX6_countOf 70 = .ok (.iconst 1, 1) := by decide +kernel
theorem dX6_countOf_71 : decode cX6_countOf 71 = .ok (.iadd, 1) := by decide +kernel
theorem dX6_countOf_72 : decode cX6_countOf 72 = .ok (.istore_n 2, 1) := by decide +kernel
theorem dX6_countOf_73 : decode cX6_countOf 73 = .ok (.iinc 3 1, 3) := by decide +kernel
theorem dX6_countOf_76 : decode cX6_countOf 76 = .ok (.goto (-29), 3) := by decide +kernel
theorem dX6_countOf_79 : decode cX6_countOf 79 = .ok (.iload_n 2, 1) := by decide +kernel
theorem dX6_countOf_80 : decode cX6_countOf 80 = .ok (.ireturn, 1) := by decide +kernel
theorem dX6_countOf_81 : decode cX6_countOf 81 = .ok (.aload_n 0, 1) := by decide +kernel
theorem dX6_countOf_82 : decode cX6_countOf 82 = .ok (.invokevirtual 122, 3) := by decide +kernel
theorem dX6_countOf_85 : decode cX6_countOf 85 = .ok (.ireturn, 1) := by decide +kernel
theorem dX6_countOf_86 : decode cX6_countOf 86 = .ok (.aload_n 0, 1) := by decide +kernel
theorem dX6_countOf_87 : decode cX6_countOf 87 = .ok (.getfield 7, 3) := by decide +kernel
theorem dX6_countOf_90 : decode cX6_countOf 90 = .ok (.bipush 28, 2) := by decide +kernel
theorem dX6_countOf_92 : decode cX6_countOf 92 = .ok (.iaload, 1) := by decide +kernel
theorem dX6_countOf_93 : decode cX6_countOf 93 = .ok (.ireturn, 1) := by decide +kernel
theorem dX6_countOf_94 : decode cX6_countOf 94 = .ok (.aload_n 0, 1) := by decide +kernel
theorem dX6_countOf_95 : decode cX6_countOf 95 = .ok (.getfield 7, 3) := by decide +kernel
theorem dX6_countOf_98 : decode cX6_countOf 98 = .ok (.bipush 29, 2) := by decide +kernel
theorem dX6_countOf_100 : decode cX6_countOf 100 = .ok (.iaload, 1) := by decide +kernel
theorem dX6_countOf_101 : decode cX6_countOf 101 = .ok (.ireturn, 1) := by decide +kernel
theorem dX6_countOf_102 : decode cX6_countOf 102 = .ok (.aload_n 0, 1) := by decide +kernel
theorem dX6_countOf_103 : decode cX6_countOf 103 = .ok (.getfield 7, 3) := by decide +kernel
theorem dX6_countOf_106 : decode cX6_countOf 106 = .ok (.bipush 30, 2) := by decide +kernel
theorem dX6_countOf_108 : decode cX6_countOf 108 = .ok (.iaload, 1) := by decide +kernel
theorem dX6_countOf_109 : decode cX6_countOf 109 = .ok (.ireturn, 1) := by decide +kernel
theorem dX6_count_0 : decode cX6_count 0 = .ok (.iload_n 1, 1) := by decide +kernel
theorem dX6_count_1 : decode cX6_count 1 = .ok (.i2l, 1) := by decide +kernel
theorem dX6_count_2 : decode cX6_count 2 = .ok (.lconst 0, 1) := by decide +kernel
theorem dX6_count_3 : decode cX6_count 3 = .ok (.ldc2_w 136, 3) := by decide +kernel
theorem dX6_count_6 : decode cX6_count 6 = .ok (.invokestatic 62, 3) := by decide +kernel
theorem dX6_count_9 : decode cX6_count 9 = .ok (.ifCond .eq 11, 3) := by decide +kernel
theorem dX6_count_12 : decode cX6_count 12 = .ok (.aload_n 0, 1) := by decide +kernel
theorem dX6_count_13 : decode cX6_count 13 = .ok (.iload_n 1, 1) := by decide +kernel
theorem dX6_count_14 : decode cX6_count 14 = .ok (.invokevirtual 138, 3) := by decide +kernel
theorem dX6_count_17 : decode cX6_count 17 = .ok (.goto 9, 3) := by decide +kernel
theorem dX6_count_20 : decode cX6_count 20 = .ok (.aload_n 0, 1) := by decide +kernel
theorem dX6_count_21 : decode cX6_count 21 = .ok (.bipush (-2), 2) := by decide +kernel
theorem dX6_count_23 : decode cX6_count 23 = .ok (.invokevirtual 54, 3) := by decide +kernel
theorem dX6_count_26 : decode cX6_count 26 = .ok (.ireturn, 1) := by decide +kernel
theorem dX6_isBound_0 : decode cX6_isBound 0 = .ok (.iload_n 1, 1) := by decide +kernel
theorem dX6_isBound_1 : decode cX6_isBound 1 = .ok (.iconst 4, 1) := by decide +kernel
theorem dX6_isBound_2 : decode cX6_isBound 2 = .ok (.idiv, 1) := by decide +kernel
theorem dX6_isBound_3 : decode cX6_isBound 3 = .ok (.istore_n 2, 1) := by decide +kernel
theorem dX6_isBound_4 : decode cX6_isBound 4 = .ok (.aload_n 0, 1) := by decide +kernel
theorem dX6_isBound_5 : decode cX6_isBound 5 = .ok (.getfield 7, 3) := by decide +kernel
theorem dX6_isBound_8 : decode cX6_isBound 8 = .ok (.bipush 13, 2) := by decide +kernel
theorem dX6_isBound_10 : decode cX6_isBound 10 = .ok (.iload_n 2, 1) := by decide +kernel
theorem dX6_isBound_11 : decode cX6_isBound 11 = .ok (.iadd, 1) := by decide +kernel
theorem dX6_isBound_12 : decode cX6_isBound 12 = .ok (.iaload, 1) := by decide +kernel
theorem dX6_isBound_13 : decode cX6_isBound 13 = .ok (.iconst (-1), 1) := by decide +kernel
theorem dX6_isBound_14 : decode cX6_isBound 14 = .ok (.if_icmp .eq 15, 3) := by decide +kernel
theorem dX6_isBound_17 : decode cX6_isBound 17 = .ok (.iload_n 2, 1) := by decide +kernel
theorem dX6_isBound_18 : decode cX6_isBound 18 = .ok (.aload_n 0, 1) := by decide +kernel
theorem dX6_isBound_19 : decode cX6_isBound 19 = .ok (.getfield 141, 3) := by decide +kernel
theorem dX6_isBound_22 : decode cX6_isBound 22 = .ok (.if_icmp .eq 7, 3) := by decide +kernel
theorem dX6_isBound_25 : decode cX6_isBound 25 = .ok (.iconst 1, 1) := by decide +kernel
theorem dX6_isBound_26 : decode cX6_isBound 26 = .ok (.goto 4, 3) := by decide +kernel
theorem dX6_isBound_29 : decode cX6_isBound 29 = .ok (.iconst 0, 1) := by decide +kernel
theorem dX6_isBound_30 : decode cX6_isBound 30 = .ok (.ireturn, 1) := by decide +kernel
theorem dX6_may_0 : decode cX6_may 0 = .ok (.aload_n 0, 1) := by decide +kernel
theorem dX6_may_1 : decode cX6_may 1 = .ok (.getfield 7, 3) := by decide +kernel
theorem dX6_may_4 : decode cX6_may 4 = .ok (.iconst 1, 1) := by decide +kernel
theorem dX6_may_5 : decode cX6_may 5 = .ok (.iload_n 1, 1) := by decide +kernel
theorem dX6_may_6 : decode cX6_may 6 = .ok (.iadd, 1) := by decide +kernel
theorem dX6_may_7 : decode cX6_may 7 = .ok (.iaload, 1) := by decide +kernel
theorem dX6_may_8 : decode cX6_may 8 = .ok (.iload_n 2, 1) := by decide +kernel
theorem dX6_may_9 : decode cX6_may 9 = .ok (.iadd, 1) := by decide +kernel
theorem dX6_may_10 : decode cX6_may 10 = .ok (.istore_n 3, 1) := by decide +kernel
theorem dX6_may_11 : decode cX6_may 11 = .ok (.aload_n 0, 1) := by decide +kernel
theorem dX6_may_12 : decode cX6_may 12 = .ok (.getfield 7, 3) := by decide +kernel
theorem dX6_may_15 : decode cX6_may 15 = .ok (.bipush 16, 2) := by decide +kernel
theorem dX6_may_17 : decode cX6_may 17 = .ok (.iload_n 1, 1) := by decide +kernel
theorem dX6_may_18 : decode cX6_may 18 = .ok (.iadd, 1) := by decide +kernel
theorem dX6_may_19 : decode cX6_may 19 = .ok (.iaload, 1) := by decide +kernel
theorem dX6_may_20 : decode cX6_may 20 = .ok (.istore 4, 2) := by decide +kernel
theorem dX6_may_22 : decode cX6_may 22 = .ok (.iload 4, 2) := by decide +kernel
theorem dX6_may_24 : decode cX6_may 24 = .ok (.iconst (-1), 1) := by decide +kernel
theorem dX6_may_25 : decode cX6_may 25 = .ok (.if_icmp .ne 7, 3) := by decide +kernel
theorem dX6_may_28 : decode cX6_may 28 = .ok (.iconst 0, 1) := by decide +kernel
theorem dX6_may_29 : decode cX6_may 29 = .ok (.goto 29, 3) := by decide +kernel
theorem dX6_may_32 : decode cX6_may 32 = .ok (.iload_n 3, 1) := by decide +kernel
theorem dX6_may_33 : decode cX6_may 33 = .ok (.bipush 8, 2) := by decide +kernel
theorem dX6_may_35 : decode cX6_may 35 = .ok (.iadd, 1) := by decide +kernel
theorem dX6_may_36 : decode cX6_may 36 = .ok (.iload 4, 2) := by decide +kernel
theorem dX6_may_38 : decode cX6_may 38 = .ok (.if_icmp .le 13, 3) := by decide +kernel
theorem dX6_may_41 : decode cX6_may 41 = .ok (.iload_n 3, 1) := by decide +kernel
theorem dX6_may_42 : decode cX6_may 42 = .ok (.bipush 8, 2) := by decide +kernel
theorem dX6_may_44 : decode cX6_may 44 = .ok (.iadd, 1) := by decide +kernel
theorem dX6_may_45 : decode cX6_may 45 = .ok (.iload 4, 2) := by decide +kernel
theorem dX6_may_47 : decode cX6_may 47 = .ok (.isub, 1) := by decide +kernel
theorem dX6_may_48 : decode cX6_may 48 = .ok (.goto 10, 3) := by decide +kernel
theorem dX6_may_51 : decode cX6_may 51 = .ok (.iload 4, 2) := by decide +kernel
theorem dX6_may_53 : decode cX6_may 53 = .ok (.iload_n 3, 1) := by decide +kernel
theorem dX6_may_54 : decode cX6_may 54 = .ok (.isub, 1) := by decide +kernel
theorem dX6_may_55 : decode cX6_may 55 = .ok (.bipush 8, 2) := by decide +kernel
theorem dX6_may_57 : decode cX6_may 57 = .ok (.isub, 1) := by decide +kernel
theorem dX6_may_58 : decode cX6_may 58 = .ok (.istore 5, 2) := by decide +kernel
theorem dX6_may_60 : decode cX6_may 60 = .ok (.aload_n 0, 1) := by decide +kernel
theorem dX6_may_61 : decode cX6_may 61 = .ok (.getfield 7, 3) := by decide +kernel
theorem dX6_may_64 : decode cX6_may 64 = .ok (.bipush 28, 2) := by decide +kernel
theorem dX6_may_66 : decode cX6_may 66 = .ok (.iaload, 1) := by decide +kernel
theorem dX6_may_67 : decode cX6_may 67 = .ok (.iload_n 1, 1) := by decide +kernel
theorem dX6_may_68 : decode cX6_may 68 = .ok (.ishr, 1) := by decide +kernel
theorem dX6_may_69 : decode cX6_may 69 = .ok (.iconst 1, 1) := by decide +kernel
theorem dX6_may_70 : decode cX6_may 70 = .ok (.iand, 1) := by decide +kernel
theorem dX6_may_71 : decode cX6_may 71 = .ok (.iconst 1, 1) := by decide +kernel
theorem dX6_may_72 : decode cX6_may 72 = .ok (.if_icmp .ne 8, 3) := by decide +kernel
theorem dX6_may_75 : decode cX6_may 75 = .ok (.iload 5, 2) := by decide +kernel
theorem dX6_may_77 : decode cX6_may 77 = .ok (.ifCond .ne 24, 3) := by decide +kernel
theorem dX6_may_80 : decode cX6_may 80 = .ok (.aload_n 0, 1) := by decide +kernel
theorem dX6_may_81 : decode cX6_may 81 = .ok (.getfield 144, 3) := by decide +kernel
theorem dX6_may_84 : decode cX6_may 84 = .ok (.iconst (-1), 1) := by decide +kernel
theorem dX6_may_85 : decode cX6_may 85 = .ok (.if_icmp .eq 12, 3) := by decide +kernel
theorem dX6_may_88 : decode cX6_may 88 = .ok (.iload 5, 2) := by decide +kernel
theorem dX6_may_90 : decode cX6_may 90 = .ok (.aload_n 0, 1) := by decide +kernel
theorem dX6_may_91 : decode cX6_may 91 = .ok (.getfield 144, 3) := by decide +kernel
theorem dX6_may_94 : decode cX6_may 94 = .ok (.if_icmp .gt 7, 3) := by decide +kernel
theorem dX6_may_97 : decode cX6_may 97 = .ok (.iconst 1, 1) := by decide +kernel
theorem dX6_may_98 : decode cX6_may 98 = .ok (.goto 4, 3) := by decide +kernel
theorem dX6_may_101 : decode cX6_may 101 = .ok (.iconst 0, 1) := by decide +kernel
theorem dX6_may_102 : decode cX6_may 102 = .ok (.ireturn, 1) := by decide +kernel
theorem dX6_square_0 : decode cX6_square 0 = .ok (.lload_n 0, 1) := by decide +kernel
theorem dX6_square_1 : decode cX6_square 1 = .ok (.lload_n 0, 1) := by decide +kernel
theorem dX6_square_2 : decode cX6_square 2 = .ok (.lmul, 1) := by decide +kernel
theorem dX6_square_3 : decode cX6_square 3 = .ok (.lreturn, 1) := by decide +kernel
theorem dX6_step_0 : decode cX6_step 0 = .ok (.aload_n 0, 1) := by decide +kernel
theorem dX6_step_1 : decode cX6_step 1 = .ok (.getfield 7, 3) := by decide +kernel
theorem dX6_step_4 : decode cX6_step 4 = .ok (.iconst 1, 1) := by decide +kernel
theorem dX6_step_5 : decode cX6_step 5 = .ok (.iload_n 1, 1) := by decide +kernel
theorem dX6_step_6 : decode cX6_step 6 = .ok (.iadd, 1) := by decide +kernel
theorem dX6_step_7 : decode cX6_step 7 = .ok (.iaload, 1) := by decide +kernel
theorem dX6_step_8 : decode cX6_step 8 = .ok (.istore 4, 2) := by decide +kernel
theorem dX6_step_10 : decode cX6_step 10 = .ok (.aload_n 0, 1) := by decide +kernel
theorem dX6_step_11 : decode cX6_step 11 = .ok (.getfield 7, 3) := by decide +kernel
theorem dX6_step_14 : decode cX6_step 14 = .ok (.iconst 1, 1) := by decide +kernel
theorem dX6_step_15 : decode cX6_step 15 = .ok (.iload_n 1, 1) := by decide +kernel
theorem dX6_step_16 : decode cX6_step 16 = .ok (.iadd, 1) := by decide +kernel
theorem dX6_step_17 : decode cX6_step 17 = .ok (.iconst 1, 1) := by decide +kernel
theorem dX6_step_18 : decode cX6_step 18 = .ok (.iadd, 1) := by decide +kernel
theorem dX6_step_19 : decode cX6_step 19 = .ok (.iaload, 1) := by decide +kernel
theorem dX6_step_20 : decode cX6_step 20 = .ok (.istore 5, 2) := by decide +kernel
theorem dX6_step_22 : decode cX6_step 22 = .ok (.aload_n 0, 1) := by decide +kernel
theorem dX6_step_23 : decode cX6_step 23 = .ok (.getfield 7, 3) := by decide +kernel
theorem dX6_step_26 : decode cX6_step 26 = .ok (.bipush 30, 2) := by decide +kernel
theorem dX6_step_28 : decode cX6_step 28 = .ok (.iaload, 1) := by decide +kernel
theorem dX6_step_29 : decode cX6_step 29 = .ok (.ifCond .ne 13, 3) := by decide +kernel
theorem dX6_step_32 : decode cX6_step 32 = .ok (.iload_n 3, 1) := by decide +kernel
theorem dX6_step_33 : decode cX6_step 33 = .ok (.iload_n 2, 1) := by decide +kernel
theorem dX6_step_34 : decode cX6_step 34 = .ok (.isub, 1) := by decide +kernel
theorem dX6_step_35 : decode cX6_step 35 = .ok (.i2l, 1) := by decide +kernel
theorem dX6_step_36 : decode cX6_step 36 = .ok (.invokestatic 147, 3) := by decide +kernel
theorem dX6_step_39 : decode cX6_step 39 = .ok (.goto 22, 3) := by decide +kernel
theorem dX6_step_42 : decode cX6_step 42 = .ok (.iload 5, 2) := by decide +kernel
theorem dX6_step_44 : decode cX6_step 44 = .ok (.iload_n 3, 1) := by decide +kernel
theorem dX6_step_45 : decode cX6_step 45 = .ok (.iadd, 1) := by decide +kernel
theorem dX6_step_46 : decode cX6_step 46 = .ok (.iload 4, 2) := by decide +kernel
theorem dX6_step_48 : decode cX6_step 48 = .ok (.imul, 1) := by decide +kernel
theorem dX6_step_49 : decode cX6_step 49 = .ok (.iload 4, 2) := by decide +kernel
theorem dX6_step_51 : decode cX6_step 51 = .ok (.iload_n 2, 1) := by decide +kernel
theorem dX6_step_52 : decode cX6_step 52 = .ok (.iadd, 1) := by decide +kernel
theorem dX6_step_53 : decode cX6_step 53 = .ok (.iload 5, 2) := by decide +kernel
theorem dX6_step_55 : decode cX6_step 55 = .ok (.imul, 1) := by decide +kernel
theorem dX6_step_56 : decode cX6_step 56 = .ok (.isub, 1) := by decide +kernel
theorem dX6_step_57 : decode cX6_step 57 = .ok (.i2l, 1) := by decide +kernel
theorem dX6_step_58 : decode cX6_step 58 = .ok (.invokestatic 147, 3) := by decide +kernel
theorem dX6_step_61 : decode cX6_step 61 = .ok (.lreturn, 1) := by decide +kernel
theorem dX6_place_0 : decode cX6_place 0 = .ok (.bipush 17, 2) := by decide +kernel
theorem dX6_place_2 : decode cX6_place 2 = .ok (.iload_n 0, 1) := by decide +kernel
theorem dX6_place_3 : decode cX6_place 3 = .ok (.imul, 1) := by decide +kernel
theorem dX6_place_4 : decode cX6_place 4 = .ok (.iload_n 1, 1) := by decide +kernel
theorem dX6_place_5 : decode cX6_place 5 = .ok (.iadd, 1) := by decide +kernel
theorem dX6_place_6 : decode cX6_place 6 = .ok (.bipush 8, 2) := by decide +kernel
theorem dX6_place_8 : decode cX6_place 8 = .ok (.iadd, 1) := by decide +kernel
theorem dX6_place_9 : decode cX6_place 9 = .ok (.bipush 65, 2) := by decide +kernel
theorem dX6_place_11 : decode cX6_place 11 = .ok (.imul, 1) := by decide +kernel
theorem dX6_place_12 : decode cX6_place 12 = .ok (.iload_n 2, 1) := by decide +kernel
theorem dX6_place_13 : decode cX6_place 13 = .ok (.iadd, 1) := by decide +kernel
theorem dX6_place_14 : decode cX6_place 14 = .ok (.bipush 32, 2) := by decide +kernel
theorem dX6_place_16 : decode cX6_place 16 = .ok (.iadd, 1) := by decide +kernel
theorem dX6_place_17 : decode cX6_place 17 = .ok (.ireturn, 1) := by decide +kernel
theorem dX6_nextSum_0 : decode cX6_nextSum 0 = .ok (.aload_n 0, 1) := by decide +kernel
theorem dX6_nextSum_1 : decode cX6_nextSum 1 = .ok (.iload_n 1, 1) := by decide +kernel
theorem dX6_nextSum_2 : decode cX6_nextSum 2 = .ok (.iconst 1, 1) := by decide +kernel
theorem dX6_nextSum_3 : decode cX6_nextSum 3 = .ok (.iadd, 1) := by decide +kernel
theorem dX6_nextSum_4 : decode cX6_nextSum 4 = .ok (.invokevirtual 151, 3) := by decide +kernel
theorem dX6_nextSum_7 : decode cX6_nextSum 7 = .ok (.ifCond .ne 7, 3) := by decide +kernel
theorem dX6_nextSum_10 : decode cX6_nextSum 10 = .ok (.iconst 0, 1) := by decide +kernel
theorem dX6_nextSum_11 : decode cX6_nextSum 11 = .ok (.goto 17, 3) := by decide +kernel
theorem dX6_nextSum_14 : decode cX6_nextSum 14 = .ok (.iload_n 1, 1) := by decide +kernel
theorem dX6_nextSum_15 : decode cX6_nextSum 15 = .ok (.iconst 4, 1) := by decide +kernel
theorem dX6_nextSum_16 : decode cX6_nextSum 16 = .ok (.irem, 1) := by decide +kernel
theorem dX6_nextSum_17 : decode cX6_nextSum 17 = .ok (.iconst 3, 1) := by decide +kernel
theorem dX6_nextSum_18 : decode cX6_nextSum 18 = .ok (.if_icmp .ne 7, 3) := by decide +kernel
theorem dX6_nextSum_21 : decode cX6_nextSum 21 = .ok (.iload_n 3, 1) := by decide +kernel
theorem dX6_nextSum_22 : decode cX6_nextSum 22 = .ok (.goto 6, 3) := by decide +kernel
theorem dX6_nextSum_25 : decode cX6_nextSum 25 = .ok (.iload_n 2, 1) := by decide +kernel
theorem dX6_nextSum_26 : decode cX6_nextSum 26 = .ok (.iload_n 3, 1) := by decide +kernel
theorem dX6_nextSum_27 : decode cX6_nextSum 27 = .ok (.iadd, 1) := by decide +kernel
theorem dX6_nextSum_28 : decode cX6_nextSum 28 = .ok (.ireturn, 1) := by decide +kernel
theorem dX6_lay_0 : decode cX6_lay 0 = .ok (.iload_n 1, 1) := by decide +kernel
theorem dX6_lay_1 : decode cX6_lay 1 = .ok (.iload_n 2, 1) := by decide +kernel
theorem dX6_lay_2 : decode cX6_lay 2 = .ok (.iload_n 3, 1) := by decide +kernel
theorem dX6_lay_3 : decode cX6_lay 3 = .ok (.invokestatic 154, 3) := by decide +kernel
theorem dX6_lay_6 : decode cX6_lay 6 = .ok (.istore 4, 2) := by decide +kernel
theorem dX6_lay_8 : decode cX6_lay 8 = .ok (.aload_n 0, 1) := by decide +kernel
theorem dX6_lay_9 : decode cX6_lay 9 = .ok (.getfield 34, 3) := by decide +kernel
theorem dX6_lay_12 : decode cX6_lay 12 = .ok (.iload 4, 2) := by decide +kernel
theorem dX6_lay_14 : decode cX6_lay 14 = .ok (.ldc2_w 158, 3) := by decide +kernel
theorem dX6_lay_17 : decode cX6_lay 17 = .ok (.lastore, 1) := by decide +kernel
theorem dX6_lay_18 : decode cX6_lay 18 = .ok (.aload_n 0, 1) := by decide +kernel
theorem dX6_lay_19 : decode cX6_lay 19 = .ok (.getfield 38, 3) := by decide +kernel
theorem dX6_lay_22 : decode cX6_lay 22 = .ok (.iload 4, 2) := by decide +kernel
theorem dX6_lay_24 : decode cX6_lay 24 = .ok (.iconst 0, 1) := by decide +kernel
theorem dX6_lay_25 : decode cX6_lay 25 = .ok (.iastore, 1) := by decide +kernel
theorem dX6_lay_26 : decode cX6_lay 26 = .ok (.aload_n 0, 1) := by decide +kernel
theorem dX6_lay_27 : decode cX6_lay 27 = .ok (.iload_n 1, 1) := by decide +kernel
theorem dX6_lay_28 : decode cX6_lay 28 = .ok (.iload_n 2, 1) := by decide +kernel
theorem dX6_lay_29 : decode cX6_lay 29 = .ok (.invokevirtual 160, 3) := by decide +kernel
theorem dX6_lay_32 : decode cX6_lay 32 = .ok (.ifCond .eq 45, 3) := by decide +kernel
theorem dX6_lay_35 : decode cX6_lay 35 = .ok (.aload_n 0, 1) := by decide +kernel
theorem dX6_lay_36 : decode cX6_lay 36 = .ok (.iload_n 1, 1) := by decide +kernel
theorem dX6_lay_37 : decode cX6_lay 37 = .ok (.invokevirtual 151, 3) := by decide +kernel
theorem dX6_lay_40 : decode cX6_lay 40 = .ok (.ifCond .eq 33, 3) := by decide +kernel
theorem dX6_lay_43 : decode cX6_lay 43 = .ok (.iload_n 1, 1) := by decide +kernel
theorem dX6_lay_44 : decode cX6_lay 44 = .ok (.iconst 4, 1) := by decide +kernel
theorem dX6_lay_45 : decode cX6_lay 45 = .ok (.irem, 1) := by decide +kernel
theorem dX6_lay_46 : decode cX6_lay 46 = .ok (.iconst 3, 1) := by decide +kernel
theorem dX6_lay_47 : decode cX6_lay 47 = .ok (.if_icmp .ne 26, 3) := by decide +kernel
theorem dX6_lay_50 : decode cX6_lay 50 = .ok (.iload_n 3, 1) := by decide +kernel
theorem dX6_lay_51 : decode cX6_lay 51 = .ok (.aload_n 0, 1) := by decide +kernel
theorem dX6_lay_52 : decode cX6_lay 52 = .ok (.getfield 7, 3) := by decide +kernel
theorem dX6_lay_55 : decode cX6_lay 55 = .ok (.bipush 13, 2) := by decide +kernel
theorem dX6_lay_57 : decode cX6_lay 57 = .ok (.iload_n 1, 1) := by decide +kernel
theorem dX6_lay_58 : decode cX6_lay 58 = .ok (.iconst 4, 1) := by decide +kernel
theorem dX6_lay_59 : decode cX6_lay 59 = .ok (.idiv, 1) := by decide +kernel
theorem dX6_lay_60 : decode cX6_lay 60 = .ok (.iadd, 1) := by decide +kernel
theorem dX6_lay_61 : decode cX6_lay 61 = .ok (.iaload, 1) := by decide +kernel
theorem dX6_lay_62 : decode cX6_lay 62 = .ok (.aload_n 0, 1) := by decide +kernel
theorem dX6_lay_63 : decode cX6_lay 63 = .ok (.iload_n 1, 1) := by decide +kernel
theorem dX6_lay_64 : decode cX6_lay 64 = .ok (.iconst 4, 1) := by decide +kernel
theorem dX6_lay_65 : decode cX6_lay 65 = .ok (.idiv, 1) := by decide +kernel
theorem dX6_lay_66 : decode cX6_lay 66 = .ok (.invokevirtual 130, 3) := by decide +kernel
theorem dX6_lay_69 : decode cX6_lay 69 = .ok (.isub, 1) := by decide +kernel
theorem dX6_lay_70 : decode cX6_lay 70 = .ok (.if_icmp .ne 7, 3) := by decide +kernel
theorem dX6_lay_73 : decode cX6_lay 73 = .ok (.iconst 1, 1) := by decide +kernel
theorem dX6_lay_74 : decode cX6_lay 74 = .ok (.goto 4, 3) := by decide +kernel
theorem dX6_lay_77 : decode cX6_lay 77 = .ok (.iconst 0, 1) := by decide +kernel
theorem dX6_lay_78 : decode cX6_lay 78 = .ok (.istore 5, 2) := by decide +kernel
theorem dX6_lay_80 : decode cX6_lay 80 = .ok (.iload 5, 2) := by decide +kernel
theorem dX6_lay_82 : decode cX6_lay 82 = .ok (.ifCond .ne 4, 3) := by decide +kernel
theorem dX6_lay_85 : decode cX6_lay 85 = .ok (.return_, 1) := by decide +kernel
theorem dX6_lay_86 : decode cX6_lay 86 = .ok (.iload_n 1, 1) := by decide +kernel
theorem dX6_lay_87 : decode cX6_lay 87 = .ok (.aload_n 0, 1) := by decide +kernel
theorem dX6_lay_88 : decode cX6_lay 88 = .ok (.getfield 7, 3) := by decide +kernel
theorem dX6_lay_91 : decode cX6_lay 91 = .ok (.iconst 0, 1) := by decide +kernel
theorem dX6_lay_92 : decode cX6_lay 92 = .ok (.iaload, 1) := by decide +kernel
theorem dX6_lay_93 : decode cX6_lay 93 = .ok (.iconst 1, 1) := by decide +kernel
theorem dX6_lay_94 : decode cX6_lay 94 = .ok (.isub, 1) := by decide +kernel
theorem dX6_lay_95 : decode cX6_lay 95 = .ok (.if_icmp .ne 23, 3) := by decide +kernel
theorem dX6_lay_98 : decode cX6_lay 98 = .ok (.aload_n 0, 1) := by decide +kernel
theorem dX6_lay_99 : decode cX6_lay 99 = .ok (.getfield 34, 3) := by decide +kernel
theorem dX6_lay_102 : decode cX6_lay 102 = .ok (.iload 4, 2) := by decide +kernel
theorem dX6_lay_104 : decode cX6_lay 104 = .ok (.iload_n 2, 1) := by decide +kernel
theorem dX6_lay_105 : decode cX6_lay 105 = .ok (.iload_n 2, 1) := by decide +kernel
theorem dX6_lay_106 : decode cX6_lay 106 = .ok (.imul, 1) := by decide +kernel
theorem dX6_lay_107 : decode cX6_lay 107 = .ok (.i2l, 1) := by decide +kernel
theorem dX6_lay_108 : decode cX6_lay 108 = .ok (.lastore, 1) := by decide +kernel
theorem dX6_lay_109 : decode cX6_lay 109 = .ok (.aload_n 0, 1) := by decide +kernel
theorem dX6_lay_110 : decode cX6_lay 110 = .ok (.getfield 38, 3) := by decide +kernel
theorem dX6_lay_113 : decode cX6_lay 113 = .ok (.iload 4, 2) := by decide +kernel
theorem dX6_lay_115 : decode cX6_lay 115 = .ok (.iconst 1, 1) := by decide +kernel
theorem dX6_lay_116 : decode cX6_lay 116 = .ok (.iastore, 1) := by decide +kernel
theorem dX6_lay_117 : decode cX6_lay 117 = .ok (.return_, 1) := by decide +kernel
theorem dX6_lay_118 : decode cX6_lay 118 = .ok (.bipush (-8), 2) := by decide +kernel
theorem dX6_lay_120 : decode cX6_lay 120 = .ok (.istore 6, 2) := by decide +kernel
theorem dX6_lay_122 : decode cX6_lay 122 = .ok (.iload 6, 2) := by decide +kernel
theorem dX6_lay_124 : decode cX6_lay 124 = .ok (.bipush 8, 2) := by decide +kernel
theorem dX6_lay_126 : decode cX6_lay 126 = .ok (.if_icmp .gt 194, 3) := by decide +kernel
theorem dX6_lay_129 : decode cX6_lay 129 = .ok (.aload_n 0, 1) := by decide +kernel
theorem dX6_lay_130 : decode cX6_lay 130 = .ok (.iload_n 1, 1) := by decide +kernel
theorem dX6_lay_131 : decode cX6_lay 131 = .ok (.iload_n 3, 1) := by decide +kernel
theorem dX6_lay_132 : decode cX6_lay 132 = .ok (.iload 6, 2) := by decide +kernel
theorem dX6_lay_134 : decode cX6_lay 134 = .ok (.invokevirtual 164, 3) := by decide +kernel
theorem dX6_lay_137 : decode cX6_lay 137 = .ok (.istore 7, 2) := by decide +kernel
theorem dX6_lay_139 : decode cX6_lay 139 = .ok (.iload 7, 2) := by decide +kernel
theorem dX6_lay_141 : decode cX6_lay 141 = .ok (.i2l, 1) := by decide +kernel
theorem dX6_lay_142 : decode cX6_lay 142 = .ok (.ldc2_w 167, 3) := by decide +kernel
theorem dX6_lay_145 : decode cX6_lay 145 = .ok (.ldc2_w 169, 3) := by decide +kernel
theorem dX6_lay_148 : decode cX6_lay 148 = .ok (.invokestatic 62, 3) := by decide +kernel
theorem dX6_lay_151 : decode cX6_lay 151 = .ok (.ifCond .eq 16, 3) := by decide +kernel
theorem dX6_lay_154 : decode cX6_lay 154 = .ok (.iload_n 1, 1) := by decide +kernel
theorem dX6_lay_155 : decode cX6_lay 155 = .ok (.iconst 1, 1) := by decide +kernel
theorem dX6_lay_156 : decode cX6_lay 156 = .ok (.iadd, 1) := by decide +kernel
theorem dX6_lay_157 : decode cX6_lay 157 = .ok (.iload 6, 2) := by decide +kernel
theorem dX6_lay_159 : decode cX6_lay 159 = .ok (.iload 7, 2) := by decide +kernel
theorem dX6_lay_161 : decode cX6_lay 161 = .ok (.invokestatic 154, 3) := by decide +kernel
theorem dX6_lay_164 : decode cX6_lay 164 = .ok (.goto 4, 3) := by decide +kernel
theorem dX6_lay_167 : decode cX6_lay 167 = .ok (.iconst (-1), 1) := by decide +kernel
theorem dX6_lay_168 : decode cX6_lay 168 = .ok (.istore 8, 2) := by decide +kernel
theorem dX6_lay_170 : decode cX6_lay 170 = .ok (.iload 8, 2) := by decide +kernel
theorem dX6_lay_172 : decode cX6_lay 172 = .ok (.iconst (-1), 1) := by decide +kernel
theorem dX6_lay_173 : decode cX6_lay 173 = .ok (.if_icmp .eq 141, 3) := by decide +kernel
theorem dX6_lay_176 : decode cX6_lay 176 = .ok (.aload_n 0, 1) := by decide +kernel
theorem dX6_lay_177 : decode cX6_lay 177 = .ok (.getfield 34, 3) := by decide +kernel
theorem dX6_lay_180 : decode cX6_lay 180 = .ok (.iload 8, 2) := by decide +kernel
theorem dX6_lay_182 : decode cX6_lay 182 = .ok (.laload, 1) := by decide +kernel
theorem dX6_lay_183 : decode cX6_lay 183 = .ok (.ldc2_w 158, 3) := by decide +kernel
theorem dX6_lay_186 : decode cX6_lay 186 = .ok (.lcmp, 1) := by decide +kernel
theorem dX6_lay_187 : decode cX6_lay 187 = .ok (.ifCond .ge 127, 3) := by decide +kernel
theorem dX6_lay_190 : decode cX6_lay 190 = .ok (.aload_n 0, 1) := by decide +kernel
theorem dX6_lay_191 : decode cX6_lay 191 = .ok (.getfield 34, 3) := by decide +kernel
theorem dX6_lay_194 : decode cX6_lay 194 = .ok (.iload 8, 2) := by decide +kernel
theorem dX6_lay_196 : decode cX6_lay 196 = .ok (.laload, 1) := by decide +kernel
theorem dX6_lay_197 : decode cX6_lay 197 = .ok (.iload_n 2, 1) := by decide +kernel
theorem dX6_lay_198 : decode cX6_lay 198 = .ok (.iload_n 2, 1) := by decide +kernel
theorem dX6_lay_199 : decode cX6_lay 199 = .ok (.imul, 1) := by decide +kernel
theorem dX6_lay_200 : decode cX6_lay 200 = .ok (.i2l, 1) := by decide +kernel
theorem dX6_lay_201 : decode cX6_lay 201 = .ok (.ladd, 1) := by decide +kernel
theorem dX6_lay_202 : decode cX6_lay 202 = .ok (.ldc2_w 171, 3) := by decide +kernel
theorem dX6_lay_205 : decode cX6_lay 205 = .ok (.aload_n 0, 1) := by decide +kernel
theorem dX6_lay_206 : decode cX6_lay 206 = .ok (.iload_n 1, 1) := by decide +kernel
theorem dX6_lay_207 : decode cX6_lay 207 = .ok (.iload_n 2, 1) := by decide +kernel
theorem dX6_lay_208 : decode cX6_lay 208 = .ok (.iload 6, 2) := by decide +kernel
theorem dX6_lay_210 : decode cX6_lay 210 = .ok (.invokevirtual 173, 3) := by decide +kernel
theorem dX6_lay_213 : decode cX6_lay 213 = .ok (.lmul, 1) := by decide +kernel
theorem dX6_lay_214 : decode cX6_lay 214 = .ok (.ladd, 1) := by decide +kernel
theorem dX6_lay_215 : decode cX6_lay 215 = .ok (.lstore 9, 2) := by decide +kernel
theorem dX6_lay_217 : decode cX6_lay 217 = .ok (.lload 9, 2) := by decide +kernel
theorem dX6_lay_219 : decode cX6_lay 219 = .ok (.aload_n 0, 1) := by decide +kernel
theorem dX6_lay_220 : decode cX6_lay 220 = .ok (.getfield 34, 3) := by decide +kernel
theorem dX6_lay_223 : decode cX6_lay 223 = .ok (.iload 4, 2) := by decide +kernel
theorem dX6_lay_225 : decode cX6_lay 225 = .ok (.laload, 1) := by decide +kernel
theorem dX6_lay_226 : decode cX6_lay 226 = .ok (.lcmp, 1) := by decide +kernel
theorem dX6_lay_227 : decode cX6_lay 227 = .ok (.ifCond .ge 7, 3) := by decide +kernel
theorem dX6_lay_230 : decode cX6_lay 230 = .ok (.iconst 0, 1) := by decide +kernel
theorem dX6_lay_231 : decode cX6_lay 231 = .ok (.goto 27, 3) := by decide +kernel
theorem dX6_lay_234 : decode cX6_lay 234 = .ok (.lload 9, 2) := by decide +kernel
theorem dX6_lay_236 : decode cX6_lay 236 = .ok (.aload_n 0, 1) := by decide +kernel
theorem dX6_lay_237 : decode cX6_lay 237 = .ok (.getfield 34, 3) := by decide +kernel
theorem dX6_lay_240 : decode cX6_lay 240 = .ok (.iload 4, 2) := by decide +kernel
theorem dX6_lay_242 : decode cX6_lay 242 = .ok (.laload, 1) := by decide +kernel
theorem dX6_lay_243 : decode cX6_lay 243 = .ok (.lcmp, 1) := by decide +kernel
theorem dX6_lay_244 : decode cX6_lay 244 = .ok (.ifCond .ne 13, 3) := by decide +kernel
theorem dX6_lay_247 : decode cX6_lay 247 = .ok (.aload_n 0, 1) := by decide +kernel
theorem dX6_lay_248 : decode cX6_lay 248 = .ok (.getfield 38, 3) := by decide +kernel
theorem dX6_lay_251 : decode cX6_lay 251 = .ok (.iload 4, 2) := by decide +kernel
theorem dX6_lay_253 : decode cX6_lay 253 = .ok (.iaload, 1) := by decide +kernel
theorem dX6_lay_254 : decode cX6_lay 254 = .ok (.goto 4, 3) := by decide +kernel
theorem dX6_lay_257 : decode cX6_lay 257 = .ok (.iconst (-1), 1) := by decide +kernel
theorem dX6_lay_258 : decode cX6_lay 258 = .ok (.istore 11, 2) := by decide +kernel
theorem dX6_lay_260 : decode cX6_lay 260 = .ok (.iload 11, 2) := by decide +kernel
theorem dX6_lay_262 : decode cX6_lay 262 = .ok (.iconst (-1), 1) := by decide +kernel
theorem dX6_lay_263 : decode cX6_lay 263 = .ok (.if_icmp .eq 51, 3) := by decide +kernel
theorem dX6_lay_266 : decode cX6_lay 266 = .ok (.aload_n 0, 1) := by decide +kernel
theorem dX6_lay_267 : decode cX6_lay 267 = .ok (.getfield 34, 3) := by decide +kernel
theorem dX6_lay_270 : decode cX6_lay 270 = .ok (.iload 4, 2) := by decide +kernel
theorem dX6_lay_272 : decode cX6_lay 272 = .ok (.lload 9, 2) := by decide +kernel
theorem dX6_lay_274 : decode cX6_lay 274 = .ok (.lastore, 1) := by decide +kernel
theorem dX6_lay_275 : decode cX6_lay 275 = .ok (.aload_n 0, 1) := by decide +kernel
theorem dX6_lay_276 : decode cX6_lay 276 = .ok (.getfield 38, 3) := by decide +kernel
theorem dX6_lay_279 : decode cX6_lay 279 = .ok (.iload 4, 2) := by decide +kernel
theorem dX6_lay_281 : decode cX6_lay 281 = .ok (.iload 11, 2) := by decide +kernel
theorem dX6_lay_283 : decode cX6_lay 283 = .ok (.aload_n 0, 1) := by decide +kernel
theorem dX6_lay_284 : decode cX6_lay 284 = .ok (.getfield 38, 3) := by decide +kernel
theorem dX6_lay_287 : decode cX6_lay 287 = .ok (.iload 8, 2) := by decide +kernel
theorem dX6_lay_289 : decode cX6_lay 289 = .ok (.iaload, 1) := by decide +kernel
theorem dX6_lay_290 : decode cX6_lay 290 = .ok (.iadd, 1) := by decide +kernel
theorem dX6_lay_291 : decode cX6_lay 291 = .ok (.sipush 9999, 3) := by decide +kernel
theorem dX6_lay_294 : decode cX6_lay 294 = .ok (.if_icmp .le 9, 3) := by decide +kernel
theorem dX6_lay_297 : decode cX6_lay 297 = .ok (.sipush 9999, 3) := by decide +kernel
theorem dX6_lay_300 : decode cX6_lay 300 = .ok (.goto 13, 3) := by decide +kernel
theorem dX6_lay_303 : decode cX6_lay 303 = .ok (.iload 11, 2) := by decide +kernel
theorem dX6_lay_305 : decode cX6_lay 305 = .ok (.aload_n 0, 1) := by decide +kernel
theorem dX6_lay_306 : decode cX6_lay 306 = .ok (.getfield 38, 3) := by decide +kernel
theorem dX6_lay_309 : decode cX6_lay 309 = .ok (.iload 8, 2) := by decide +kernel
theorem dX6_lay_311 : decode cX6_lay 311 = .ok (.iaload, 1) := by decide +kernel
theorem dX6_lay_312 : decode cX6_lay 312 = .ok (.iadd, 1) := by decide +kernel
theorem dX6_lay_313 : decode cX6_lay 313 = .ok (.iastore, 1) := by decide +kernel
theorem dX6_lay_314 : decode cX6_lay 314 = .ok (.iinc 6 1, 3) := by decide +kernel
theorem dX6_lay_317 : decode cX6_lay 317 = .ok (.goto (-195), 3) := by decide +kernel
theorem dX6_lay_320 : decode cX6_lay 320 = .ok (.return_, 1) := by decide +kernel
theorem dX6_find_0 : decode cX6_find 0 = .ok (.aload_n 0, 1) := by decide +kernel
theorem dX6_find_1 : decode cX6_find 1 = .ok (.iload_n 1, 1) := by decide +kernel
theorem dX6_find_2 : decode cX6_find 2 = .ok (.putfield 144, 3) := by decide +kernel
theorem dX6_find_5 : decode cX6_find 5 = .ok (.aload_n 0, 1) := by decide +kernel
theorem dX6_find_6 : decode cX6_find 6 = .ok (.iload_n 2, 1) := by decide +kernel
theorem dX6_find_7 : decode cX6_find 7 = .ok (.putfield 141, 3) := by decide +kernel
theorem dX6_find_10 : decode cX6_find 10 = .ok (.aload_n 0, 1) := by decide +kernel
theorem dX6_find_11 : decode cX6_find 11 = .ok (.getfield 7, 3) := by decide +kernel
theorem dX6_find_14 : decode cX6_find 14 = .ok (.iconst 0, 1) := by decide +kernel
theorem dX6_find_15 : decode cX6_find 15 = .ok (.iaload, 1) := by decide +kernel
theorem dX6_find_16 : decode cX6_find 16 = .ok (.istore_n 3, 1) := by decide +kernel
theorem dX6_find_17 : decode cX6_find 17 = .ok (.iload_n 3, 1) := by decide +kernel
theorem dX6_find_18 : decode cX6_find 18 = .ok (.iconst 1, 1) := by decide +kernel
theorem dX6_find_19 : decode cX6_find 19 = .ok (.isub, 1) := by decide +kernel
theorem dX6_find_20 : decode cX6_find 20 = .ok (.istore 4, 2) := by decide +kernel
theorem dX6_find_22 : decode cX6_find 22 = .ok (.iload 4, 2) := by decide +kernel
theorem dX6_find_24 : decode cX6_find 24 = .ok (.ifCond .lt 67, 3) := by decide +kernel
theorem dX6_find_27 : decode cX6_find 27 = .ok (.bipush (-8), 2) := by decide +kernel
theorem dX6_find_29 : decode cX6_find 29 = .ok (.istore 5, 2) := by decide +kernel
theorem dX6_find_31 : decode cX6_find 31 = .ok (.iload 5, 2) := by decide +kernel
theorem dX6_find_33 : decode cX6_find 33 = .ok (.bipush 8, 2) := by decide +kernel
theorem dX6_find_35 : decode cX6_find 35 = .ok (.if_icmp .gt 50, 3) := by decide +kernel
theorem dX6_find_38 : decode cX6_find 38 = .ok (.bipush (-32), 2) := by decide +kernel
theorem dX6_find_40 : decode cX6_find 40 = .ok (.istore 6, 2) := by decide +kernel
theorem dX6_find_42 : decode cX6_find 42 = .ok (.iload 6, 2) := by decide +kernel
theorem dX6_find_44 : decode cX6_find 44 = .ok (.bipush 32, 2) := by decide +kernel
theorem dX6_find_46 : decode cX6_find 46 = .ok (.if_icmp .gt 33, 3) := by decide +kernel
theorem dX6_find_49 : decode cX6_find 49 = .ok (.aload_n 0, 1) := by decide +kernel
theorem dX6_find_50 : decode cX6_find 50 = .ok (.iload 4, 2) := by decide +kernel
theorem dX6_find_52 : decode cX6_find 52 = .ok (.invokevirtual 151, 3) := by decide +kernel
theorem dX6_find_55 : decode cX6_find 55 = .ok (.ifCond .ne 8, 3) := by decide +kernel
theorem dX6_find_58 : decode cX6_find 58 = .ok (.iload 6, 2) := by decide +kernel
theorem dX6_find_60 : decode cX6_find 60 = .ok (.ifCond .ne 13, 3) := by decide +kernel
theorem dX6_find_63 : decode cX6_find 63 = .ok (.aload_n 0, 1) := by decide +kernel
theorem dX6_find_64 : decode cX6_find 64 = .ok (.iload 4, 2) := by decide +kernel
theorem dX6_find_66 : decode cX6_find 66 = .ok (.iload 5, 2) := by decide +kernel
theorem dX6_find_68 : decode cX6_find 68 = .ok (.iload 6, 2) := by decide +kernel
theorem dX6_find_70 : decode cX6_find 70 = .ok (.invokevirtual 177, 3) := by decide +kernel
theorem dX6_find_73 : decode cX6_find 73 = .ok (.iinc 6 1, 3) := by decide +kernel
theorem dX6_find_76 : decode cX6_find 76 = .ok (.goto (-34), 3) := by decide +kernel
theorem dX6_find_79 : decode cX6_find 79 = .ok (.iinc 5 1, 3) := by decide +kernel
theorem dX6_find_82 : decode cX6_find 82 = .ok (.goto (-51), 3) := by decide +kernel
theorem dX6_find_85 : decode cX6_find 85 = .ok (.iinc 4 (-1), 3) := by decide +kernel
theorem dX6_find_88 : decode cX6_find 88 = .ok (.goto (-66), 3) := by decide +kernel
theorem dX6_find_91 : decode cX6_find 91 = .ok (.aload_n 0, 1) := by decide +kernel
theorem dX6_find_92 : decode cX6_find 92 = .ok (.iload_n 3, 1) := by decide +kernel
theorem dX6_find_93 : decode cX6_find 93 = .ok (.ifCond .ne 7, 3) := by decide +kernel
theorem dX6_find_96 : decode cX6_find 96 = .ok (.lconst 0, 1) := by decide +kernel
theorem dX6_find_97 : decode cX6_find 97 = .ok (.goto 6, 3) := by decide +kernel
theorem dX6_find_100 : decode cX6_find 100 = .ok (.ldc2_w 158, 3) := by decide +kernel
theorem dX6_find_103 : decode cX6_find 103 = .ok (.putfield 181, 3) := by decide +kernel
theorem dX6_find_106 : decode cX6_find 106 = .ok (.aload_n 0, 1) := by decide +kernel
theorem dX6_find_107 : decode cX6_find 107 = .ok (.iload_n 3, 1) := by decide +kernel
theorem dX6_find_108 : decode cX6_find 108 = .ok (.ifCond .ne 7, 3) := by decide +kernel
theorem dX6_find_111 : decode cX6_find 111 = .ok (.iconst 1, 1) := by decide +kernel
theorem dX6_find_112 : decode cX6_find 112 = .ok (.goto 4, 3) := by decide +kernel
theorem dX6_find_115 : decode cX6_find 115 = .ok (.iconst 0, 1) := by decide +kernel
theorem dX6_find_116 : decode cX6_find 116 = .ok (.putfield 185, 3) := by decide +kernel
theorem dX6_find_119 : decode cX6_find 119 = .ok (.iconst (-1), 1) := by decide +kernel
theorem dX6_find_120 : decode cX6_find 120 = .ok (.istore 4, 2) := by decide +kernel
theorem dX6_find_122 : decode cX6_find 122 = .ok (.bipush (-8), 2) := by decide +kernel
theorem dX6_find_124 : decode cX6_find 124 = .ok (.istore 5, 2) := by decide +kernel
theorem dX6_find_126 : decode cX6_find 126 = .ok (.iload 5, 2) := by decide +kernel
theorem dX6_find_128 : decode cX6_find 128 = .ok (.bipush 8, 2) := by decide +kernel
theorem dX6_find_130 : decode cX6_find 130 = .ok (.if_icmp .gt 145, 3) := by decide +kernel
theorem dX6_find_133 : decode cX6_find 133 = .ok (.iload_n 3, 1) := by decide +kernel
theorem dX6_find_134 : decode cX6_find 134 = .ok (.ifCond .le 141, 3) := by decide +kernel
theorem dX6_find_137 : decode cX6_find 137 = .ok (.iconst 0, 1) := by decide +kernel
theorem dX6_find_138 : decode cX6_find 138 = .ok (.iload 5, 2) := by decide +kernel
theorem dX6_find_140 : decode cX6_find 140 = .ok (.aload_n 0, 1) := by decide +kernel
theorem dX6_find_141 : decode cX6_find 141 = .ok (.iconst 0, 1) := by decide +kernel
theorem dX6_find_142 : decode cX6_find 142 = .ok (.invokevirtual 151, 3) := by decide +kernel
theorem dX6_find_145 : decode cX6_find 145 = .ok (.ifCond .eq 8, 3) := by decide +kernel
theorem dX6_find_148 : decode cX6_find 148 = .ok (.iload 5, 2) := by decide +kernel
theorem dX6_find_150 : decode cX6_find 150 = .ok (.goto 4, 3) := by decide +kernel
theorem dX6_find_153 : decode cX6_find 153 = .ok (.iconst 0, 1) := by decide +kernel
theorem dX6_find_154 : decode cX6_find 154 = .ok (.invokestatic 154, 3) := by decide +kernel
theorem dX6_find_157 : decode cX6_find 157 = .ok (.istore 6, 2) := by decide +kernel
theorem dX6_find_159 : decode cX6_find 159 = .ok (.aload_n 0, 1) := by decide +kernel
theorem dX6_find_160 : decode cX6_find 160 = .ok (.getfield 34, 3) := by decide +kernel
theorem dX6_find_163 : decode cX6_find 163 = .ok (.iload 6, 2) := by decide +kernel
theorem dX6_find_165 : decode cX6_find 165 = .ok (.laload, 1) := by decide +kernel
theorem dX6_find_166 : decode cX6_find 166 = .ok (.aload_n 0, 1) := by decide +kernel
theorem dX6_find_167 : decode cX6_find 167 = .ok (.getfield 181, 3) := by decide +kernel
theorem dX6_find_170 : decode cX6_find 170 = .ok (.lcmp, 1) := by decide +kernel
theorem dX6_find_171 : decode cX6_find 171 = .ok (.ifCond .ge 32, 3) := by decide +kernel
theorem dX6_find_174 : decode cX6_find 174 = .ok (.aload_n 0, 1) := by decide +kernel
theorem dX6_find_175 : decode cX6_find 175 = .ok (.aload_n 0, 1) := by decide +kernel
theorem dX6_find_176 : decode cX6_find 176 = .ok (.getfield 34, 3) := by decide +kernel
theorem dX6_find_179 : decode cX6_find 179 = .ok (.iload 6, 2) := by decide +kernel
theorem dX6_find_181 : decode cX6_find 181 = .ok (.laload, 1) := by decide +kernel
theorem dX6_find_182 : decode cX6_find 182 = .ok (.putfield 181, 3) := by decide +kernel
theorem dX6_find_185 : decode cX6_find 185 = .ok (.aload_n 0, 1) := by decide +kernel
theorem dX6_find_186 : decode cX6_find 186 = .ok (.aload_n 0, 1) := by decide +kernel
theorem dX6_find_187 : decode cX6_find 187 = .ok (.getfield 38, 3) := by decide +kernel
theorem dX6_find_190 : decode cX6_find 190 = .ok (.iload 6, 2) := by decide +kernel
theorem dX6_find_192 : decode cX6_find 192 = .ok (.iaload, 1) := by decide +kernel
theorem dX6_find_193 : decode cX6_find 193 = .ok (.putfield 185, 3) := by decide +kernel
theorem dX6_find_196 : decode cX6_find 196 = .ok (.iload 5, 2) := by decide +kernel
theorem dX6_find_198 : decode cX6_find 198 = .ok (.istore 4, 2) := by decide +kernel
theorem dX6_find_200 : decode cX6_find 200 = .ok (.goto 69, 3) := by decide +kernel
theorem dX6_find_203 : decode cX6_find 203 = .ok (.aload_n 0, 1) := by decide +kernel
theorem dX6_find_204 : decode cX6_find 204 = .ok (.getfield 34, 3) := by decide +kernel
theorem dX6_find_207 : decode cX6_find 207 = .ok (.iload 6, 2) := by decide +kernel
theorem dX6_find_209 : decode cX6_find 209 = .ok (.laload, 1) := by decide +kernel
theorem dX6_find_210 : decode cX6_find 210 = .ok (.aload_n 0, 1) := by decide +kernel
theorem dX6_find_211 : decode cX6_find 211 = .ok (.getfield 181, 3) := by decide +kernel
theorem dX6_find_214 : decode cX6_find 214 = .ok (.lcmp, 1) := by decide +kernel
theorem dX6_find_215 : decode cX6_find 215 = .ok (.ifCond .ne 54, 3) := by decide +kernel
theorem dX6_find_218 : decode cX6_find 218 = .ok (.aload_n 0, 1) := by decide +kernel
theorem dX6_find_219 : decode cX6_find 219 = .ok (.getfield 181, 3) := by decide +kernel
theorem dX6_find_222 : decode cX6_find 222 = .ok (.ldc2_w 158, 3) := by decide +kernel
theorem dX6_find_225 : decode cX6_find 225 = .ok (.lcmp, 1) := by decide +kernel
theorem dX6_find_226 : decode cX6_find 226 = .ok (.ifCond .ge 43, 3) := by decide +kernel
theorem dX6_find_229 : decode cX6_find 229 = .ok (.aload_n 0, 1) := by decide +kernel
theorem dX6_find_230 : decode cX6_find 230 = .ok (.aload_n 0, 1) := by decide +kernel
theorem dX6_find_231 : decode cX6_find 231 = .ok (.getfield 185, 3) := by decide +kernel
theorem dX6_find_234 : decode cX6_find 234 = .ok (.aload_n 0, 1) := by decide +kernel
theorem dX6_find_235 : decode cX6_find 235 = .ok (.getfield 38, 3) := by decide +kernel
theorem dX6_find_238 : decode cX6_find 238 = .ok (.iload 6, 2) := by decide +kernel
theorem dX6_find_240 : decode cX6_find 240 = .ok (.iaload, 1) := by decide +kernel
theorem dX6_find_241 : decode cX6_find 241 = .ok (.iadd, 1) := by decide +kernel
theorem dX6_find_242 : decode cX6_find 242 = .ok (.sipush 9999, 3) := by decide +kernel
theorem dX6_find_245 : decode cX6_find 245 = .ok (.if_icmp .le 9, 3) := by decide +kernel
theorem dX6_find_248 : decode cX6_find 248 = .ok (.sipush 9999, 3) := by decide +kernel
theorem dX6_find_251 : decode cX6_find 251 = .ok (.goto 15, 3) := by decide +kernel
theorem dX6_find_254 : decode cX6_find 254 = .ok (.aload_n 0, 1) := by decide +kernel
theorem dX6_find_255 : decode cX6_find 255 = .ok (.getfield 185, 3) := by decide +kernel
theorem dX6_find_258 : decode cX6_find 258 = .ok (.aload_n 0, 1) := by decide +kernel
theorem dX6_find_259 : decode cX6_find 259 = .ok (.getfield 38, 3) := by decide +kernel
theorem dX6_find_262 : decode cX6_find 262 = .ok (.iload 6, 2) := by decide +kernel
theorem dX6_find_264 : decode cX6_find 264 = .ok (.iaload, 1) := by decide +kernel
theorem dX6_find_265 : decode cX6_find 265 = .ok (.iadd, 1) := by decide +kernel
theorem dX6_find_266 : decode cX6_find 266 = .ok (.putfield 185, 3) := by decide +kernel
theorem dX6_find_269 : decode cX6_find 269 = .ok (.iinc 5 1, 3) := by decide +kernel
theorem dX6_find_272 : decode cX6_find 272 = .ok (.goto (-146), 3) := by decide +kernel
theorem dX6_find_275 : decode cX6_find 275 = .ok (.iload 4, 2) := by decide +kernel
theorem dX6_find_277 : decode cX6_find 277 = .ok (.istore 5, 2) := by decide +kernel
theorem dX6_find_279 : decode cX6_find 279 = .ok (.iload_n 3, 1) := by decide +kernel
theorem dX6_find_280 : decode cX6_find 280 = .ok (.ifCond .le 16, 3) := by decide +kernel
theorem dX6_find_283 : decode cX6_find 283 = .ok (.aload_n 0, 1) := by decide +kernel
theorem dX6_find_284 : decode cX6_find 284 = .ok (.iconst 0, 1) := by decide +kernel
theorem dX6_find_285 : decode cX6_find 285 = .ok (.invokevirtual 151, 3) := by decide +kernel
theorem dX6_find_288 : decode cX6_find 288 = .ok (.ifCond .eq 8, 3) := by decide +kernel
theorem dX6_find_291 : decode cX6_find 291 = .ok (.iload 5, 2) := by decide +kernel
theorem dX6_find_293 : decode cX6_find 293 = .ok (.goto 4, 3) := by decide +kernel
theorem dX6_find_296 : decode cX6_find 296 = .ok (.iconst 0, 1) := by decide +kernel
theorem dX6_find_297 : decode cX6_find 297 = .ok (.istore 6, 2) := by decide +kernel
theorem dX6_find_299 : decode cX6_find 299 = .ok (.iconst 0, 1) := by decide +kernel
theorem dX6_find_300 : decode cX6_find 300 = .ok (.istore 7, 2) := by decide +kernel
theorem dX6_find_302 : decode cX6_find 302 = .ok (.iload 7, 2) := by decide +kernel
theorem dX6_find_304 : decode cX6_find 304 = .ok (.iload_n 3, 1) := by decide +kernel
theorem dX6_find_305 : decode cX6_find 305 = .ok (.if_icmp .ge 75, 3) := by decide +kernel
theorem dX6_find_308 : decode cX6_find 308 = .ok (.aload_n 0, 1) := by decide +kernel
theorem dX6_find_309 : decode cX6_find 309 = .ok (.getfield 181, 3) := by decide +kernel
theorem dX6_find_312 : decode cX6_find 312 = .ok (.ldc2_w 158, 3) := by decide +kernel
theorem dX6_find_315 : decode cX6_find 315 = .ok (.lcmp, 1) := by decide +kernel
theorem dX6_find_316 : decode cX6_find 316 = .ok (.ifCond .ge 64, 3) := by decide +kernel
theorem dX6_find_319 : decode cX6_find 319 = .ok (.aload_n 0, 1) := by decide +kernel
theorem dX6_find_320 : decode cX6_find 320 = .ok (.getfield 41, 3) := by decide +kernel
theorem dX6_find_323 : decode cX6_find 323 = .ok (.iload 7, 2) := by decide +kernel
theorem dX6_find_325 : decode cX6_find 325 = .ok (.aload_n 0, 1) := by decide +kernel
theorem dX6_find_326 : decode cX6_find 326 = .ok (.getfield 7, 3) := by decide +kernel
theorem dX6_find_329 : decode cX6_find 329 = .ok (.iconst 1, 1) := by decide +kernel
theorem dX6_find_330 : decode cX6_find 330 = .ok (.iload 7, 2) := by decide +kernel
theorem dX6_find_332 : decode cX6_find 332 = .ok (.iadd, 1) := by decide +kernel
theorem dX6_find_333 : decode cX6_find 333 = .ok (.iaload, 1) := by decide +kernel
theorem dX6_find_334 : decode cX6_find 334 = .ok (.iload 5, 2) := by decide +kernel
theorem dX6_find_336 : decode cX6_find 336 = .ok (.iadd, 1) := by decide +kernel
theorem dX6_find_337 : decode cX6_find 337 = .ok (.iastore, 1) := by decide +kernel
theorem dX6_find_338 : decode cX6_find 338 = .ok (.iload 7, 2) := by decide +kernel
theorem dX6_find_340 : decode cX6_find 340 = .ok (.iconst 1, 1) := by decide +kernel
theorem dX6_find_341 : decode cX6_find 341 = .ok (.iadd, 1) := by decide +kernel
theorem dX6_find_342 : decode cX6_find 342 = .ok (.iload_n 3, 1) := by decide +kernel
theorem dX6_find_343 : decode cX6_find 343 = .ok (.if_icmp .ge 31, 3) := by decide +kernel
theorem dX6_find_346 : decode cX6_find 346 = .ok (.aload_n 0, 1) := by decide +kernel
theorem dX6_find_347 : decode cX6_find 347 = .ok (.iload 7, 2) := by decide +kernel
theorem dX6_find_349 : decode cX6_find 349 = .ok (.iload 5, 2) := by decide +kernel
theorem dX6_find_351 : decode cX6_find 351 = .ok (.iload 6, 2) := by decide +kernel
theorem dX6_find_353 : decode cX6_find 353 = .ok (.invokevirtual 188, 3) := by decide +kernel
theorem dX6_find_356 : decode cX6_find 356 = .ok (.istore 8, 2) := by decide +kernel
theorem dX6_find_358 : decode cX6_find 358 = .ok (.aload_n 0, 1) := by decide +kernel
theorem dX6_find_359 : decode cX6_find 359 = .ok (.iload 7, 2) := by decide +kernel
theorem dX6_find_361 : decode cX6_find 361 = .ok (.iload 6, 2) := by decide +kernel
theorem dX6_find_363 : decode cX6_find 363 = .ok (.iload 8, 2) := by decide +kernel
theorem dX6_find_365 : decode cX6_find 365 = .ok (.invokevirtual 164, 3) := by decide +kernel
theorem dX6_find_368 : decode cX6_find 368 = .ok (.istore 6, 2) := by decide +kernel
theorem dX6_find_370 : decode cX6_find 370 = .ok (.iload 8, 2) := by decide +kernel
theorem dX6_find_372 : decode cX6_find 372 = .ok (.istore 5, 2) := by decide +kernel
theorem dX6_find_374 : decode cX6_find 374 = .ok (.iinc 7 1, 3) := by decide +kernel
theorem dX6_find_377 : decode cX6_find 377 = .ok (.goto (-75), 3) := by decide +kernel
theorem dX6_find_380 : decode cX6_find 380 = .ok (.aload_n 0, 1) := by decide +kernel
theorem dX6_find_381 : decode cX6_find 381 = .ok (.getfield 181, 3) := by decide +kernel
theorem dX6_find_384 : decode cX6_find 384 = .ok (.ldc2_w 158, 3) := by decide +kernel
theorem dX6_find_387 : decode cX6_find 387 = .ok (.lcmp, 1) := by decide +kernel
theorem dX6_find_388 : decode cX6_find 388 = .ok (.ifCond .ge 7, 3) := by decide +kernel
theorem dX6_find_391 : decode cX6_find 391 = .ok (.iconst 1, 1) := by decide +kernel
theorem dX6_find_392 : decode cX6_find 392 = .ok (.goto 4, 3) := by decide +kernel
theorem dX6_find_395 : decode cX6_find 395 = .ok (.iconst 0, 1) := by decide +kernel
theorem dX6_find_396 : decode cX6_find 396 = .ok (.ireturn, 1) := by decide +kernel
theorem dX6_nextBest_0 : decode cX6_nextBest 0 = .ok (.bipush (-8), 2) := by decide +kernel
theorem dX6_nextBest_2 : decode cX6_nextBest 2 = .ok (.istore 4, 2) := by decide +kernel
theorem dX6_nextBest_4 : decode cX6_nextBest 4 = .ok (.aload_n 0, 1) := by decide +kernel
theorem dX6_nextBest_5 : decode cX6_nextBest 5 = .ok (.iload_n 1, 1) := by decide +kernel
theorem dX6_nextBest_6 : decode cX6_nextBest 6 = .ok (.iload_n 3, 1) := by decide +kernel
theorem dX6_nextBest_7 : decode cX6_nextBest 7 = .ok (.iload 4, 2) := by decide +kernel
theorem dX6_nextBest_9 : decode cX6_nextBest 9 = .ok (.invokevirtual 164, 3) := by decide +kernel
theorem dX6_nextBest_12 : decode cX6_nextBest 12 = .ok (.istore 5, 2) := by decide +kernel
theorem dX6_nextBest_14 : decode cX6_nextBest 14 = .ok (.iload 5, 2) := by decide +kernel
theorem dX6_nextBest_16 : decode cX6_nextBest 16 = .ok (.i2l, 1) := by decide +kernel
theorem dX6_nextBest_17 : decode cX6_nextBest 17 = .ok (.ldc2_w 167, 3) := by decide +kernel
theorem dX6_nextBest_20 : decode cX6_nextBest 20 = .ok (.ldc2_w 169, 3) := by decide +kernel
theorem dX6_nextBest_23 : decode cX6_nextBest 23 = .ok (.invokestatic 62, 3) := by decide +kernel
theorem dX6_nextBest_26 : decode cX6_nextBest 26 = .ok (.ifCond .eq 76, 3) := by decide +kernel
theorem dX6_nextBest_29 : decode cX6_nextBest 29 = .ok (.aload_n 0, 1) := by decide +kernel
theorem dX6_nextBest_30 : decode cX6_nextBest 30 = .ok (.getfield 34, 3) := by decide +kernel
theorem dX6_nextBest_33 : decode cX6_nextBest 33 = .ok (.iload_n 1, 1) := by decide +kernel
theorem dX6_nextBest_34 : decode cX6_nextBest 34 = .ok (.iconst 1, 1) := by decide +kernel
theorem dX6_nextBest_35 : decode cX6_nextBest 35 = .ok (.iadd, 1) := by decide +kernel
theorem dX6_nextBest_36 : decode cX6_nextBest 36 = .ok (.iload 4, 2) := by decide +kernel
theorem dX6_nextBest_38 : decode cX6_nextBest 38 = .ok (.iload 5, 2) := by decide +kernel
theorem dX6_nextBest_40 : decode cX6_nextBest 40 = .ok (.invokestatic 154, 3) := by decide +kernel
theorem dX6_nextBest_43 : decode cX6_nextBest 43 = .ok (.laload, 1) := by decide +kernel
theorem dX6_nextBest_44 : decode cX6_nextBest 44 = .ok (.ldc2_w 158, 3) := by decide +kernel
theorem dX6_nextBest_47 : decode cX6_nextBest 47 = .ok (.lcmp, 1) := by decide +kernel
theorem dX6_nextBest_48 : decode cX6_nextBest 48 = .ok (.ifCond .ge 54, 3) := by decide +kernel
theorem dX6_nextBest_51 : decode cX6_nextBest 51 = .ok (.aload_n 0, 1) := by decide +kernel
theorem dX6_nextBest_52 : decode cX6_nextBest 52 = .ok (.getfield 34, 3) := by decide +kernel
theorem dX6_nextBest_55 : decode cX6_nextBest 55 = .ok (.iload_n 1, 1) := by decide +kernel
theorem dX6_nextBest_56 : decode cX6_nextBest 56 = .ok (.iconst 1, 1) := by decide +kernel
theorem dX6_nextBest_57 : decode cX6_nextBest 57 = .ok (.iadd, 1) := by decide +kernel
theorem dX6_nextBest_58 : decode cX6_nextBest 58 = .ok (.iload 4, 2) := by decide +kernel
theorem dX6_nextBest_60 : decode cX6_nextBest 60 = .ok (.iload 5, 2) := by decide +kernel
theorem dX6_nextBest_62 : decode cX6_nextBest 62 = .ok (.invokestatic 154, 3) := by decide +kernel
theorem dX6_nextBest_65 : decode cX6_nextBest 65 = .ok (.laload, 1) := by decide +kernel
theorem dX6_nextBest_66 : decode cX6_nextBest 66 = .ok (.iload_n 2, 1) := by decide +kernel
theorem dX6_nextBest_67 : decode cX6_nextBest 67 = .ok (.iload_n 2, 1) := by decide +kernel
theorem dX6_nextBest_68 : decode cX6_nextBest 68 = .ok (.imul, 1) := by decide +kernel
theorem dX6_nextBest_69 : decode cX6_nextBest 69 = .ok (.i2l, 1) := by decide +kernel
theorem dX6_nextBest_70 : decode cX6_nextBest 70 = .ok (.ladd, 1) := by decide +kernel
theorem dX6_nextBest_71 : decode cX6_nextBest 71 = .ok (.ldc2_w 171, 3) := by decide +kernel
theorem dX6_nextBest_74 : decode cX6_nextBest 74 = .ok (.aload_n 0, 1) := by decide +kernel
theorem dX6_nextBest_75 : decode cX6_nextBest 75 = .ok (.iload_n 1, 1) := by decide +kernel
theorem dX6_nextBest_76 : decode cX6_nextBest 76 = .ok (.iload_n 2, 1) := by decide +kernel
theorem dX6_nextBest_77 : decode cX6_nextBest 77 = .ok (.iload 4, 2) := by decide +kernel
theorem dX6_nextBest_79 : decode cX6_nextBest 79 = .ok (.invokevirtual 173, 3) := by decide +kernel
theorem dX6_nextBest_82 : decode cX6_nextBest 82 = .ok (.lmul, 1) := by decide +kernel
theorem dX6_nextBest_83 : decode cX6_nextBest 83 = .ok (.ladd, 1) := by decide +kernel
theorem dX6_nextBest_84 : decode cX6_nextBest 84 = .ok (.aload_n 0, 1) := by decide +kernel
theorem dX6_nextBest_85 : decode cX6_nextBest 85 = .ok (.getfield 34, 3) := by decide +kernel
theorem dX6_nextBest_88 : decode cX6_nextBest 88 = .ok (.iload_n 1, 1) := by decide +kernel
theorem dX6_nextBest_89 : decode cX6_nextBest 89 = .ok (.iload_n 2, 1) := by decide +kernel
theorem dX6_nextBest_90 : decode cX6_nextBest 90 = .ok (.iload_n 3, 1) := by decide +kernel
theorem dX6_nextBest_91 : decode cX6_nextBest 91 = .ok (.invokestatic 154, 3) := by decide +kernel
theorem dX6_nextBest_94 : decode cX6_nextBest 94 = .ok (.laload, 1) := by decide +kernel
theorem dX6_nextBest_95 : decode cX6_nextBest 95 = .ok (.lcmp, 1) := by decide +kernel
theorem dX6_nextBest_96 : decode cX6_nextBest 96 = .ok (.ifCond .ne 6, 3) := by decide +kernel
theorem dX6_nextBest_99 : decode cX6_nextBest 99 = .ok (.iload 4, 2) := by decide +kernel
theorem dX6_nextBest_101 : decode cX6_nextBest 101 = .ok (.ireturn, 1) := by decide +kernel
theorem dX6_nextBest_102 : decode cX6_nextBest 102 = .ok (.iinc 4 1, 3) := by decide +kernel
theorem dX6_nextBest_105 : decode cX6_nextBest 105 = .ok (.goto (-101), 3) := by decide +kernel
theorem dX6_bend_0 : decode cX6_bend 0 = .ok (.aload_n 0, 1) := by decide +kernel
theorem dX6_bend_1 : decode cX6_bend 1 = .ok (.aload_n 0, 1) := by decide +kernel
theorem dX6_bend_2 : decode cX6_bend 2 = .ok (.getfield 7, 3) := by decide +kernel
theorem dX6_bend_5 : decode cX6_bend 5 = .ok (.bipush 29, 2) := by decide +kernel
theorem dX6_bend_7 : decode cX6_bend 7 = .ok (.iaload, 1) := by decide +kernel
theorem dX6_bend_8 : decode cX6_bend 8 = .ok (.iconst (-1), 1) := by decide +kernel
theorem dX6_bend_9 : decode cX6_bend 9 = .ok (.invokevirtual 191, 3) := by decide +kernel
theorem dX6_bend_12 : decode cX6_bend 12 = .ok (.ireturn, 1) := by decide +kernel
theorem dX6_movedBy_0 : decode cX6_movedBy 0 = .ok (.lconst 0, 1) := by decide +kernel
theorem dX6_movedBy_1 : decode cX6_movedBy 1 = .ok (.lstore_n 3, 1) := by decide +kernel
theorem dX6_movedBy_2 : decode cX6_movedBy 2 = .ok (.iconst 1, 1) := by decide +kernel
theorem dX6_movedBy_3 : decode cX6_movedBy 3 = .ok (.istore 5, 2) := by decide +kernel
theorem dX6_movedBy_5 : decode cX6_movedBy 5 = .ok (.iload 5, 2) := by decide +kernel
theorem dX6_movedBy_7 : decode cX6_movedBy 7 = .ok (.aload_n 0, 1) := by decide +kernel
theorem dX6_movedBy_8 : decode cX6_movedBy 8 = .ok (.getfield 7, 3) := by decide +kernel
theorem dX6_movedBy_11 : decode cX6_movedBy 11 = .ok (.iconst 0, 1) := by decide +kernel
theorem dX6_movedBy_12 : decode cX6_movedBy 12 = .ok (.iaload, 1) := by decide +kernel
theorem dX6_movedBy_13 : decode cX6_movedBy 13 = .ok (.if_icmp .ge 88, 3) := by decide +kernel
theorem dX6_movedBy_16 : decode cX6_movedBy 16 = .ok (.aload_n 0, 1) := by decide +kernel
theorem dX6_movedBy_17 : decode cX6_movedBy 17 = .ok (.getfield 7, 3) := by decide +kernel
theorem dX6_movedBy_20 : decode cX6_movedBy 20 = .ok (.iconst 1, 1) := by decide +kernel
theorem dX6_movedBy_21 : decode cX6_movedBy 21 = .ok (.iload 5, 2) := by decide +kernel
theorem dX6_movedBy_23 : decode cX6_movedBy 23 = .ok (.iadd, 1) := by decide +kernel
theorem dX6_movedBy_24 : decode cX6_movedBy 24 = .ok (.iconst 1, 1) := by decide +kernel
theorem dX6_movedBy_25 : decode cX6_movedBy 25 = .ok (.isub, 1) := by decide +kernel
theorem dX6_movedBy_26 : decode cX6_movedBy 26 = .ok (.iaload, 1) := by decide +kernel
theorem dX6_movedBy_27 : decode cX6_movedBy 27 = .ok (.istore 6, 2) := by decide +kernel
theorem dX6_movedBy_29 : decode cX6_movedBy 29 = .ok (.aload_n 0, 1) := by decide +kernel
theorem dX6_movedBy_30 : decode cX6_movedBy 30 = .ok (.getfield 7, 3) := by decide +kernel
theorem dX6_movedBy_33 : decode cX6_movedBy 33 = .ok (.iconst 1, 1) := by decide +kernel
theorem dX6_movedBy_34 : decode cX6_movedBy 34 = .ok (.iload 5, 2) := by decide +kernel
theorem dX6_movedBy_36 : decode cX6_movedBy 36 = .ok (.iadd, 1) := by decide +kernel
theorem dX6_movedBy_37 : decode cX6_movedBy 37 = .ok (.iaload, 1) := by decide +kernel
theorem dX6_movedBy_38 : decode cX6_movedBy 38 = .ok (.istore 7, 2) := by decide +kernel
theorem dX6_movedBy_40 : decode cX6_movedBy 40 = .ok (.lload_n 3, 1) := by decide +kernel
theorem dX6_movedBy_41 : decode cX6_movedBy 41 = .ok (.iload_n 1, 1) := by decide +kernel
theorem dX6_movedBy_42 : decode cX6_movedBy 42 = .ok (.ifCond .ne 27, 3) := by decide +kernel
theorem dX6_movedBy_45 : decode cX6_movedBy 45 = .ok (.aload_n 2, 1) := by decide +kernel
theorem dX6_movedBy_46 : decode cX6_movedBy 46 = .ok (.iload 5, 2) := by decide +kernel
theorem dX6_movedBy_48 : decode cX6_movedBy 48 = .ok (.iaload, 1) := by decide +kernel
theorem dX6_movedBy_49 : decode cX6_movedBy 49 = .ok (.iload 7, 2) := by decide +kernel
theorem dX6_movedBy_51 : decode cX6_movedBy 51 = .ok (.isub, 1) := by decide +kernel
theorem dX6_movedBy_52 : decode cX6_movedBy 52 = .ok (.aload_n 2, 1) := by decide +kernel
theorem dX6_movedBy_53 : decode cX6_movedBy 53 = .ok (.iload 5, 2) := by decide +kernel
theorem dX6_movedBy_55 : decode cX6_movedBy 55 = .ok (.iconst 1, 1) := by decide +kernel
theorem dX6_movedBy_56 : decode cX6_movedBy 56 = .ok (.isub, 1) := by decide +kernel
theorem dX6_movedBy_57 : decode cX6_movedBy 57 = .ok (.iaload, 1) := by decide +kernel
theorem dX6_movedBy_58 : decode cX6_movedBy 58 = .ok (.isub, 1) := by decide +kernel
theorem dX6_movedBy_59 : decode cX6_movedBy 59 = .ok (.iload 6, 2) := by decide +kernel
theorem dX6_movedBy_61 : decode cX6_movedBy 61 = .ok (.iadd, 1) := by decide +kernel
theorem dX6_movedBy_62 : decode cX6_movedBy 62 = .ok (.i2l, 1) := by decide +kernel
theorem dX6_movedBy_63 : decode cX6_movedBy 63 = .ok (.invokestatic 147, 3) := by decide +kernel
theorem dX6_movedBy_66 : decode cX6_movedBy 66 = .ok (.goto 27, 3) := by decide +kernel
theorem dX6_movedBy_69 : decode cX6_movedBy 69 = .ok (.aload_n 2, 1) := by decide +kernel
theorem dX6_movedBy_70 : decode cX6_movedBy 70 = .ok (.iload 5, 2) := by decide +kernel
theorem dX6_movedBy_72 : decode cX6_movedBy 72 = .ok (.iaload, 1) := by decide +kernel
theorem dX6_movedBy_73 : decode cX6_movedBy 73 = .ok (.i2l, 1) := by decide +kernel
theorem dX6_movedBy_74 : decode cX6_movedBy 74 = .ok (.iload 6, 2) := by decide +kernel
theorem dX6_movedBy_76 : decode cX6_movedBy 76 = .ok (.i2l, 1) := by decide +kernel
theorem dX6_movedBy_77 : decode cX6_movedBy 77 = .ok (.lmul, 1) := by decide +kernel
theorem dX6_movedBy_78 : decode cX6_movedBy 78 = .ok (.aload_n 2, 1) := by decide +kernel
theorem dX6_movedBy_79 : decode cX6_movedBy 79 = .ok (.iload 5, 2) := by decide +kernel
theorem dX6_movedBy_81 : decode cX6_movedBy 81 = .ok (.iconst 1, 1) := by decide +kernel
theorem dX6_movedBy_82 : decode cX6_movedBy 82 = .ok (.isub, 1) := by decide +kernel
theorem dX6_movedBy_83 : decode cX6_movedBy 83 = .ok (.iaload, 1) := by decide +kernel
theorem dX6_movedBy_84 : decode cX6_movedBy 84 = .ok (.i2l, 1) := by decide +kernel
theorem dX6_movedBy_85 : decode cX6_movedBy 85 = .ok (.iload 7, 2) := by decide +kernel
theorem dX6_movedBy_87 : decode cX6_movedBy 87 = .ok (.i2l, 1) := by decide +kernel
theorem dX6_movedBy_88 : decode cX6_movedBy 88 = .ok (.lmul, 1) := by decide +kernel
theorem dX6_movedBy_89 : decode cX6_movedBy 89 = .ok (.lsub, 1) := by decide +kernel
theorem dX6_movedBy_90 : decode cX6_movedBy 90 = .ok (.invokestatic 147, 3) := by decide +kernel
theorem dX6_movedBy_93 : decode cX6_movedBy 93 = .ok (.ladd, 1) := by decide +kernel
theorem dX6_movedBy_94 : decode cX6_movedBy 94 = .ok (.lstore_n 3, 1) := by decide +kernel
theorem dX6_movedBy_95 : decode cX6_movedBy 95 = .ok (.iinc 5 1, 3) := by decide +kernel
theorem dX6_movedBy_98 : decode cX6_movedBy 98 = .ok (.goto (-93), 3) := by decide +kernel
theorem dX6_movedBy_101 : decode cX6_movedBy 101 = .ok (.lload_n 3, 1) := by decide +kernel
theorem dX6_movedBy_102 : decode cX6_movedBy 102 = .ok (.lreturn, 1) := by decide +kernel
theorem dX6_bent_0 : decode cX6_bent 0 = .ok (.aload_n 0, 1) := by decide +kernel
theorem dX6_bent_1 : decode cX6_bent 1 = .ok (.iload_n 1, 1) := by decide +kernel
theorem dX6_bent_2 : decode cX6_bent 2 = .ok (.invokevirtual 70, 3) := by decide +kernel
theorem dX6_bent_5 : decode cX6_bent 5 = .ok (.ifCond .ne 10, 3) := by decide +kernel
theorem dX6_bent_8 : decode cX6_bent 8 = .ok (.aload_n 0, 1) := by decide +kernel
theorem dX6_bent_9 : decode cX6_bent 9 = .ok (.bipush (-2), 2) := by decide +kernel
theorem dX6_bent_11 : decode cX6_bent 11 = .ok (.invokevirtual 54, 3) := by decide +kernel
theorem dX6_bent_14 : decode cX6_bent 14 = .ok (.ireturn, 1) := by decide +kernel
theorem dX6_bent_15 : decode cX6_bent 15 = .ok (.aload_n 0, 1) := by decide +kernel
theorem dX6_bent_16 : decode cX6_bent 16 = .ok (.invokevirtual 86, 3) := by decide +kernel
theorem dX6_bent_19 : decode cX6_bent 19 = .ok (.ifCond .eq 15, 3) := by decide +kernel
theorem dX6_bent_22 : decode cX6_bent 22 = .ok (.aload_n 0, 1) := by decide +kernel
theorem dX6_bent_23 : decode cX6_bent 23 = .ok (.getfield 41, 3) := by decide +kernel
theorem dX6_bent_26 : decode cX6_bent 26 = .ok (.iload_n 1, 1) := by decide +kernel
theorem dX6_bent_27 : decode cX6_bent 27 = .ok (.iaload, 1) := by decide +kernel
theorem dX6_bent_28 : decode cX6_bent 28 = .ok (.bipush 8, 2) := by decide +kernel
theorem dX6_bent_30 : decode cX6_bent 30 = .ok (.iadd, 1) := by decide +kernel
theorem dX6_bent_31 : decode cX6_bent 31 = .ok (.goto 9, 3) := by decide +kernel
theorem dX6_bent_34 : decode cX6_bent 34 = .ok (.aload_n 0, 1) := by decide +kernel
theorem dX6_bent_35 : decode cX6_bent 35 = .ok (.bipush (-3), 2) := by decide +kernel
theorem dX6_bent_37 : decode cX6_bent 37 = .ok (.invokevirtual 54, 3) := by decide +kernel
theorem dX6_bent_40 : decode cX6_bent 40 = .ok (.ireturn, 1) := by decide +kernel
theorem dX6_moved_0 : decode cX6_moved 0 = .ok (.iload_n 1, 1) := by decide +kernel
theorem dX6_moved_1 : decode cX6_moved 1 = .ok (.i2l, 1) := by decide +kernel
theorem dX6_moved_2 : decode cX6_moved 2 = .ok (.lconst 0, 1) := by decide +kernel
theorem dX6_moved_3 : decode cX6_moved 3 = .ok (.lconst 1, 1) := by decide +kernel
theorem dX6_moved_4 : decode cX6_moved 4 = .ok (.invokestatic 62, 3) := by decide +kernel
theorem dX6_moved_7 : decode cX6_moved 7 = .ok (.ifCond .ne 11, 3) := by decide +kernel
theorem dX6_moved_10 : decode cX6_moved 10 = .ok (.aload_n 0, 1) := by decide +kernel
theorem dX6_moved_11 : decode cX6_moved 11 = .ok (.bipush (-2), 2) := by decide +kernel
theorem dX6_moved_13 : decode cX6_moved 13 = .ok (.invokevirtual 54, 3) := by decide +kernel
theorem dX6_moved_16 : decode cX6_moved 16 = .ok (.i2l, 1) := by decide +kernel
theorem dX6_moved_17 : decode cX6_moved 17 = .ok (.lreturn, 1) := by decide +kernel
theorem dX6_moved_18 : decode cX6_moved 18 = .ok (.aload_n 0, 1) := by decide +kernel
theorem dX6_moved_19 : decode cX6_moved 19 = .ok (.invokevirtual 86, 3) := by decide +kernel
theorem dX6_moved_22 : decode cX6_moved 22 = .ok (.ifCond .eq 15, 3) := by decide +kernel
theorem dX6_moved_25 : decode cX6_moved 25 = .ok (.aload_n 0, 1) := by decide +kernel
theorem dX6_moved_26 : decode cX6_moved 26 = .ok (.iload_n 1, 1) := by decide +kernel
theorem dX6_moved_27 : decode cX6_moved 27 = .ok (.aload_n 0, 1) := by decide +kernel
theorem dX6_moved_28 : decode cX6_moved 28 = .ok (.getfield 41, 3) := by decide +kernel
theorem dX6_moved_31 : decode cX6_moved 31 = .ok (.invokevirtual 194, 3) := by decide +kernel
theorem dX6_moved_34 : decode cX6_moved 34 = .ok (.goto 10, 3) := by decide +kernel
theorem dX6_moved_37 : decode cX6_moved 37 = .ok (.aload_n 0, 1) := by decide +kernel
theorem dX6_moved_38 : decode cX6_moved 38 = .ok (.bipush (-3), 2) := by decide +kernel
theorem dX6_moved_40 : decode cX6_moved 40 = .ok (.invokevirtual 54, 3) := by decide +kernel
theorem dX6_moved_43 : decode cX6_moved 43 = .ok (.i2l, 1) := by decide +kernel
theorem dX6_moved_44 : decode cX6_moved 44 = .ok (.lreturn, 1) := by decide +kernel
theorem dX6_revisedOf_0 : decode cX6_revisedOf 0 = .ok (.aload_n 0, 1) := by decide +kernel
theorem dX6_revisedOf_1 : decode cX6_revisedOf 1 = .ok (.getfield 41, 3) := by decide +kernel
theorem dX6_revisedOf_4 : decode cX6_revisedOf 4 = .ok (.iload_n 1, 1) := by decide +kernel
theorem dX6_revisedOf_5 : decode cX6_revisedOf 5 = .ok (.iaload, 1) := by decide +kernel
theorem dX6_revisedOf_6 : decode cX6_revisedOf 6 = .ok (.bipush 8, 2) := by decide +kernel
theorem dX6_revisedOf_8 : decode cX6_revisedOf 8 = .ok (.iadd, 1) := by decide +kernel
theorem dX6_revisedOf_9 : decode cX6_revisedOf 9 = .ok (.aload_n 0, 1) := by decide +kernel
theorem dX6_revisedOf_10 : decode cX6_revisedOf 10 = .ok (.getfield 7, 3) := by decide +kernel
theorem dX6_revisedOf_13 : decode cX6_revisedOf 13 = .ok (.bipush 16, 2) := by decide +kernel
theorem dX6_revisedOf_15 : decode cX6_revisedOf 15 = .ok (.iload_n 1, 1) := by decide +kernel
theorem dX6_revisedOf_16 : decode cX6_revisedOf 16 = .ok (.iadd, 1) := by decide +kernel
theorem dX6_revisedOf_17 : decode cX6_revisedOf 17 = .ok (.iaload, 1) := by decide +kernel
theorem dX6_revisedOf_18 : decode cX6_revisedOf 18 = .ok (.isub, 1) := by decide +kernel
theorem dX6_revisedOf_19 : decode cX6_revisedOf 19 = .ok (.istore_n 2, 1) := by decide +kernel
theorem dX6_revisedOf_20 : decode cX6_revisedOf 20 = .ok (.iload_n 2, 1) := by decide +kernel
theorem dX6_revisedOf_21 : decode cX6_revisedOf 21 = .ok (.ifCond .ge 8, 3) := by decide +kernel
theorem dX6_revisedOf_24 : decode cX6_revisedOf 24 = .ok (.iload_n 2, 1) := by decide +kernel
theorem dX6_revisedOf_25 : decode cX6_revisedOf 25 = .ok (.ineg, 1) := by decide +kernel
theorem dX6_revisedOf_26 : decode cX6_revisedOf 26 = .ok (.goto 4, 3) := by decide +kernel
theorem dX6_revisedOf_29 : decode cX6_revisedOf 29 = .ok (.iload_n 2, 1) := by decide +kernel
theorem dX6_revisedOf_30 : decode cX6_revisedOf 30 = .ok (.ireturn, 1) := by decide +kernel
theorem dX6_revised_0 : decode cX6_revised 0 = .ok (.aload_n 0, 1) := by decide +kernel
theorem dX6_revised_1 : decode cX6_revised 1 = .ok (.iload_n 1, 1) := by decide +kernel
theorem dX6_revised_2 : decode cX6_revised 2 = .ok (.invokevirtual 70, 3) := by decide +kernel
theorem dX6_revised_5 : decode cX6_revised 5 = .ok (.ifCond .ne 10, 3) := by decide +kernel
theorem dX6_revised_8 : decode cX6_revised 8 = .ok (.aload_n 0, 1) := by decide +kernel
theorem dX6_revised_9 : decode cX6_revised 9 = .ok (.bipush (-2), 2) := by decide +kernel
theorem dX6_revised_11 : decode cX6_revised 11 = .ok (.invokevirtual 54, 3) := by decide +kernel
theorem dX6_revised_14 : decode cX6_revised 14 = .ok (.ireturn, 1) := by decide +kernel
theorem dX6_revised_15 : decode cX6_revised 15 = .ok (.aload_n 0, 1) := by decide +kernel
theorem dX6_revised_16 : decode cX6_revised 16 = .ok (.invokevirtual 86, 3) := by decide +kernel
theorem dX6_revised_19 : decode cX6_revised 19 = .ok (.ifCond .eq 24, 3) := by decide +kernel
theorem dX6_revised_22 : decode cX6_revised 22 = .ok (.aload_n 0, 1) := by decide +kernel
theorem dX6_revised_23 : decode cX6_revised 23 = .ok (.getfield 7, 3) := by decide +kernel
theorem dX6_revised_26 : decode cX6_revised 26 = .ok (.bipush 16, 2) := by decide +kernel
theorem dX6_revised_28 : decode cX6_revised 28 = .ok (.iload_n 1, 1) := by decide +kernel
theorem dX6_revised_29 : decode cX6_revised 29 = .ok (.iadd, 1) := by decide +kernel
theorem dX6_revised_30 : decode cX6_revised 30 = .ok (.iaload, 1) := by decide +kernel
theorem dX6_revised_31 : decode cX6_revised 31 = .ok (.iconst (-1), 1) := by decide +kernel
theorem dX6_revised_32 : decode cX6_revised 32 = .ok (.if_icmp .eq 11, 3) := by decide +kernel
theorem dX6_revised_35 : decode cX6_revised 35 = .ok (.aload_n 0, 1) := by decide +kernel
theorem dX6_revised_36 : decode cX6_revised 36 = .ok (.iload_n 1, 1) := by decide +kernel
theorem dX6_revised_37 : decode cX6_revised 37 = .ok (.invokevirtual 198, 3) := by decide +kernel
theorem dX6_revised_40 : decode cX6_revised 40 = .ok (.goto 9, 3) := by decide +kernel
theorem dX6_revised_43 : decode cX6_revised 43 = .ok (.aload_n 0, 1) := by decide +kernel
theorem dX6_revised_44 : decode cX6_revised 44 = .ok (.bipush (-3), 2) := by decide +kernel
theorem dX6_revised_46 : decode cX6_revised 46 = .ok (.invokevirtual 54, 3) := by decide +kernel
theorem dX6_revised_49 : decode cX6_revised 49 = .ok (.ireturn, 1) := by decide +kernel
theorem dX6_farthest_0 : decode cX6_farthest 0 = .ok (.aload_n 0, 1) := by decide +kernel
theorem dX6_farthest_1 : decode cX6_farthest 1 = .ok (.invokevirtual 86, 3) := by decide +kernel
theorem dX6_farthest_4 : decode cX6_farthest 4 = .ok (.ifCond .ne 10, 3) := by decide +kernel
theorem dX6_farthest_7 : decode cX6_farthest 7 = .ok (.aload_n 0, 1) := by decide +kernel
theorem dX6_farthest_8 : decode cX6_farthest 8 = .ok (.bipush (-3), 2) := by decide +kernel
theorem dX6_farthest_10 : decode cX6_farthest 10 = .ok (.invokevirtual 54, 3) := by decide +kernel
theorem dX6_farthest_13 : decode cX6_farthest 13 = .ok (.ireturn, 1) := by decide +kernel
theorem dX6_farthest_14 : decode cX6_farthest 14 = .ok (.iconst (-1), 1) := by decide +kernel
theorem dX6_farthest_15 : decode cX6_farthest 15 = .ok (.istore_n 1, 1) := by decide +kernel
theorem dX6_farthest_16 : decode cX6_farthest 16 = .ok (.iconst 0, 1) := by decide +kernel
theorem dX6_farthest_17 : decode cX6_farthest 17 = .ok (.istore_n 2, 1) := by decide +kernel
theorem dX6_farthest_18 : decode cX6_farthest 18 = .ok (.iload_n 2, 1) := by decide +kernel
theorem dX6_farthest_19 : decode cX6_farthest 19 = .ok (.aload_n 0, 1) := by decide +kernel
theorem dX6_farthest_20 : decode cX6_farthest 20 = .ok (.getfield 7, 3) := by decide +kernel
theorem dX6_farthest_23 : decode cX6_farthest 23 = .ok (.iconst 0, 1) := by decide +kernel
theorem dX6_farthest_24 : decode cX6_farthest 24 = .ok (.iaload, 1) := by decide +kernel
theorem dX6_farthest_25 : decode cX6_farthest 25 = .ok (.if_icmp .ge 56, 3) := by decide +kernel
theorem dX6_farthest_28 : decode cX6_farthest 28 = .ok (.aload_n 0, 1) := by decide +kernel
theorem dX6_farthest_29 : decode cX6_farthest 29 = .ok (.getfield 7, 3) := by decide +kernel
theorem dX6_farthest_32 : decode cX6_farthest 32 = .ok (.bipush 16, 2) := by decide +kernel
theorem dX6_farthest_34 : decode cX6_farthest 34 = .ok (.iload_n 2, 1) := by decide +kernel
theorem dX6_farthest_35 : decode cX6_farthest 35 = .ok (.iadd, 1) := by decide +kernel
theorem dX6_farthest_36 : decode cX6_farthest 36 = .ok (.iaload, 1) := by decide +kernel
theorem dX6_farthest_37 : decode cX6_farthest 37 = .ok (.iconst (-1), 1) := by decide +kernel
theorem dX6_farthest_38 : decode cX6_farthest 38 = .ok (.if_icmp .eq 7, 3) := by decide +kernel
theorem dX6_farthest_41 : decode cX6_farthest 41 = .ok (.iconst 1, 1) := by decide +kernel
theorem dX6_farthest_42 : decode cX6_farthest 42 = .ok (.goto 4, 3) := by decide +kernel
theorem dX6_farthest_45 : decode cX6_farthest 45 = .ok (.iconst 0, 1) := by decide +kernel
theorem dX6_farthest_46 : decode cX6_farthest 46 = .ok (.istore_n 3, 1) := by decide +kernel
theorem dX6_farthest_47 : decode cX6_farthest 47 = .ok (.iload_n 3, 1) := by decide +kernel
theorem dX6_farthest_48 : decode cX6_farthest 48 = .ok (.ifCond .eq 25, 3) := by decide +kernel
theorem dX6_farthest_51 : decode cX6_farthest 51 = .ok (.iload_n 1, 1) := by decide +kernel
theorem dX6_farthest_52 : decode cX6_farthest 52 = .ok (.iconst (-1), 1) := by decide +kernel
theorem dX6_farthest_53 : decode cX6_farthest 53 = .ok (.if_icmp .eq 16, 3) := by decide +kernel
theorem dX6_farthest_56 : decode cX6_farthest 56 = .ok (.aload_n 0, 1) := by decide +kernel
theorem dX6_farthest_57 : decode cX6_farthest 57 = .ok (.iload_n 2, 1) := by decide +kernel
theorem dX6_farthest_58 : decode cX6_farthest 58 = .ok (.invokevirtual 198, 3) := by decide +kernel
theorem dX6_farthest_61 : decode cX6_farthest 61 = .ok (.aload_n 0, 1) := by decide +kernel
theorem dX6_farthest_62 : decode cX6_farthest 62 = .ok (.iload_n 1, 1) := by decide +kernel
theorem dX6_farthest_63 : decode cX6_farthest 63 = .ok (.invokevirtual 198, 3) := by decide +kernel
theorem dX6_farthest_66 : decode cX6_farthest 66 = .ok (.if_icmp .le 7, 3) := by decide +kernel
theorem dX6_farthest_69 : decode cX6_farthest 69 = .ok (.iload_n 2, 1) := by decide +kernel
theorem dX6_farthest_70 : decode cX6_farthest 70 = .ok (.goto 4, 3) := by decide +kernel
theorem dX6_farthest_73 : decode cX6_farthest 73 = .ok (.iload_n 1, 1) := by decide +kernel
theorem dX6_farthest_74 : decode cX6_farthest 74 = .ok (.istore_n 1, 1) := by decide +kernel
theorem dX6_farthest_75 : decode cX6_farthest 75 = .ok (.iinc 2 1, 3) := by decide +kernel
theorem dX6_farthest_78 : decode cX6_farthest 78 = .ok (.goto (-60), 3) := by decide +kernel
theorem dX6_farthest_81 : decode cX6_farthest 81 = .ok (.iload_n 1, 1) := by decide +kernel
theorem dX6_farthest_82 : decode cX6_farthest 82 = .ok (.ireturn, 1) := by decide +kernel
theorem dX6_least_0 : decode cX6_least 0 = .ok (.iconst 0, 1) := by decide +kernel
theorem dX6_least_1 : decode cX6_least 1 = .ok (.istore_n 1, 1) := by decide +kernel
theorem dX6_least_2 : decode cX6_least 2 = .ok (.iload_n 1, 1) := by decide +kernel
theorem dX6_least_3 : decode cX6_least 3 = .ok (.bipush 24, 2) := by decide +kernel
theorem dX6_least_5 : decode cX6_least 5 = .ok (.if_icmp .gt 20, 3) := by decide +kernel
theorem dX6_least_8 : decode cX6_least 8 = .ok (.aload_n 0, 1) := by decide +kernel
theorem dX6_least_9 : decode cX6_least 9 = .ok (.iload_n 1, 1) := by decide +kernel
theorem dX6_least_10 : decode cX6_least 10 = .ok (.iconst (-1), 1) := by decide +kernel
theorem dX6_least_11 : decode cX6_least 11 = .ok (.invokevirtual 191, 3) := by decide +kernel
theorem dX6_least_14 : decode cX6_least 14 = .ok (.ifCond .eq 5, 3) := by decide +kernel
theorem dX6_least_17 : decode cX6_least 17 = .ok (.iload_n 1, 1) := by decide +kernel
theorem dX6_least_18 : decode cX6_least 18 = .ok (.ireturn, 1) := by decide +kernel
theorem dX6_least_19 : decode cX6_least 19 = .ok (.iinc 1 1, 3) := by decide +kernel
theorem dX6_least_22 : decode cX6_least 22 = .ok (.goto (-20), 3) := by decide +kernel
theorem dX6_least_25 : decode cX6_least 25 = .ok (.iconst (-1), 1) := by decide +kernel
theorem dX6_least_26 : decode cX6_least 26 = .ok (.ireturn, 1) := by decide +kernel
theorem dX6_price_0 : decode cX6_price 0 = .ok (.iload_n 1, 1) := by decide +kernel
theorem dX6_price_1 : decode cX6_price 1 = .ok (.invokestatic 74, 3) := by decide +kernel
theorem dX6_price_4 : decode cX6_price 4 = .ok (.ifCond .ne 11, 3) := by decide +kernel
theorem dX6_price_7 : decode cX6_price 7 = .ok (.aload_n 0, 1) := by decide +kernel
theorem dX6_price_8 : decode cX6_price 8 = .ok (.bipush (-2), 2) := by decide +kernel
theorem dX6_price_10 : decode cX6_price 10 = .ok (.invokevirtual 54, 3) := by decide +kernel
theorem dX6_price_13 : decode cX6_price 13 = .ok (.i2l, 1) := by decide +kernel
theorem dX6_price_14 : decode cX6_price 14 = .ok (.lreturn, 1) := by decide +kernel
theorem dX6_price_15 : decode cX6_price 15 = .ok (.aload_n 0, 1) := by decide +kernel
theorem dX6_price_16 : decode cX6_price 16 = .ok (.getfield 7, 3) := by decide +kernel
theorem dX6_price_19 : decode cX6_price 19 = .ok (.bipush 13, 2) := by decide +kernel
theorem dX6_price_21 : decode cX6_price 21 = .ok (.iload_n 1, 1) := by decide +kernel
theorem dX6_price_22 : decode cX6_price 22 = .ok (.iadd, 1) := by decide +kernel
theorem dX6_price_23 : decode cX6_price 23 = .ok (.iaload, 1) := by decide +kernel
theorem dX6_price_24 : decode cX6_price 24 = .ok (.iconst (-1), 1) := by decide +kernel
theorem dX6_price_25 : decode cX6_price 25 = .ok (.if_icmp .eq 10, 3) := by decide +kernel
theorem dX6_price_28 : decode cX6_price 28 = .ok (.aload_n 0, 1) := by decide +kernel
theorem dX6_price_29 : decode cX6_price 29 = .ok (.invokevirtual 86, 3) := by decide +kernel
theorem dX6_price_32 : decode cX6_price 32 = .ok (.ifCond .ne 11, 3) := by decide +kernel
theorem dX6_price_35 : decode cX6_price 35 = .ok (.aload_n 0, 1) := by decide +kernel
theorem dX6_price_36 : decode cX6_price 36 = .ok (.bipush (-3), 2) := by decide +kernel
theorem dX6_price_38 : decode cX6_price 38 = .ok (.invokevirtual 54, 3) := by decide +kernel
theorem dX6_price_41 : decode cX6_price 41 = .ok (.i2l, 1) := by decide +kernel
theorem dX6_price_42 : decode cX6_price 42 = .ok (.lreturn, 1) := by decide +kernel
theorem dX6_price_43 : decode cX6_price 43 = .ok (.aload_n 0, 1) := by decide +kernel
theorem dX6_price_44 : decode cX6_price 44 = .ok (.getfield 181, 3) := by decide +kernel
theorem dX6_price_47 : decode cX6_price 47 = .ok (.ldc2_w 171, 3) := by decide +kernel
theorem dX6_price_50 : decode cX6_price 50 = .ok (.ldiv, 1) := by decide +kernel
theorem dX6_price_51 : decode cX6_price 51 = .ok (.lstore_n 2, 1) := by decide +kernel
theorem dX6_price_52 : decode cX6_price 52 = .ok (.aload_n 0, 1) := by decide +kernel
theorem dX6_price_53 : decode cX6_price 53 = .ok (.aload_n 0, 1) := by decide +kernel
theorem dX6_price_54 : decode cX6_price 54 = .ok (.getfield 7, 3) := by decide +kernel
theorem dX6_price_57 : decode cX6_price 57 = .ok (.bipush 29, 2) := by decide +kernel
theorem dX6_price_59 : decode cX6_price 59 = .ok (.iaload, 1) := by decide +kernel
theorem dX6_price_60 : decode cX6_price 60 = .ok (.iload_n 1, 1) := by decide +kernel
theorem dX6_price_61 : decode cX6_price 61 = .ok (.invokevirtual 191, 3) := by decide +kernel
theorem dX6_price_64 : decode cX6_price 64 = .ok (.istore 4, 2) := by decide +kernel
theorem dX6_price_66 : decode cX6_price 66 = .ok (.lload_n 2, 1) := by decide +kernel
theorem dX6_price_67 : decode cX6_price 67 = .ok (.aload_n 0, 1) := by decide +kernel
theorem dX6_price_68 : decode cX6_price 68 = .ok (.getfield 181, 3) := by decide +kernel
theorem dX6_price_71 : decode cX6_price 71 = .ok (.ldc2_w 171, 3) := by decide +kernel
theorem dX6_price_74 : decode cX6_price 74 = .ok (.ldiv, 1) := by decide +kernel
theorem dX6_price_75 : decode cX6_price 75 = .ok (.lsub, 1) := by decide +kernel
theorem dX6_price_76 : decode cX6_price 76 = .ok (.lreturn, 1) := by decide +kernel
theorem dX6_others_0 : decode cX6_others 0 = .ok (.aload_n 0, 1) := by decide +kernel
theorem dX6_others_1 : decode cX6_others 1 = .ok (.invokevirtual 86, 3) := by decide +kernel
theorem dX6_others_4 : decode cX6_others 4 = .ok (.ifCond .eq 10, 3) := by decide +kernel
theorem dX6_others_7 : decode cX6_others 7 = .ok (.aload_n 0, 1) := by decide +kernel
theorem dX6_others_8 : decode cX6_others 8 = .ok (.getfield 185, 3) := by decide +kernel
theorem dX6_others_11 : decode cX6_others 11 = .ok (.goto 4, 3) := by decide +kernel
theorem dX6_others_14 : decode cX6_others 14 = .ok (.iconst 0, 1) := by decide +kernel
theorem dX6_others_15 : decode cX6_others 15 = .ok (.ireturn, 1) := by decide +kernel
theorem dX6_shareOut_0 : decode cX6_shareOut 0 = .ok (.iconst 0, 1) := by decide +kernel
theorem dX6_shareOut_1 : decode cX6_shareOut 1 = .ok (.istore_n 1, 1) := by decide +kernel
theorem dX6_shareOut_2 : decode cX6_shareOut 2 = .ok (.iload_n 1, 1) := by decide +kernel
theorem dX6_shareOut_3 : decode cX6_shareOut 3 = .ok (.aload_n 0, 1) := by decide +kernel
theorem dX6_shareOut_4 : decode cX6_shareOut 4 = .ok (.getfield 7, 3) := by decide +kernel
theorem dX6_shareOut_7 : decode cX6_shareOut 7 = .ok (.iconst 0, 1) := by decide +kernel
theorem dX6_shareOut_8 : decode cX6_shareOut 8 = .ok (.iaload, 1) := by decide +kernel
theorem dX6_shareOut_9 : decode cX6_shareOut 9 = .ok (.if_icmp .ge 23, 3) := by decide +kernel
theorem dX6_shareOut_12 : decode cX6_shareOut 12 = .ok (.aload_n 0, 1) := by decide +kernel
theorem dX6_shareOut_13 : decode cX6_shareOut 13 = .ok (.getfield 44, 3) := by decide +kernel
theorem dX6_shareOut_16 : decode cX6_shareOut 16 = .ok (.iload_n 1, 1) := by decide +kernel
theorem dX6_shareOut_17 : decode cX6_shareOut 17 = .ok (.aload_n 0, 1) := by decide +kernel
theorem dX6_shareOut_18 : decode cX6_shareOut 18 = .ok (.getfield 7, 3) := by decide +kernel
theorem dX6_shareOut_21 : decode cX6_shareOut 21 = .ok (.iconst 1, 1) := by decide +kernel
theorem dX6_shareOut_22 : decode cX6_shareOut 22 = .ok (.iload_n 1, 1) := by decide +kernel
theorem dX6_shareOut_23 : decode cX6_shareOut 23 = .ok (.iadd, 1) := by decide +kernel
theorem dX6_shareOut_24 : decode cX6_shareOut 24 = .ok (.iaload, 1) := by decide +kernel
theorem dX6_shareOut_25 : decode cX6_shareOut 25 = .ok (.iastore, 1) := by decide +kernel
theorem dX6_shareOut_26 : decode cX6_shareOut 26 = .ok (.iinc 1 1, 3) := by decide +kernel
theorem dX6_shareOut_29 : decode cX6_shareOut 29 = .ok (.goto (-27), 3) := by decide +kernel
theorem dX6_shareOut_32 : decode cX6_shareOut 32 = .ok (.iconst 0, 1) := by decide +kernel
theorem dX6_shareOut_33 : decode cX6_shareOut 33 = .ok (.istore_n 1, 1) := by decide +kernel
theorem dX6_shareOut_34 : decode cX6_shareOut 34 = .ok (.iload_n 1, 1) := by decide +kernel
theorem dX6_shareOut_35 : decode cX6_shareOut 35 = .ok (.iconst 3, 1) := by decide +kernel
theorem dX6_shareOut_36 : decode cX6_shareOut 36 = .ok (.if_icmp .ge 41, 3) := by decide +kernel
theorem dX6_shareOut_39 : decode cX6_shareOut 39 = .ok (.aload_n 0, 1) := by decide +kernel
theorem dX6_shareOut_40 : decode cX6_shareOut 40 = .ok (.getfield 7, 3) := by decide +kernel
theorem dX6_shareOut_43 : decode cX6_shareOut 43 = .ok (.bipush 13, 2) := by decide +kernel
theorem dX6_shareOut_45 : decode cX6_shareOut 45 = .ok (.iload_n 1, 1) := by decide +kernel
theorem dX6_shareOut_46 : decode cX6_shareOut 46 = .ok (.iadd, 1) := by decide +kernel
theorem dX6_shareOut_47 : decode cX6_shareOut 47 = .ok (.iaload, 1) := by decide +kernel
theorem dX6_shareOut_48 : decode cX6_shareOut 48 = .ok (.iconst (-1), 1) := by decide +kernel
theorem dX6_shareOut_49 : decode cX6_shareOut 49 = .ok (.if_icmp .eq 22, 3) := by decide +kernel
theorem dX6_shareOut_52 : decode cX6_shareOut 52 = .ok (.aload_n 0, 1) := by decide +kernel
theorem dX6_shareOut_53 : decode cX6_shareOut 53 = .ok (.iload_n 1, 1) := by decide +kernel
theorem dX6_shareOut_54 : decode cX6_shareOut 54 = .ok (.aload_n 0, 1) := by decide +kernel
theorem dX6_shareOut_55 : decode cX6_shareOut 55 = .ok (.getfield 7, 3) := by decide +kernel
theorem dX6_shareOut_58 : decode cX6_shareOut 58 = .ok (.bipush 13, 2) := by decide +kernel
theorem dX6_shareOut_60 : decode cX6_shareOut 60 = .ok (.iload_n 1, 1) := by decide +kernel
theorem dX6_shareOut_61 : decode cX6_shareOut 61 = .ok (.iadd, 1) := by decide +kernel
theorem dX6_shareOut_62 : decode cX6_shareOut 62 = .ok (.iaload, 1) := by decide +kernel
theorem dX6_shareOut_63 : decode cX6_shareOut 63 = .ok (.aload_n 0, 1) := by decide +kernel
theorem dX6_shareOut_64 : decode cX6_shareOut 64 = .ok (.iload_n 1, 1) := by decide +kernel
theorem dX6_shareOut_65 : decode cX6_shareOut 65 = .ok (.invokevirtual 130, 3) := by decide +kernel
theorem dX6_shareOut_68 : decode cX6_shareOut 68 = .ok (.invokevirtual 201, 3) := by decide +kernel
theorem dX6_shareOut_71 : decode cX6_shareOut 71 = .ok (.iinc 1 1, 3) := by decide +kernel
theorem dX6_shareOut_74 : decode cX6_shareOut 74 = .ok (.goto (-40), 3) := by decide +kernel
theorem dX6_shareOut_77 : decode cX6_shareOut 77 = .ok (.return_, 1) := by decide +kernel
theorem dX6_shareYear_0 : decode cX6_shareYear 0 = .ok (.iload_n 2, 1) := by decide +kernel
theorem dX6_shareYear_1 : decode cX6_shareYear 1 = .ok (.istore 4, 2) := by decide +kernel
theorem dX6_shareYear_3 : decode cX6_shareYear 3 = .ok (.iconst 4, 1) := by decide +kernel
theorem dX6_shareYear_4 : decode cX6_shareYear 4 = .ok (.iload_n 1, 1) := by decide +kernel
theorem dX6_shareYear_5 : decode cX6_shareYear 5 = .ok (.imul, 1) := by decide +kernel
theorem dX6_shareYear_6 : decode cX6_shareYear 6 = .ok (.istore 5, 2) := by decide +kernel
theorem dX6_shareYear_8 : decode cX6_shareYear 8 = .ok (.iload 5, 2) := by decide +kernel
theorem dX6_shareYear_10 : decode cX6_shareYear 10 = .ok (.iconst 4, 1) := by decide +kernel
theorem dX6_shareYear_11 : decode cX6_shareYear 11 = .ok (.iload_n 1, 1) := by decide +kernel
theorem dX6_shareYear_12 : decode cX6_shareYear 12 = .ok (.imul, 1) := by decide +kernel
theorem dX6_shareYear_13 : decode cX6_shareYear 13 = .ok (.iconst 4, 1) := by decide +kernel
theorem dX6_shareYear_14 : decode cX6_shareYear 14 = .ok (.iadd, 1) := by decide +kernel
theorem dX6_shareYear_15 : decode cX6_shareYear 15 = .ok (.if_icmp .ge 41, 3) := by decide +kernel
theorem dX6_shareYear_18 : decode cX6_shareYear 18 = .ok (.aload_n 0, 1) := by decide +kernel
theorem dX6_shareYear_19 : decode cX6_shareYear 19 = .ok (.getfield 44, 3) := by decide +kernel
theorem dX6_shareYear_22 : decode cX6_shareYear 22 = .ok (.iload 5, 2) := by decide +kernel
theorem dX6_shareYear_24 : decode cX6_shareYear 24 = .ok (.iload_n 2, 1) := by decide +kernel
theorem dX6_shareYear_25 : decode cX6_shareYear 25 = .ok (.aload_n 0, 1) := by decide +kernel
theorem dX6_shareYear_26 : decode cX6_shareYear 26 = .ok (.getfield 7, 3) := by decide +kernel
theorem dX6_shareYear_29 : decode cX6_shareYear 29 = .ok (.iconst 1, 1) := by decide +kernel
theorem dX6_shareYear_30 : decode cX6_shareYear 30 = .ok (.iload 5, 2) := by decide +kernel
theorem dX6_shareYear_32 : decode cX6_shareYear 32 = .ok (.iadd, 1) := by decide +kernel
theorem dX6_shareYear_33 : decode cX6_shareYear 33 = .ok (.iaload, 1) := by decide +kernel
theorem dX6_shareYear_34 : decode cX6_shareYear 34 = .ok (.imul, 1) := by decide +kernel
theorem dX6_shareYear_35 : decode cX6_shareYear 35 = .ok (.iload_n 3, 1) := by decide +kernel
theorem dX6_shareYear_36 : decode cX6_shareYear 36 = .ok (.idiv, 1) := by decide +kernel
theorem dX6_shareYear_37 : decode cX6_shareYear 37 = .ok (.iastore, 1) := by decide +kernel
theorem dX6_shareYear_38 : decode cX6_shareYear 38 = .ok (.iload 4, 2) := by decide +kernel
theorem dX6_shareYear_40 : decode cX6_shareYear 40 = .ok (.aload_n 0, 1) := by decide +kernel
theorem dX6_shareYear_41 : decode cX6_shareYear 41 = .ok (.getfield 44, 3) := by decide +kernel
theorem dX6_shareYear_44 : decode cX6_shareYear 44 = .ok (.iload 5, 2) := by decide +kernel
theorem dX6_shareYear_46 : decode cX6_shareYear 46 = .ok (.iaload, 1) := by decide +kernel
theorem dX6_shareYear_47 : decode cX6_shareYear 47 = .ok (.isub, 1) := by decide +kernel
theorem dX6_shareYear_48 : decode cX6_shareYear 48 = .ok (.istore 4, 2) := by decide +kernel
theorem dX6_shareYear_50 : decode cX6_shareYear 50 = .ok (.iinc 5 1, 3) := by decide +kernel
theorem dX6_shareYear_53 : decode cX6_shareYear 53 = .ok (.goto (-45), 3) := by decide +kernel
theorem dX6_shareYear_56 : decode cX6_shareYear 56 = .ok (.iconst 0, 1) := by decide +kernel
theorem dX6_shareYear_57 : decode cX6_shareYear 57 = .ok (.istore 5, 2) := by decide +kernel
theorem dX6_shareYear_59 : decode cX6_shareYear 59 = .ok (.iload 4, 2) := by decide +kernel
theorem dX6_shareYear_61 : decode cX6_shareYear 61 = .ok (.ifCond .le 119, 3) := by decide +kernel
theorem dX6_shareYear_64 : decode cX6_shareYear 64 = .ok (.iconst (-1), 1) := by decide +kernel
theorem dX6_shareYear_65 : decode cX6_shareYear 65 = .ok (.istore 6, 2) := by decide +kernel
theorem dX6_shareYear_67 : decode cX6_shareYear 67 = .ok (.iconst 4, 1) := by decide +kernel
theorem dX6_shareYear_68 : decode cX6_shareYear 68 = .ok (.iload_n 1, 1) := by decide +kernel
theorem dX6_shareYear_69 : decode cX6_shareYear 69 = .ok (.imul, 1) := by decide +kernel
theorem dX6_shareYear_70 : decode cX6_shareYear 70 = .ok (.istore 7, 2) := by decide +kernel
theorem dX6_shareYear_72 : decode cX6_shareYear 72 = .ok (.iload 7, 2) := by decide +kernel
theorem dX6_shareYear_74 : decode cX6_shareYear 74 = .ok (.iconst 4, 1) := by decide +kernel
theorem dX6_shareYear_75 : decode cX6_shareYear 75 = .ok (.iload_n 1, 1) := by decide +kernel
theorem dX6_shareYear_76 : decode cX6_shareYear 76 = .ok (.imul, 1) := by decide +kernel
theorem dX6_shareYear_77 : decode cX6_shareYear 77 = .ok (.iconst 4, 1) := by decide +kernel
theorem dX6_shareYear_78 : decode cX6_shareYear 78 = .ok (.iadd, 1) := by decide +kernel
theorem dX6_shareYear_79 : decode cX6_shareYear 79 = .ok (.if_icmp .ge 75, 3) := by decide +kernel
theorem dX6_shareYear_82 : decode cX6_shareYear 82 = .ok (.iload 5, 2) := by decide +kernel
theorem dX6_shareYear_84 : decode cX6_shareYear 84 = .ok (.iload 7, 2) := by decide +kernel
theorem dX6_shareYear_86 : decode cX6_shareYear 86 = .ok (.ishr, 1) := by decide +kernel
theorem dX6_shareYear_87 : decode cX6_shareYear 87 = .ok (.iconst 1, 1) := by decide +kernel
theorem dX6_shareYear_88 : decode cX6_shareYear 88 = .ok (.iand, 1) := by decide +kernel
theorem dX6_shareYear_89 : decode cX6_shareYear 89 = .ok (.ifCond .ne 7, 3) := by decide +kernel
theorem dX6_shareYear_92 : decode cX6_shareYear 92 = .ok (.iconst 1, 1) := by decide +kernel
theorem dX6_shareYear_93 : decode cX6_shareYear 93 = .ok (.goto 4, 3) := by decide +kernel
theorem dX6_shareYear_96 : decode cX6_shareYear 96 = .ok (.iconst 0, 1) := by decide +kernel
theorem dX6_shareYear_97 : decode cX6_shareYear 97 = .ok (.istore 8, 2) := by decide +kernel
theorem dX6_shareYear_99 : decode cX6_shareYear 99 = .ok (.iload 8, 2) := by decide +kernel
theorem dX6_shareYear_101 : decode cX6_shareYear 101 = .ok (.ifCond .eq 43, 3) := by decide +kernel
theorem dX6_shareYear_104 : decode cX6_shareYear 104 = .ok (.iload 6, 2) := by decide +kernel
theorem dX6_shareYear_106 : decode cX6_shareYear 106 = .ok (.iconst (-1), 1) := by decide +kernel
theorem dX6_shareYear_107 : decode cX6_shareYear 107 = .ok (.if_icmp .eq 32, 3) := by decide +kernel
theorem dX6_shareYear_110 : decode cX6_shareYear 110 = .ok (.iload_n 2, 1) := by decide +kernel
theorem dX6_shareYear_111 : decode cX6_shareYear 111 = .ok (.aload_n 0, 1) := by decide +kernel
theorem dX6_shareYear_112 : decode cX6_shareYear 112 = .ok (.getfield 7, 3) := by decide +kernel
theorem dX6_shareYear_115 : decode cX6_shareYear 115 = .ok (.iconst 1, 1) := by decide +kernel
theorem dX6_shareYear_116 : decode cX6_shareYear 116 = .ok (.iload 7, 2) := by decide +kernel
theorem dX6_shareYear_118 : decode cX6_shareYear 118 = .ok (.iadd, 1) := by decide +kernel
theorem dX6_shareYear_119 : decode cX6_shareYear 119 = .ok (.iaload, 1) := by decide +kernel
theorem dX6_shareYear_120 : decode cX6_shareYear 120 = .ok (.imul, 1) := by decide +kernel
theorem dX6_shareYear_121 : decode cX6_shareYear 121 = .ok (.iload_n 3, 1) := by decide +kernel
theorem dX6_shareYear_122 : decode cX6_shareYear 122 = .ok (.irem, 1) := by decide +kernel
theorem dX6_shareYear_123 : decode cX6_shareYear 123 = .ok (.iload_n 2, 1) := by decide +kernel
theorem dX6_shareYear_124 : decode cX6_shareYear 124 = .ok (.aload_n 0, 1) := by decide +kernel
theorem dX6_shareYear_125 : decode cX6_shareYear 125 = .ok (.getfield 7, 3) := by decide +kernel
theorem dX6_shareYear_128 : decode cX6_shareYear 128 = .ok (.iconst 1, 1) := by decide +kernel
theorem dX6_shareYear_129 : decode cX6_shareYear 129 = .ok (.iload 6, 2) := by decide +kernel
theorem dX6_shareYear_131 : decode cX6_shareYear 131 = .ok (.iadd, 1) := by decide +kernel
theorem dX6_shareYear_132 : decode cX6_shareYear 132 = .ok (.iaload, 1) := by decide +kernel
theorem dX6_shareYear_133 : decode cX6_shareYear 133 = .ok (.imul, 1) := by decide +kernel
theorem dX6_shareYear_134 : decode cX6_shareYear 134 = .ok (.iload_n 3, 1) := by decide +kernel
theorem dX6_shareYear_135 : decode cX6_shareYear 135 = .ok (.irem, 1) := by decide +kernel
theorem dX6_shareYear_136 : decode cX6_shareYear 136 = .ok (.if_icmp .le 8, 3) := by decide +kernel
theorem dX6_shareYear_139 : decode cX6_shareYear 139 = .ok (.iload 7, 2) := by decide +kernel
theorem dX6_shareYear_141 : decode cX6_shareYear 141 = .ok (.goto 5, 3) := by decide +kernel
theorem dX6_shareYear_144 : decode cX6_shareYear 144 = .ok (.iload 6, 2) := by decide +kernel
theorem dX6_shareYear_146 : decode cX6_shareYear 146 = .ok (.istore 6, 2) := by decide +kernel
theorem dX6_shareYear_148 : decode cX6_shareYear 148 = .ok (.iinc 7 1, 3) := by decide +kernel
theorem dX6_shareYear_151 : decode cX6_shareYear 151 = .ok (.goto (-79), 3) := by decide +kernel
theorem dX6_shareYear_154 : decode cX6_shareYear 154 = .ok (.iload 5, 2) := by decide +kernel
theorem dX6_shareYear_156 : decode cX6_shareYear 156 = .ok (.iconst 1, 1) := by decide +kernel
theorem dX6_shareYear_157 : decode cX6_shareYear 157 = .ok (.iload 6, 2) := by decide +kernel
theorem dX6_shareYear_159 : decode cX6_shareYear 159 = .ok (.ishl, 1) := by decide +kernel
theorem dX6_shareYear_160 : decode cX6_shareYear 160 = .ok (.ior, 1) := by decide +kernel
theorem dX6_shareYear_161 : decode cX6_shareYear 161 = .ok (.istore 5, 2) := by decide +kernel
theorem dX6_shareYear_163 : decode cX6_shareYear 163 = .ok (.aload_n 0, 1) := by decide +kernel
theorem dX6_shareYear_164 : decode cX6_shareYear 164 = .ok (.getfield 44, 3) := by decide +kernel
theorem dX6_shareYear_167 : decode cX6_shareYear 167 = .ok (.iload 6, 2) := by decide +kernel
theorem dX6_shareYear_169 : decode cX6_shareYear 169 = .ok (.dup2, 1) := by decide +kernel
theorem dX6_shareYear_170 : decode cX6_shareYear 170 = .ok (.iaload, 1) := by decide +kernel
theorem dX6_shareYear_171 : decode cX6_shareYear 171 = .ok (.iconst 1, 1) := by decide +kernel
theorem dX6_shareYear_172 : decode cX6_shareYear 172 = .ok (.iadd, 1) := by decide +kernel
theorem dX6_shareYear_173 : decode cX6_shareYear 173 = .ok (.iastore, 1) := by decide +kernel
theorem dX6_shareYear_174 : decode cX6_shareYear 174 = .ok (.iinc 4 (-1), 3) := by decide +kernel
theorem dX6_shareYear_177 : decode cX6_shareYear 177 = .ok (.goto (-118), 3) := by decide +kernel
theorem dX6_shareYear_180 : decode cX6_shareYear 180 = .ok (.return_, 1) := by decide +kernel
theorem dX6_shared_0 : decode cX6_shared 0 = .ok (.aload_n 0, 1) := by decide +kernel
theorem dX6_shared_1 : decode cX6_shared 1 = .ok (.iload_n 1, 1) := by decide +kernel
theorem dX6_shared_2 : decode cX6_shared 2 = .ok (.invokevirtual 70, 3) := by decide +kernel
theorem dX6_shared_5 : decode cX6_shared 5 = .ok (.ifCond .ne 10, 3) := by decide +kernel
theorem dX6_shared_8 : decode cX6_shared 8 = .ok (.aload_n 0, 1) := by decide +kernel
theorem dX6_shared_9 : decode cX6_shared 9 = .ok (.bipush (-2), 2) := by decide +kernel
theorem dX6_shared_11 : decode cX6_shared 11 = .ok (.invokevirtual 54, 3) := by decide +kernel
theorem dX6_shared_14 : decode cX6_shared 14 = .ok (.ireturn, 1) := by decide +kernel
theorem dX6_shared_15 : decode cX6_shared 15 = .ok (.aload_n 0, 1) := by decide +kernel
theorem dX6_shared_16 : decode cX6_shared 16 = .ok (.invokevirtual 204, 3) := by decide +kernel
theorem dX6_shared_19 : decode cX6_shared 19 = .ok (.aload_n 0, 1) := by decide +kernel
theorem dX6_shared_20 : decode cX6_shared 20 = .ok (.getfield 44, 3) := by decide +kernel
theorem dX6_shared_23 : decode cX6_shared 23 = .ok (.iload_n 1, 1) := by decide +kernel
theorem dX6_shared_24 : decode cX6_shared 24 = .ok (.iaload, 1) := by decide +kernel
theorem dX6_shared_25 : decode cX6_shared 25 = .ok (.ireturn, 1) := by decide +kernel
theorem dX6_stepped_0 : decode cX6_stepped 0 = .ok (.iload_n 1, 1) := by decide +kernel
theorem dX6_stepped_1 : decode cX6_stepped 1 = .ok (.i2l, 1) := by decide +kernel
theorem dX6_stepped_2 : decode cX6_stepped 2 = .ok (.lconst 0, 1) := by decide +kernel
theorem dX6_stepped_3 : decode cX6_stepped 3 = .ok (.lconst 1, 1) := by decide +kernel
theorem dX6_stepped_4 : decode cX6_stepped 4 = .ok (.invokestatic 62, 3) := by decide +kernel
theorem dX6_stepped_7 : decode cX6_stepped 7 = .ok (.ifCond .ne 11, 3) := by decide +kernel
theorem dX6_stepped_10 : decode cX6_stepped 10 = .ok (.aload_n 0, 1) := by decide +kernel
theorem dX6_stepped_11 : decode cX6_stepped 11 = .ok (.bipush (-2), 2) := by decide +kernel
theorem dX6_stepped_13 : decode cX6_stepped 13 = .ok (.invokevirtual 54, 3) := by decide +kernel
theorem dX6_stepped_16 : decode cX6_stepped 16 = .ok (.i2l, 1) := by decide +kernel
theorem dX6_stepped_17 : decode cX6_stepped 17 = .ok (.lreturn, 1) := by decide +kernel
theorem dX6_stepped_18 : decode cX6_stepped 18 = .ok (.aload_n 0, 1) := by decide +kernel
theorem dX6_stepped_19 : decode cX6_stepped 19 = .ok (.invokevirtual 204, 3) := by decide +kernel
theorem dX6_stepped_22 : decode cX6_stepped 22 = .ok (.aload_n 0, 1) := by decide +kernel
theorem dX6_stepped_23 : decode cX6_stepped 23 = .ok (.iload_n 1, 1) := by decide +kernel
theorem dX6_stepped_24 : decode cX6_stepped 24 = .ok (.aload_n 0, 1) := by decide +kernel
theorem dX6_stepped_25 : decode cX6_stepped 25 = .ok (.getfield 44, 3) := by decide +kernel
theorem dX6_stepped_28 : decode cX6_stepped 28 = .ok (.invokevirtual 194, 3) := by decide +kernel
theorem dX6_stepped_31 : decode cX6_stepped 31 = .ok (.lreturn, 1) := by decide +kernel
theorem dX6_type_0 : decode cX6_type 0 = .ok (.iload_n 1, 1) := by decide +kernel
theorem dX6_type_1 : decode cX6_type 1 = .ok (.i2l, 1) := by decide +kernel
theorem dX6_type_2 : decode cX6_type 2 = .ok (.lconst 0, 1) := by decide +kernel
theorem dX6_type_3 : decode cX6_type 3 = .ok (.ldc2_w 207, 3) := by decide +kernel
theorem dX6_type_6 : decode cX6_type 6 = .ok (.invokestatic 62, 3) := by decide +kernel
theorem dX6_type_9 : decode cX6_type 9 = .ok (.ifCond .ne 10, 3) := by decide +kernel
theorem dX6_type_12 : decode cX6_type 12 = .ok (.aload_n 0, 1) := by decide +kernel
theorem dX6_type_13 : decode cX6_type 13 = .ok (.bipush (-2), 2) := by decide +kernel
theorem dX6_type_15 : decode cX6_type 15 = .ok (.invokevirtual 54, 3) := by decide +kernel
theorem dX6_type_18 : decode cX6_type 18 = .ok (.ireturn, 1) := by decide +kernel
theorem dX6_type_19 : decode cX6_type 19 = .ok (.aload_n 0, 1) := by decide +kernel
theorem dX6_type_20 : decode cX6_type 20 = .ok (.getfield 209, 3) := by decide +kernel
theorem dX6_type_23 : decode cX6_type 23 = .ok (.bipush 120, 2) := by decide +kernel
theorem dX6_type_25 : decode cX6_type 25 = .ok (.if_icmp .ne 10, 3) := by decide +kernel
theorem dX6_type_28 : decode cX6_type 28 = .ok (.aload_n 0, 1) := by decide +kernel
theorem dX6_type_29 : decode cX6_type 29 = .ok (.bipush (-4), 2) := by decide +kernel
theorem dX6_type_31 : decode cX6_type 31 = .ok (.invokevirtual 54, 3) := by decide +kernel
theorem dX6_type_34 : decode cX6_type 34 = .ok (.ireturn, 1) := by decide +kernel
theorem dX6_type_35 : decode cX6_type 35 = .ok (.aload_n 0, 1) := by decide +kernel
theorem dX6_type_36 : decode cX6_type 36 = .ok (.getfield 22, 3) := by decide +kernel
theorem dX6_type_39 : decode cX6_type 39 = .ok (.aload_n 0, 1) := by decide +kernel
theorem dX6_type_40 : decode cX6_type 40 = .ok (.getfield 209, 3) := by decide +kernel
theorem dX6_type_43 : decode cX6_type 43 = .ok (.iload_n 1, 1) := by decide +kernel
theorem dX6_type_44 : decode cX6_type 44 = .ok (.iastore, 1) := by decide +kernel
theorem dX6_type_45 : decode cX6_type 45 = .ok (.aload_n 0, 1) := by decide +kernel
theorem dX6_type_46 : decode cX6_type 46 = .ok (.dup, 1) := by decide +kernel
theorem dX6_type_47 : decode cX6_type 47 = .ok (.getfield 209, 3) := by decide +kernel
theorem dX6_type_50 : decode cX6_type 50 = .ok (.iconst 1, 1) := by decide +kernel
theorem dX6_type_51 : decode cX6_type 51 = .ok (.iadd, 1) := by decide +kernel
theorem dX6_type_52 : decode cX6_type 52 = .ok (.putfield 209, 3) := by decide +kernel
theorem dX6_type_55 : decode cX6_type 55 = .ok (.aload_n 0, 1) := by decide +kernel
theorem dX6_type_56 : decode cX6_type 56 = .ok (.getfield 209, 3) := by decide +kernel
theorem dX6_type_59 : decode cX6_type 59 = .ok (.ireturn, 1) := by decide +kernel
theorem dX6_clear_0 : decode cX6_clear 0 = .ok (.aload_n 0, 1) := by decide +kernel
theorem dX6_clear_1 : decode cX6_clear 1 = .ok (.getfield 209, 3) := by decide +kernel
theorem dX6_clear_4 : decode cX6_clear 4 = .ok (.istore_n 1, 1) := by decide +kernel
theorem dX6_clear_5 : decode cX6_clear 5 = .ok (.aload_n 0, 1) := by decide +kernel
theorem dX6_clear_6 : decode cX6_clear 6 = .ok (.iconst 0, 1) := by decide +kernel
theorem dX6_clear_7 : decode cX6_clear 7 = .ok (.putfield 209, 3) := by decide +kernel
theorem dX6_clear_10 : decode cX6_clear 10 = .ok (.iload_n 1, 1) := by decide +kernel
theorem dX6_clear_11 : decode cX6_clear 11 = .ok (.ireturn, 1) := by decide +kernel
theorem dX6_wantsOf_0 : decode cX6_wantsOf 0 = .ok (.iload_n 0, 1) := by decide +kernel
theorem dX6_wantsOf_1 : decode cX6_wantsOf 1 = .ok (.tableswitch 105 102 122 #[101, 105, 105, 105, 105, 105, 101, 105, 101, 99, 99, 101, 105, 105, 103, 105, 105, 105, 105, 105, 103], 99) := by decide +kernel
theorem dX6_wantsOf_100 : decode cX6_wantsOf 100 = .ok (.iconst 0, 1) := by decide +kernel
theorem dX6_wantsOf_101 : decode cX6_wantsOf 101 = .ok (.ireturn, 1) := by decide +kernel
theorem dX6_wantsOf_102 : decode cX6_wantsOf 102 = .ok (.iconst 1, 1) := by decide +kernel
theorem dX6_wantsOf_103 : decode cX6_wantsOf 103 = .ok (.ireturn, 1) := by decide +kernel
theorem dX6_wantsOf_104 : decode cX6_wantsOf 104 = .ok (.iconst 2, 1) := by decide +kernel
theorem dX6_wantsOf_105 : decode cX6_wantsOf 105 = .ok (.ireturn, 1) := by decide +kernel
theorem dX6_wantsOf_106 : decode cX6_wantsOf 106 = .ok (.iconst (-1), 1) := by decide +kernel
theorem dX6_wantsOf_107 : decode cX6_wantsOf 107 = .ok (.ireturn, 1) := by decide +kernel
theorem dX6_readByte_0 : decode cX6_readByte 0 = .ok (.aload_n 0, 1) := by decide +kernel
theorem dX6_readByte_1 : decode cX6_readByte 1 = .ok (.getfield 212, 3) := by decide +kernel
theorem dX6_readByte_4 : decode cX6_readByte 4 = .ok (.ifCond .ne 50, 3) := by decide +kernel
theorem dX6_readByte_7 : decode cX6_readByte 7 = .ok (.iload_n 1, 1) := by decide +kernel
theorem dX6_readByte_8 : decode cX6_readByte 8 = .ok (.bipush 32, 2) := by decide +kernel
theorem dX6_readByte_10 : decode cX6_readByte 10 = .ok (.if_icmp .ne 5, 3) := by decide +kernel
theorem dX6_readByte_13 : decode cX6_readByte 13 = .ok (.iconst 1, 1) := by decide +kernel
theorem dX6_readByte_14 : decode cX6_readByte 14 = .ok (.ireturn, 1) := by decide +kernel
theorem dX6_readByte_15 : decode cX6_readByte 15 = .ok (.aload_n 0, 1) := by decide +kernel
theorem dX6_readByte_16 : decode cX6_readByte 16 = .ok (.iload_n 1, 1) := by decide +kernel
theorem dX6_readByte_17 : decode cX6_readByte 17 = .ok (.putfield 212, 3) := by decide +kernel
theorem dX6_readByte_20 : decode cX6_readByte 20 = .ok (.aload_n 0, 1) := by decide +kernel
theorem dX6_readByte_21 : decode cX6_readByte 21 = .ok (.iconst 0, 1) := by decide +kernel
theorem dX6_readByte_22 : decode cX6_readByte 22 = .ok (.putfield 215, 3) := by decide +kernel
theorem dX6_readByte_25 : decode cX6_readByte 25 = .ok (.aload_n 0, 1) := by decide +kernel
theorem dX6_readByte_26 : decode cX6_readByte 26 = .ok (.iconst 0, 1) := by decide +kernel
theorem dX6_readByte_27 : decode cX6_readByte 27 = .ok (.putfield 218, 3) := by decide +kernel
theorem dX6_readByte_30 : decode cX6_readByte 30 = .ok (.aload_n 0, 1) := by decide +kernel
theorem dX6_readByte_31 : decode cX6_readByte 31 = .ok (.getfield 25, 3) := by decide +kernel
theorem dX6_readByte_34 : decode cX6_readByte 34 = .ok (.aload_n 0, 1) := by decide +kernel
theorem dX6_readByte_35 : decode cX6_readByte 35 = .ok (.getfield 221, 3) := by decide +kernel
theorem dX6_readByte_38 : decode cX6_readByte 38 = .ok (.iload_n 1, 1) := by decide +kernel
theorem dX6_readByte_39 : decode cX6_readByte 39 = .ok (.iastore, 1) := by decide +kernel
theorem dX6_readByte_40 : decode cX6_readByte 40 = .ok (.iload_n 1, 1) := by decide +kernel
theorem dX6_readByte_41 : decode cX6_readByte 41 = .ok (.invokestatic 224, 3) := by decide +kernel
theorem dX6_readByte_44 : decode cX6_readByte 44 = .ok (.iconst (-1), 1) := by decide +kernel
theorem dX6_readByte_45 : decode cX6_readByte 45 = .ok (.if_icmp .eq 7, 3) := by decide +kernel
theorem dX6_readByte_48 : decode cX6_readByte 48 = .ok (.iconst 1, 1) := by decide +kernel
theorem dX6_readByte_49 : decode cX6_readByte 49 = .ok (.goto 4, 3) := by decide +kernel
theorem dX6_readByte_52 : decode cX6_readByte 52 = .ok (.iconst 0, 1) := by decide +kernel
theorem dX6_readByte_53 : decode cX6_readByte 53 = .ok (.ireturn, 1) := by decide +kernel
theorem dX6_readByte_54 : decode cX6_readByte 54 = .ok (.iload_n 1, 1) := by decide +kernel
theorem dX6_readByte_55 : decode cX6_readByte 55 = .ok (.bipush 32, 2) := by decide +kernel
theorem dX6_readByte_57 : decode cX6_readByte 57 = .ok (.if_icmp .ne 10, 3) := by decide +kernel
theorem dX6_readByte_60 : decode cX6_readByte 60 = .ok (.aload_n 0, 1) := by decide +kernel
theorem dX6_readByte_61 : decode cX6_readByte 61 = .ok (.iconst 0, 1) := by decide +kernel
theorem dX6_readByte_62 : decode cX6_readByte 62 = .ok (.putfield 218, 3) := by decide +kernel
theorem dX6_readByte_65 : decode cX6_readByte 65 = .ok (.iconst 1, 1) := by decide +kernel
theorem dX6_readByte_66 : decode cX6_readByte 66 = .ok (.ireturn, 1) := by decide +kernel
theorem dX6_readByte_67 : decode cX6_readByte 67 = .ok (.iload_n 1, 1) := by decide +kernel
theorem dX6_readByte_68 : decode cX6_readByte 68 = .ok (.i2l, 1) := by decide +kernel
theorem dX6_readByte_69 : decode cX6_readByte 69 = .ok (.ldc2_w 227, 3) := by decide +kernel
theorem dX6_readByte_72 : decode cX6_readByte 72 = .ok (.ldc2_w 229, 3) := by decide +kernel
theorem dX6_readByte_75 : decode cX6_readByte 75 = .ok (.invokestatic 62, 3) := by decide +kernel
theorem dX6_readByte_78 : decode cX6_readByte 78 = .ok (.ifCond .eq 126, 3) := by decide +kernel
theorem dX6_readByte_81 : decode cX6_readByte 81 = .ok (.aload_n 0, 1) := by decide +kernel
theorem dX6_readByte_82 : decode cX6_readByte 82 = .ok (.getfield 218, 3) := by decide +kernel
theorem dX6_readByte_85 : decode cX6_readByte 85 = .ok (.iconst 3, 1) := by decide +kernel
theorem dX6_readByte_86 : decode cX6_readByte 86 = .ok (.if_icmp .eq 24, 3) := by decide +kernel
theorem dX6_readByte_89 : decode cX6_readByte 89 = .ok (.aload_n 0, 1) := by decide +kernel
theorem dX6_readByte_90 : decode cX6_readByte 90 = .ok (.getfield 218, 3) := by decide +kernel
theorem dX6_readByte_93 : decode cX6_readByte 93 = .ok (.ifCond .ne 19, 3) := by decide +kernel
theorem dX6_readByte_96 : decode cX6_readByte 96 = .ok (.aload_n 0, 1) := by decide +kernel
theorem dX6_readByte_97 : decode cX6_readByte 97 = .ok (.getfield 215, 3) := by decide +kernel
theorem dX6_readByte_100 : decode cX6_readByte 100 = .ok (.aload_n 0, 1) := by decide +kernel
theorem dX6_readByte_101 : decode cX6_readByte 101 = .ok (.getfield 212, 3) := by decide +kernel
theorem dX6_readByte_104 : decode cX6_readByte 104 = .ok (.invokestatic 224, 3) := by decide +kernel
theorem dX6_readByte_107 : decode cX6_readByte 107 = .ok (.if_icmp .ne 5, 3) := by decide +kernel
theorem dX6_readByte_110 : decode cX6_readByte 110 = .ok (.iconst 0, 1) := by decide +kernel
theorem dX6_readByte_111 : decode cX6_readByte 111 = .ok (.ireturn, 1) := by decide +kernel
theorem dX6_readByte_112 : decode cX6_readByte 112 = .ok (.aload_n 0, 1) := by decide +kernel
theorem dX6_readByte_113 : decode cX6_readByte 113 = .ok (.getfield 28, 3) := by decide +kernel
theorem dX6_readByte_116 : decode cX6_readByte 116 = .ok (.aload_n 0, 1) := by decide +kernel
theorem dX6_readByte_117 : decode cX6_readByte 117 = .ok (.getfield 221, 3) := by decide +kernel
theorem dX6_readByte_120 : decode cX6_readByte 120 = .ok (.iaload, 1) := by decide +kernel
theorem dX6_readByte_121 : decode cX6_readByte 121 = .ok (.aload_n 0, 1) := by decide +kernel
theorem dX6_readByte_122 : decode cX6_readByte 122 = .ok (.getfield 215, 3) := by decide +kernel
theorem dX6_readByte_125 : decode cX6_readByte 125 = .ok (.iadd, 1) := by decide +kernel
theorem dX6_readByte_126 : decode cX6_readByte 126 = .ok (.aload_n 0, 1) := by decide +kernel
theorem dX6_readByte_127 : decode cX6_readByte 127 = .ok (.getfield 218, 3) := by decide +kernel
theorem dX6_readByte_130 : decode cX6_readByte 130 = .ok (.ifCond .ne 7, 3) := by decide +kernel
theorem dX6_readByte_133 : decode cX6_readByte 133 = .ok (.iconst 0, 1) := by decide +kernel
theorem dX6_readByte_134 : decode cX6_readByte 134 = .ok (.goto 4, 3) := by decide +kernel
theorem dX6_readByte_137 : decode cX6_readByte 137 = .ok (.iconst 1, 1) := by decide +kernel
theorem dX6_readByte_138 : decode cX6_readByte 138 = .ok (.isub, 1) := by decide +kernel
theorem dX6_readByte_139 : decode cX6_readByte 139 = .ok (.istore_n 2, 1) := by decide +kernel
theorem dX6_readByte_140 : decode cX6_readByte 140 = .ok (.aload_n 0, 1) := by decide +kernel
theorem dX6_readByte_141 : decode cX6_readByte 141 = .ok (.getfield 31, 3) := by decide +kernel
theorem dX6_readByte_144 : decode cX6_readByte 144 = .ok (.iload_n 2, 1) := by decide +kernel
theorem dX6_readByte_145 : decode cX6_readByte 145 = .ok (.aload_n 0, 1) := by decide +kernel
theorem dX6_readByte_146 : decode cX6_readByte 146 = .ok (.getfield 218, 3) := by decide +kernel
theorem dX6_readByte_149 : decode cX6_readByte 149 = .ok (.ifCond .ne 7, 3) := by decide +kernel
theorem dX6_readByte_152 : decode cX6_readByte 152 = .ok (.iconst 0, 1) := by decide +kernel
theorem dX6_readByte_153 : decode cX6_readByte 153 = .ok (.goto 12, 3) := by decide +kernel
theorem dX6_readByte_156 : decode cX6_readByte 156 = .ok (.bipush 10, 2) := by decide +kernel
theorem dX6_readByte_158 : decode cX6_readByte 158 = .ok (.aload_n 0, 1) := by decide +kernel
theorem dX6_readByte_159 : decode cX6_readByte 159 = .ok (.getfield 31, 3) := by decide +kernel
theorem dX6_readByte_162 : decode cX6_readByte 162 = .ok (.iload_n 2, 1) := by decide +kernel
theorem dX6_readByte_163 : decode cX6_readByte 163 = .ok (.iaload, 1) := by decide +kernel
theorem dX6_readByte_164 : decode cX6_readByte 164 = .ok (.imul, 1) := by decide +kernel
theorem dX6_readByte_165 : decode cX6_readByte 165 = .ok (.iload_n 1, 1) := by decide +kernel
theorem dX6_readByte_166 : decode cX6_readByte 166 = .ok (.iadd, 1) := by decide +kernel
theorem dX6_readByte_167 : decode cX6_readByte 167 = .ok (.bipush 48, 2) := by decide +kernel
theorem dX6_readByte_169 : decode cX6_readByte 169 = .ok (.isub, 1) := by decide +kernel
theorem dX6_readByte_170 : decode cX6_readByte 170 = .ok (.iastore, 1) := by decide +kernel
theorem dX6_readByte_171 : decode cX6_readByte 171 = .ok (.aload_n 0, 1) := by decide +kernel
theorem dX6_readByte_172 : decode cX6_readByte 172 = .ok (.dup, 1) := by decide +kernel
theorem dX6_readByte_173 : decode cX6_readByte 173 = .ok (.getfield 215, 3) := by decide +kernel
theorem dX6_readByte_176 : decode cX6_readByte 176 = .ok (.aload_n 0, 1) := by decide +kernel
theorem dX6_readByte_177 : decode cX6_readByte 177 = .ok (.getfield 218, 3) := by decide +kernel
theorem dX6_readByte_180 : decode cX6_readByte 180 = .ok (.ifCond .ne 7, 3) := by decide +kernel
theorem dX6_readByte_183 : decode cX6_readByte 183 = .ok (.iconst 1, 1) := by decide +kernel
theorem dX6_readByte_184 : decode cX6_readByte 184 = .ok (.goto 4, 3) := by decide +kernel
theorem dX6_readByte_187 : decode cX6_readByte 187 = .ok (.iconst 0, 1) := by decide +kernel
theorem dX6_readByte_188 : decode cX6_readByte 188 = .ok (.iadd, 1) := by decide +kernel
theorem dX6_readByte_189 : decode cX6_readByte 189 = .ok (.putfield 215, 3) := by decide +kernel
theorem dX6_readByte_192 : decode cX6_readByte 192 = .ok (.aload_n 0, 1) := by decide +kernel
theorem dX6_readByte_193 : decode cX6_readByte 193 = .ok (.dup, 1) := by decide +kernel
theorem dX6_readByte_194 : decode cX6_readByte 194 = .ok (.getfield 218, 3) := by decide +kernel
theorem dX6_readByte_197 : decode cX6_readByte 197 = .ok (.iconst 1, 1) := by decide +kernel
theorem dX6_readByte_198 : decode cX6_readByte 198 = .ok (.iadd, 1) := by decide +kernel
theorem dX6_readByte_199 : decode cX6_readByte 199 = .ok (.putfield 218, 3) := by decide +kernel
theorem dX6_readByte_202 : decode cX6_readByte 202 = .ok (.iconst 1, 1) := by decide +kernel
theorem dX6_readByte_203 : decode cX6_readByte 203 = .ok (.ireturn, 1) := by decide +kernel
theorem dX6_readByte_204 : decode cX6_readByte 204 = .ok (.iload_n 1, 1) := by decide +kernel
theorem dX6_readByte_205 : decode cX6_readByte 205 = .ok (.bipush 59, 2) := by decide +kernel
theorem dX6_readByte_207 : decode cX6_readByte 207 = .ok (.if_icmp .ne 17, 3) := by decide +kernel
theorem dX6_readByte_210 : decode cX6_readByte 210 = .ok (.aload_n 0, 1) := by decide +kernel
theorem dX6_readByte_211 : decode cX6_readByte 211 = .ok (.getfield 215, 3) := by decide +kernel
theorem dX6_readByte_214 : decode cX6_readByte 214 = .ok (.aload_n 0, 1) := by decide +kernel
theorem dX6_readByte_215 : decode cX6_readByte 215 = .ok (.getfield 212, 3) := by decide +kernel
theorem dX6_readByte_218 : decode cX6_readByte 218 = .ok (.invokestatic 224, 3) := by decide +kernel
theorem dX6_readByte_221 : decode cX6_readByte 221 = .ok (.if_icmp .ge 5, 3) := by decide +kernel
theorem dX6_readByte_224 : decode cX6_readByte 224 = .ok (.iconst 0, 1) := by decide +kernel
theorem dX6_readByte_225 : decode cX6_readByte 225 = .ok (.ireturn, 1) := by decide +kernel
theorem dX6_readByte_226 : decode cX6_readByte 226 = .ok (.aload_n 0, 1) := by decide +kernel
theorem dX6_readByte_227 : decode cX6_readByte 227 = .ok (.iconst 0, 1) := by decide +kernel
theorem dX6_readByte_228 : decode cX6_readByte 228 = .ok (.putfield 212, 3) := by decide +kernel
theorem dX6_readByte_231 : decode cX6_readByte 231 = .ok (.aload_n 0, 1) := by decide +kernel
theorem dX6_readByte_232 : decode cX6_readByte 232 = .ok (.getfield 28, 3) := by decide +kernel
theorem dX6_readByte_235 : decode cX6_readByte 235 = .ok (.aload_n 0, 1) := by decide +kernel
theorem dX6_readByte_236 : decode cX6_readByte 236 = .ok (.getfield 221, 3) := by decide +kernel
theorem dX6_readByte_239 : decode cX6_readByte 239 = .ok (.iconst 1, 1) := by decide +kernel
theorem dX6_readByte_240 : decode cX6_readByte 240 = .ok (.iadd, 1) := by decide +kernel
theorem dX6_readByte_241 : decode cX6_readByte 241 = .ok (.aload_n 0, 1) := by decide +kernel
theorem dX6_readByte_242 : decode cX6_readByte 242 = .ok (.getfield 28, 3) := by decide +kernel
theorem dX6_readByte_245 : decode cX6_readByte 245 = .ok (.aload_n 0, 1) := by decide +kernel
theorem dX6_readByte_246 : decode cX6_readByte 246 = .ok (.getfield 221, 3) := by decide +kernel
theorem dX6_readByte_249 : decode cX6_readByte 249 = .ok (.iaload, 1) := by decide +kernel
theorem dX6_readByte_250 : decode cX6_readByte 250 = .ok (.aload_n 0, 1) := by decide +kernel
theorem dX6_readByte_251 : decode cX6_readByte 251 = .ok (.getfield 215, 3) := by decide +kernel
theorem dX6_readByte_254 : decode cX6_readByte 254 = .ok (.iadd, 1) := by decide +kernel
theorem dX6_readByte_255 : decode cX6_readByte 255 = .ok (.iastore, 1) := by decide +kernel
theorem dX6_readByte_256 : decode cX6_readByte 256 = .ok (.aload_n 0, 1) := by decide +kernel
theorem dX6_readByte_257 : decode cX6_readByte 257 = .ok (.dup, 1) := by decide +kernel
theorem dX6_readByte_258 : decode cX6_readByte 258 = .ok (.getfield 221, 3) := by decide +kernel
theorem dX6_readByte_261 : decode cX6_readByte 261 = .ok (.iconst 1, 1) := by decide +kernel
theorem dX6_readByte_262 : decode cX6_readByte 262 = .ok (.iadd, 1) := by decide +kernel
theorem dX6_readByte_263 : decode cX6_readByte 263 = .ok (.putfield 221, 3) := by decide +kernel
theorem dX6_readByte_266 : decode cX6_readByte 266 = .ok (.iconst 1, 1) := by decide +kernel
theorem dX6_readByte_267 : decode cX6_readByte 267 = .ok (.ireturn, 1) := by decide +kernel
theorem dX6_readText_0 : decode cX6_readText 0 = .ok (.aload_n 0, 1) := by decide +kernel
theorem dX6_readText_1 : decode cX6_readText 1 = .ok (.iconst 0, 1) := by decide +kernel
theorem dX6_readText_2 : decode cX6_readText 2 = .ok (.putfield 221, 3) := by decide +kernel
theorem dX6_readText_5 : decode cX6_readText 5 = .ok (.aload_n 0, 1) := by decide +kernel
theorem dX6_readText_6 : decode cX6_readText 6 = .ok (.getfield 28, 3) := by decide +kernel
theorem dX6_readText_9 : decode cX6_readText 9 = .ok (.iconst 0, 1) := by decide +kernel
theorem dX6_readText_10 : decode cX6_readText 10 = .ok (.iconst 0, 1) := by decide +kernel
theorem dX6_readText_11 : decode cX6_readText 11 = .ok (.iastore, 1) := by decide +kernel
theorem dX6_readText_12 : decode cX6_readText 12 = .ok (.aload_n 0, 1) := by decide +kernel
theorem dX6_readText_13 : decode cX6_readText 13 = .ok (.iconst 0, 1) := by decide +kernel
theorem dX6_readText_14 : decode cX6_readText 14 = .ok (.putfield 212, 3) := by decide +kernel
theorem dX6_readText_17 : decode cX6_readText 17 = .ok (.iconst 0, 1) := by decide +kernel
theorem dX6_readText_18 : decode cX6_readText 18 = .ok (.istore_n 1, 1) := by decide +kernel
theorem dX6_readText_19 : decode cX6_readText 19 = .ok (.iload_n 1, 1) := by decide +kernel
theorem dX6_readText_20 : decode cX6_readText 20 = .ok (.aload_n 0, 1) := by decide +kernel
theorem dX6_readText_21 : decode cX6_readText 21 = .ok (.getfield 209, 3) := by decide +kernel
theorem dX6_readText_24 : decode cX6_readText 24 = .ok (.if_icmp .ge 24, 3) := by decide +kernel
theorem dX6_readText_27 : decode cX6_readText 27 = .ok (.aload_n 0, 1) := by decide +kernel
theorem dX6_readText_28 : decode cX6_readText 28 = .ok (.aload_n 0, 1) := by decide +kernel
theorem dX6_readText_29 : decode cX6_readText 29 = .ok (.getfield 22, 3) := by decide +kernel
theorem dX6_readText_32 : decode cX6_readText 32 = .ok (.iload_n 1, 1) := by decide +kernel
theorem dX6_readText_33 : decode cX6_readText 33 = .ok (.iaload, 1) := by decide +kernel
theorem dX6_readText_34 : decode cX6_readText 34 = .ok (.invokevirtual 231, 3) := by decide +kernel
theorem dX6_readText_37 : decode cX6_readText 37 = .ok (.ifCond .ne 5, 3) := by decide +kernel
theorem dX6_readText_40 : decode cX6_readText 40 = .ok (.iload_n 1, 1) := by decide +kernel
theorem dX6_readText_41 : decode cX6_readText 41 = .ok (.ireturn, 1) := by decide +kernel
theorem dX6_readText_42 : decode cX6_readText 42 = .ok (.iinc 1 1, 3) := by decide +kernel
theorem dX6_readText_45 : decode cX6_readText 45 = .ok (.goto (-26), 3) := by decide +kernel
theorem dX6_readText_48 : decode cX6_readText 48 = .ok (.aload_n 0, 1) := by decide +kernel
theorem dX6_readText_49 : decode cX6_readText 49 = .ok (.getfield 212, 3) := by decide +kernel
theorem dX6_readText_52 : decode cX6_readText 52 = .ok (.ifCond .ne 10, 3) := by decide +kernel
theorem dX6_readText_55 : decode cX6_readText 55 = .ok (.aload_n 0, 1) := by decide +kernel
theorem dX6_readText_56 : decode cX6_readText 56 = .ok (.getfield 221, 3) := by decide +kernel
theorem dX6_readText_59 : decode cX6_readText 59 = .ok (.ifCond .ne 10, 3) := by decide +kernel
theorem dX6_readText_62 : decode cX6_readText 62 = .ok (.aload_n 0, 1) := by decide +kernel
theorem dX6_readText_63 : decode cX6_readText 63 = .ok (.getfield 209, 3) := by decide +kernel
theorem dX6_readText_66 : decode cX6_readText 66 = .ok (.goto 4, 3) := by decide +kernel
theorem dX6_readText_69 : decode cX6_readText 69 = .ok (.iconst (-1), 1) := by decide +kernel
theorem dX6_readText_70 : decode cX6_readText 70 = .ok (.ireturn, 1) := by decide +kernel
theorem dX6_doOrder_0 : decode cX6_doOrder 0 = .ok (.aload_n 0, 1) := by decide +kernel
theorem dX6_doOrder_1 : decode cX6_doOrder 1 = .ok (.getfield 28, 3) := by decide +kernel
theorem dX6_doOrder_4 : decode cX6_doOrder 4 = .ok (.iload_n 1, 1) := by decide +kernel
theorem dX6_doOrder_5 : decode cX6_doOrder 5 = .ok (.iaload, 1) := by decide +kernel
theorem dX6_doOrder_6 : decode cX6_doOrder 6 = .ok (.istore_n 2, 1) := by decide +kernel
theorem dX6_doOrder_7 : decode cX6_doOrder 7 = .ok (.aload_n 0, 1) := by decide +kernel
theorem dX6_doOrder_8 : decode cX6_doOrder 8 = .ok (.getfield 31, 3) := by decide +kernel
theorem dX6_doOrder_11 : decode cX6_doOrder 11 = .ok (.iload_n 2, 1) := by decide +kernel
theorem dX6_doOrder_12 : decode cX6_doOrder 12 = .ok (.iaload, 1) := by decide +kernel
theorem dX6_doOrder_13 : decode cX6_doOrder 13 = .ok (.istore_n 3, 1) := by decide +kernel
theorem dX6_doOrder_14 : decode cX6_doOrder 14 = .ok (.iload_n 2, 1) := by decide +kernel
theorem dX6_doOrder_15 : decode cX6_doOrder 15 = .ok (.iconst 1, 1) := by decide +kernel
theorem dX6_doOrder_16 : decode cX6_doOrder 16 = .ok (.iadd, 1) := by decide +kernel
theorem dX6_doOrder_17 : decode cX6_doOrder 17 = .ok (.bipush 120, 2) := by decide +kernel
theorem dX6_doOrder_19 : decode cX6_doOrder 19 = .ok (.if_icmp .ge 14, 3) := by decide +kernel
theorem dX6_doOrder_22 : decode cX6_doOrder 22 = .ok (.aload_n 0, 1) := by decide +kernel
theorem dX6_doOrder_23 : decode cX6_doOrder 23 = .ok (.getfield 31, 3) := by decide +kernel
theorem dX6_doOrder_26 : decode cX6_doOrder 26 = .ok (.iload_n 2, 1) := by decide +kernel
theorem dX6_doOrder_27 : decode cX6_doOrder 27 = .ok (.iconst 1, 1) := by decide +kernel
theorem dX6_doOrder_28 : decode cX6_doOrder 28 = .ok (.iadd, 1) := by decide +kernel
theorem dX6_doOrder_29 : decode cX6_doOrder 29 = .ok (.iaload, 1) := by decide +kernel
theorem dX6_doOrder_30 : decode cX6_doOrder 30 = .ok (.goto 4, 3) := by decide +kernel
theorem dX6_doOrder_33 : decode cX6_doOrder 33 = .ok (.iconst 0, 1) := by decide +kernel
theorem dX6_doOrder_34 : decode cX6_doOrder 34 = .ok (.istore 4, 2) := by decide +kernel
theorem dX6_doOrder_36 : decode cX6_doOrder 36 = .ok (.aload_n 0, 1) := by decide +kernel
theorem dX6_doOrder_37 : decode cX6_doOrder 37 = .ok (.getfield 25, 3) := by decide +kernel
theorem dX6_doOrder_40 : decode cX6_doOrder 40 = .ok (.iload_n 1, 1) := by decide +kernel
theorem dX6_doOrder_41 : decode cX6_doOrder 41 = .ok (.iaload, 1) := by decide +kernel
theorem dX6_doOrder_42 : decode cX6_doOrder 42 = .ok (.tableswitch 144 102 122 #[138, 144, 144, 144, 144, 144, 126, 144, 112, 132, 144, 98, 144, 144, 104, 144, 144, 144, 144, 144, 118], 98) := by decide +kernel
theorem dX6_doOrder_140 : decode cX6_doOrder 140 = .ok (.aload_n 0, 1) := by decide +kernel
theorem dX6_doOrder_141 : decode cX6_doOrder 141 = .ok (.iload_n 3, 1) := by decide +kernel
theorem dX6_doOrder_142 : decode cX6_doOrder 142 = .ok (.invokevirtual 93, 3) := by decide +kernel
theorem dX6_doOrder_145 : decode cX6_doOrder 145 = .ok (.ireturn, 1) := by decide +kernel
theorem dX6_doOrder_146 : decode cX6_doOrder 146 = .ok (.aload_n 0, 1) := by decide +kernel
theorem dX6_doOrder_147 : decode cX6_doOrder 147 = .ok (.iload_n 3, 1) := by decide +kernel
theorem dX6_doOrder_148 : decode cX6_doOrder 148 = .ok (.iload 4, 2) := by decide +kernel
theorem dX6_doOrder_150 : decode cX6_doOrder 150 = .ok (.invokevirtual 103, 3) := by decide +kernel
theorem dX6_doOrder_153 : decode cX6_doOrder 153 = .ok (.ireturn, 1) := by decide +kernel
theorem dX6_doOrder_154 : decode cX6_doOrder 154 = .ok (.aload_n 0, 1) := by decide +kernel
theorem dX6_doOrder_155 : decode cX6_doOrder 155 = .ok (.iload_n 3, 1) := by decide +kernel
theorem dX6_doOrder_156 : decode cX6_doOrder 156 = .ok (.invokevirtual 106, 3) := by decide +kernel
theorem dX6_doOrder_159 : decode cX6_doOrder 159 = .ok (.ireturn, 1) := by decide +kernel
theorem dX6_doOrder_160 : decode cX6_doOrder 160 = .ok (.aload_n 0, 1) := by decide +kernel
theorem dX6_doOrder_161 : decode cX6_doOrder 161 = .ok (.iload_n 3, 1) := by decide +kernel
theorem dX6_doOrder_162 : decode cX6_doOrder 162 = .ok (.iload 4, 2) := by decide +kernel
theorem dX6_doOrder_164 : decode cX6_doOrder 164 = .ok (.invokevirtual 109, 3) := by decide +kernel
theorem dX6_doOrder_167 : decode cX6_doOrder 167 = .ok (.ireturn, 1) := by decide +kernel
theorem dX6_doOrder_168 : decode cX6_doOrder 168 = .ok (.aload_n 0, 1) := by decide +kernel
theorem dX6_doOrder_169 : decode cX6_doOrder 169 = .ok (.iload_n 3, 1) := by decide +kernel
theorem dX6_doOrder_170 : decode cX6_doOrder 170 = .ok (.invokevirtual 112, 3) := by decide +kernel
theorem dX6_doOrder_173 : decode cX6_doOrder 173 = .ok (.ireturn, 1) := by decide +kernel
theorem dX6_doOrder_174 : decode cX6_doOrder 174 = .ok (.aload_n 0, 1) := by decide +kernel
theorem dX6_doOrder_175 : decode cX6_doOrder 175 = .ok (.iconst (-1), 1) := by decide +kernel
theorem dX6_doOrder_176 : decode cX6_doOrder 176 = .ok (.invokevirtual 112, 3) := by decide +kernel
theorem dX6_doOrder_179 : decode cX6_doOrder 179 = .ok (.ireturn, 1) := by decide +kernel
theorem dX6_doOrder_180 : decode cX6_doOrder 180 = .ok (.aload_n 0, 1) := by decide +kernel
theorem dX6_doOrder_181 : decode cX6_doOrder 181 = .ok (.iload_n 3, 1) := by decide +kernel
theorem dX6_doOrder_182 : decode cX6_doOrder 182 = .ok (.invokevirtual 115, 3) := by decide +kernel
theorem dX6_doOrder_185 : decode cX6_doOrder 185 = .ok (.ireturn, 1) := by decide +kernel
theorem dX6_doOrder_186 : decode cX6_doOrder 186 = .ok (.aload_n 0, 1) := by decide +kernel
theorem dX6_doOrder_187 : decode cX6_doOrder 187 = .ok (.invokevirtual 118, 3) := by decide +kernel
theorem dX6_doOrder_190 : decode cX6_doOrder 190 = .ok (.ireturn, 1) := by decide +kernel
theorem dX6_does_0 : decode cX6_does 0 = .ok (.aload_n 0, 1) := by decide +kernel
theorem dX6_does_1 : decode cX6_does 1 = .ok (.invokevirtual 234, 3) := by decide +kernel
theorem dX6_does_4 : decode cX6_does 4 = .ok (.istore_n 1, 1) := by decide +kernel
theorem dX6_does_5 : decode cX6_does 5 = .ok (.iload_n 1, 1) := by decide +kernel
theorem dX6_does_6 : decode cX6_does 6 = .ok (.iconst (-1), 1) := by decide +kernel
theorem dX6_does_7 : decode cX6_does 7 = .ok (.if_icmp .eq 8, 3) := by decide +kernel
theorem dX6_does_10 : decode cX6_does 10 = .ok (.bipush (-10), 2) := by decide +kernel
theorem dX6_does_12 : decode cX6_does 12 = .ok (.iload_n 1, 1) := by decide +kernel
theorem dX6_does_13 : decode cX6_does 13 = .ok (.isub, 1) := by decide +kernel
theorem dX6_does_14 : decode cX6_does 14 = .ok (.ireturn, 1) := by decide +kernel
theorem dX6_does_15 : decode cX6_does 15 = .ok (.aload_n 0, 1) := by decide +kernel
theorem dX6_does_16 : decode cX6_does 16 = .ok (.getfield 7, 3) := by decide +kernel
theorem dX6_does_19 : decode cX6_does 19 = .ok (.iconst 0, 1) := by decide +kernel
theorem dX6_does_20 : decode cX6_does 20 = .ok (.aload_n 0, 1) := by decide +kernel
theorem dX6_does_21 : decode cX6_does 21 = .ok (.getfield 47, 3) := by decide +kernel
theorem dX6_does_24 : decode cX6_does 24 = .ok (.iconst 0, 1) := by decide +kernel
theorem dX6_does_25 : decode cX6_does 25 = .ok (.invokestatic 50, 3) := by decide +kernel
theorem dX6_does_28 : decode cX6_does 28 = .ok (.iconst 0, 1) := by decide +kernel
theorem dX6_does_29 : decode cX6_does 29 = .ok (.istore_n 2, 1) := by decide +kernel
theorem dX6_does_30 : decode cX6_does 30 = .ok (.iload_n 2, 1) := by decide +kernel
theorem dX6_does_31 : decode cX6_does 31 = .ok (.aload_n 0, 1) := by decide +kernel
theorem dX6_does_32 : decode cX6_does 32 = .ok (.getfield 221, 3) := by decide +kernel
theorem dX6_does_35 : decode cX6_does 35 = .ok (.if_icmp .ge 38, 3) := by decide +kernel
theorem dX6_does_38 : decode cX6_does 38 = .ok (.aload_n 0, 1) := by decide +kernel
theorem dX6_does_39 : decode cX6_does 39 = .ok (.iload_n 2, 1) := by decide +kernel
theorem dX6_does_40 : decode cX6_does 40 = .ok (.invokevirtual 237, 3) := by decide +kernel
theorem dX6_does_43 : decode cX6_does 43 = .ok (.bipush (-2), 2) := by decide +kernel
theorem dX6_does_45 : decode cX6_does 45 = .ok (.if_icmp .gt 22, 3) := by decide +kernel
theorem dX6_does_48 : decode cX6_does 48 = .ok (.aload_n 0, 1) := by decide +kernel
theorem dX6_does_49 : decode cX6_does 49 = .ok (.getfield 47, 3) := by decide +kernel
theorem dX6_does_52 : decode cX6_does 52 = .ok (.iconst 0, 1) := by decide +kernel
theorem dX6_does_53 : decode cX6_does 53 = .ok (.aload_n 0, 1) := by decide +kernel
theorem dX6_does_54 : decode cX6_does 54 = .ok (.getfield 7, 3) := by decide +kernel
theorem dX6_does_57 : decode cX6_does 57 = .ok (.iconst 0, 1) := by decide +kernel
theorem dX6_does_58 : decode cX6_does 58 = .ok (.invokestatic 50, 3) := by decide +kernel
theorem dX6_does_61 : decode cX6_does 61 = .ok (.sipush (-1000), 3) := by decide +kernel
theorem dX6_does_64 : decode cX6_does 64 = .ok (.iload_n 2, 1) := by decide +kernel
theorem dX6_does_65 : decode cX6_does 65 = .ok (.isub, 1) := by decide +kernel
theorem dX6_does_66 : decode cX6_does 66 = .ok (.ireturn, 1) := by decide +kernel
theorem dX6_does_67 : decode cX6_does 67 = .ok (.iinc 2 1, 3) := by decide +kernel
theorem dX6_does_70 : decode cX6_does 70 = .ok (.goto (-40), 3) := by decide +kernel
theorem dX6_does_73 : decode cX6_does 73 = .ok (.aload_n 0, 1) := by decide +kernel
theorem dX6_does_74 : decode cX6_does 74 = .ok (.getfield 47, 3) := by decide +kernel
theorem dX6_does_77 : decode cX6_does 77 = .ok (.iconst 0, 1) := by decide +kernel
theorem dX6_does_78 : decode cX6_does 78 = .ok (.aload_n 0, 1) := by decide +kernel
theorem dX6_does_79 : decode cX6_does 79 = .ok (.getfield 13, 3) := by decide +kernel
theorem dX6_does_82 : decode cX6_does 82 = .ok (.iconst 0, 1) := by decide +kernel
theorem dX6_does_83 : decode cX6_does 83 = .ok (.invokestatic 50, 3) := by decide +kernel
theorem dX6_does_86 : decode cX6_does 86 = .ok (.aload_n 0, 1) := by decide +kernel
theorem dX6_does_87 : decode cX6_does 87 = .ok (.aload_n 0, 1) := by decide +kernel
theorem dX6_does_88 : decode cX6_does 88 = .ok (.getfield 221, 3) := by decide +kernel
theorem dX6_does_91 : decode cX6_does 91 = .ok (.invokevirtual 96, 3) := by decide +kernel
theorem dX6_does_94 : decode cX6_does 94 = .ok (.ireturn, 1) := by decide +kernel
theorem dX6_back_0 : decode cX6_back 0 = .ok (.aload_n 0, 1) := by decide +kernel
theorem dX6_back_1 : decode cX6_back 1 = .ok (.getfield 58, 3) := by decide +kernel
theorem dX6_back_4 : decode cX6_back 4 = .ok (.ifCond .ne 10, 3) := by decide +kernel
theorem dX6_back_7 : decode cX6_back 7 = .ok (.aload_n 0, 1) := by decide +kernel
theorem dX6_back_8 : decode cX6_back 8 = .ok (.bipush (-3), 2) := by decide +kernel
theorem dX6_back_10 : decode cX6_back 10 = .ok (.invokevirtual 54, 3) := by decide +kernel
theorem dX6_back_13 : decode cX6_back 13 = .ok (.ireturn, 1) := by decide +kernel
theorem dX6_back_14 : decode cX6_back 14 = .ok (.aload_n 0, 1) := by decide +kernel
theorem dX6_back_15 : decode cX6_back 15 = .ok (.dup, 1) := by decide +kernel
theorem dX6_back_16 : decode cX6_back 16 = .ok (.getfield 58, 3) := by decide +kernel
theorem dX6_back_19 : decode cX6_back 19 = .ok (.iconst 1, 1) := by decide +kernel
theorem dX6_back_20 : decode cX6_back 20 = .ok (.isub, 1) := by decide +kernel
theorem dX6_back_21 : decode cX6_back 21 = .ok (.putfield 58, 3) := by decide +kernel
theorem dX6_back_24 : decode cX6_back 24 = .ok (.aload_n 0, 1) := by decide +kernel
theorem dX6_back_25 : decode cX6_back 25 = .ok (.getfield 16, 3) := by decide +kernel
theorem dX6_back_28 : decode cX6_back 28 = .ok (.bipush 31, 2) := by decide +kernel
theorem dX6_back_30 : decode cX6_back 30 = .ok (.aload_n 0, 1) := by decide +kernel
theorem dX6_back_31 : decode cX6_back 31 = .ok (.getfield 58, 3) := by decide +kernel
theorem dX6_back_34 : decode cX6_back 34 = .ok (.imul, 1) := by decide +kernel
theorem dX6_back_35 : decode cX6_back 35 = .ok (.aload_n 0, 1) := by decide +kernel
theorem dX6_back_36 : decode cX6_back 36 = .ok (.getfield 7, 3) := by decide +kernel
theorem dX6_back_39 : decode cX6_back 39 = .ok (.iconst 0, 1) := by decide +kernel
theorem dX6_back_40 : decode cX6_back 40 = .ok (.invokestatic 50, 3) := by decide +kernel
theorem dX6_back_43 : decode cX6_back 43 = .ok (.aload_n 0, 1) := by decide +kernel
theorem dX6_back_44 : decode cX6_back 44 = .ok (.getfield 58, 3) := by decide +kernel
theorem dX6_back_47 : decode cX6_back 47 = .ok (.ireturn, 1) := by decide +kernel
theorem dX6_toldOf_0 : decode cX6_toldOf 0 = .ok (.iload_n 1, 1) := by decide +kernel
theorem dX6_toldOf_1 : decode cX6_toldOf 1 = .ok (.iconst 3, 1) := by decide +kernel
theorem dX6_toldOf_2 : decode cX6_toldOf 2 = .ok (.if_icmp .ge 12, 3) := by decide +kernel
theorem dX6_toldOf_5 : decode cX6_toldOf 5 = .ok (.aload_n 0, 1) := by decide +kernel
theorem dX6_toldOf_6 : decode cX6_toldOf 6 = .ok (.getfield 19, 3) := by decide +kernel
theorem dX6_toldOf_9 : decode cX6_toldOf 9 = .ok (.iload_n 1, 1) := by decide +kernel
theorem dX6_toldOf_10 : decode cX6_toldOf 10 = .ok (.iaload, 1) := by decide +kernel
theorem dX6_toldOf_11 : decode cX6_toldOf 11 = .ok (.goto 19, 3) := by decide +kernel
theorem dX6_toldOf_14 : decode cX6_toldOf 14 = .ok (.iload_n 1, 1) := by decide +kernel
theorem dX6_toldOf_15 : decode cX6_toldOf 15 = .ok (.iconst 3, 1) := by decide +kernel
theorem dX6_toldOf_16 : decode cX6_toldOf 16 = .ok (.if_icmp .ne 10, 3) := by decide +kernel
theorem dX6_toldOf_19 : decode cX6_toldOf 19 = .ok (.aload_n 0, 1) := by decide +kernel
theorem dX6_toldOf_20 : decode cX6_toldOf 20 = .ok (.getfield 209, 3) := by decide +kernel
theorem dX6_toldOf_23 : decode cX6_toldOf 23 = .ok (.goto 7, 3) := by decide +kernel
theorem dX6_toldOf_26 : decode cX6_toldOf 26 = .ok (.aload_n 0, 1) := by decide +kernel
theorem dX6_toldOf_27 : decode cX6_toldOf 27 = .ok (.getfield 58, 3) := by decide +kernel
theorem dX6_toldOf_30 : decode cX6_toldOf 30 = .ok (.ireturn, 1) := by decide +kernel
theorem dX6_told_0 : decode cX6_told 0 = .ok (.iload_n 1, 1) := by decide +kernel
theorem dX6_told_1 : decode cX6_told 1 = .ok (.i2l, 1) := by decide +kernel
theorem dX6_told_2 : decode cX6_told 2 = .ok (.lconst 0, 1) := by decide +kernel
theorem dX6_told_3 : decode cX6_told 3 = .ok (.ldc2_w 240, 3) := by decide +kernel
theorem dX6_told_6 : decode cX6_told 6 = .ok (.invokestatic 62, 3) := by decide +kernel
theorem dX6_told_9 : decode cX6_told 9 = .ok (.ifCond .eq 11, 3) := by decide +kernel
theorem dX6_told_12 : decode cX6_told 12 = .ok (.aload_n 0, 1) := by decide +kernel
theorem dX6_told_13 : decode cX6_told 13 = .ok (.iload_n 1, 1) := by decide +kernel
theorem dX6_told_14 : decode cX6_told 14 = .ok (.invokevirtual 242, 3) := by decide +kernel
theorem dX6_told_17 : decode cX6_told 17 = .ok (.goto 9, 3) := by decide +kernel
theorem dX6_told_20 : decode cX6_told 20 = .ok (.aload_n 0, 1) := by decide +kernel
theorem dX6_told_21 : decode cX6_told 21 = .ok (.bipush (-2), 2) := by decide +kernel
theorem dX6_told_23 : decode cX6_told 23 = .ok (.invokevirtual 54, 3) := by decide +kernel
theorem dX6_told_26 : decode cX6_told 26 = .ok (.ireturn, 1) := by decide +kernel
theorem dX6_digest_0 : decode cX6_digest 0 = .ok (.ldc2_w 245, 3) := by decide +kernel
theorem dX6_digest_3 : decode cX6_digest 3 = .ok (.lstore_n 1, 1) := by decide +kernel
theorem dX6_digest_4 : decode cX6_digest 4 = .ok (.iconst 0, 1) := by decide +kernel
theorem dX6_digest_5 : decode cX6_digest 5 = .ok (.istore_n 3, 1) := by decide +kernel
theorem dX6_digest_6 : decode cX6_digest 6 = .ok (.iload_n 3, 1) := by decide +kernel
theorem dX6_digest_7 : decode cX6_digest 7 = .ok (.iconst 5, 1) := by decide +kernel
theorem dX6_digest_8 : decode cX6_digest 8 = .ok (.if_icmp .ge 22, 3) := by decide +kernel
theorem dX6_digest_11 : decode cX6_digest 11 = .ok (.ldc2_w 247, 3) := by decide +kernel
theorem dX6_digest_14 : decode cX6_digest 14 = .ok (.lload_n 1, 1) := by decide +kernel
theorem dX6_digest_15 : decode cX6_digest 15 = .ok (.lmul, 1) := by decide +kernel
theorem dX6_digest_16 : decode cX6_digest 16 = .ok (.aload_n 0, 1) := by decide +kernel
theorem dX6_digest_17 : decode cX6_digest 17 = .ok (.iload_n 3, 1) := by decide +kernel
theorem dX6_digest_18 : decode cX6_digest 18 = .ok (.invokevirtual 242, 3) := by decide +kernel
theorem dX6_digest_21 : decode cX6_digest 21 = .ok (.i2l, 1) := by decide +kernel
theorem dX6_digest_22 : decode cX6_digest 22 = .ok (.ladd, 1) := by decide +kernel
theorem dX6_digest_23 : decode cX6_digest 23 = .ok (.lstore_n 1, 1) := by decide +kernel
theorem dX6_digest_24 : decode cX6_digest 24 = .ok (.iinc 3 1, 3) := by decide +kernel
theorem dX6_digest_27 : decode cX6_digest 27 = .ok (.goto (-21), 3) := by decide +kernel
theorem dX6_digest_30 : decode cX6_digest 30 = .ok (.iconst 0, 1) := by decide +kernel
theorem dX6_digest_31 : decode cX6_digest 31 = .ok (.istore_n 3, 1) := by decide +kernel
theorem dX6_digest_32 : decode cX6_digest 32 = .ok (.iload_n 3, 1) := by decide +kernel
theorem dX6_digest_33 : decode cX6_digest 33 = .ok (.bipush 6, 2) := by decide +kernel
theorem dX6_digest_35 : decode cX6_digest 35 = .ok (.if_icmp .ge 22, 3) := by decide +kernel
theorem dX6_digest_38 : decode cX6_digest 38 = .ok (.ldc2_w 247, 3) := by decide +kernel
theorem dX6_digest_41 : decode cX6_digest 41 = .ok (.lload_n 1, 1) := by decide +kernel
theorem dX6_digest_42 : decode cX6_digest 42 = .ok (.lmul, 1) := by decide +kernel
theorem dX6_digest_43 : decode cX6_digest 43 = .ok (.aload_n 0, 1) := by decide +kernel
theorem dX6_digest_44 : decode cX6_digest 44 = .ok (.iload_n 3, 1) := by decide +kernel
theorem dX6_digest_45 : decode cX6_digest 45 = .ok (.invokevirtual 138, 3) := by decide +kernel
theorem dX6_digest_48 : decode cX6_digest 48 = .ok (.i2l, 1) := by decide +kernel
theorem dX6_digest_49 : decode cX6_digest 49 = .ok (.ladd, 1) := by decide +kernel
theorem dX6_digest_50 : decode cX6_digest 50 = .ok (.lstore_n 1, 1) := by decide +kernel
theorem dX6_digest_51 : decode cX6_digest 51 = .ok (.iinc 3 1, 3) := by decide +kernel
theorem dX6_digest_54 : decode cX6_digest 54 = .ok (.goto (-22), 3) := by decide +kernel
theorem dX6_digest_57 : decode cX6_digest 57 = .ok (.aload_n 0, 1) := by decide +kernel
theorem dX6_digest_58 : decode cX6_digest 58 = .ok (.invokevirtual 204, 3) := by decide +kernel
theorem dX6_digest_61 : decode cX6_digest 61 = .ok (.iconst 0, 1) := by decide +kernel
theorem dX6_digest_62 : decode cX6_digest 62 = .ok (.istore_n 3, 1) := by decide +kernel
theorem dX6_digest_63 : decode cX6_digest 63 = .ok (.iload_n 3, 1) := by decide +kernel
theorem dX6_digest_64 : decode cX6_digest 64 = .ok (.aload_n 0, 1) := by decide +kernel
theorem dX6_digest_65 : decode cX6_digest 65 = .ok (.getfield 7, 3) := by decide +kernel
theorem dX6_digest_68 : decode cX6_digest 68 = .ok (.iconst 0, 1) := by decide +kernel
theorem dX6_digest_69 : decode cX6_digest 69 = .ok (.iaload, 1) := by decide +kernel
theorem dX6_digest_70 : decode cX6_digest 70 = .ok (.if_icmp .ge 53, 3) := by decide +kernel
theorem dX6_digest_73 : decode cX6_digest 73 = .ok (.iconst 0, 1) := by decide +kernel
theorem dX6_digest_74 : decode cX6_digest 74 = .ok (.istore 4, 2) := by decide +kernel
theorem dX6_digest_76 : decode cX6_digest 76 = .ok (.iload 4, 2) := by decide +kernel
theorem dX6_digest_78 : decode cX6_digest 78 = .ok (.iconst 4, 1) := by decide +kernel
theorem dX6_digest_79 : decode cX6_digest 79 = .ok (.if_icmp .ge 24, 3) := by decide +kernel
theorem dX6_digest_82 : decode cX6_digest 82 = .ok (.ldc2_w 247, 3) := by decide +kernel
theorem dX6_digest_85 : decode cX6_digest 85 = .ok (.lload_n 1, 1) := by decide +kernel
theorem dX6_digest_86 : decode cX6_digest 86 = .ok (.lmul, 1) := by decide +kernel
theorem dX6_digest_87 : decode cX6_digest 87 = .ok (.aload_n 0, 1) := by decide +kernel
theorem dX6_digest_88 : decode cX6_digest 88 = .ok (.iload_n 3, 1) := by decide +kernel
theorem dX6_digest_89 : decode cX6_digest 89 = .ok (.iload 4, 2) := by decide +kernel
theorem dX6_digest_91 : decode cX6_digest 91 = .ok (.invokevirtual 127, 3) := by decide +kernel
theorem dX6_digest_94 : decode cX6_digest 94 = .ok (.i2l, 1) := by decide +kernel
theorem dX6_digest_95 : decode cX6_digest 95 = .ok (.ladd, 1) := by decide +kernel
theorem dX6_digest_96 : decode cX6_digest 96 = .ok (.lstore_n 1, 1) := by decide +kernel
theorem dX6_digest_97 : decode cX6_digest 97 = .ok (.iinc 4 1, 3) := by decide +kernel
theorem dX6_digest_100 : decode cX6_digest 100 = .ok (.goto (-24), 3) := by decide +kernel
theorem dX6_digest_103 : decode cX6_digest 103 = .ok (.ldc2_w 247, 3) := by decide +kernel
theorem dX6_digest_106 : decode cX6_digest 106 = .ok (.lload_n 1, 1) := by decide +kernel
theorem dX6_digest_107 : decode cX6_digest 107 = .ok (.lmul, 1) := by decide +kernel
theorem dX6_digest_108 : decode cX6_digest 108 = .ok (.aload_n 0, 1) := by decide +kernel
theorem dX6_digest_109 : decode cX6_digest 109 = .ok (.getfield 44, 3) := by decide +kernel
theorem dX6_digest_112 : decode cX6_digest 112 = .ok (.iload_n 3, 1) := by decide +kernel
theorem dX6_digest_113 : decode cX6_digest 113 = .ok (.iaload, 1) := by decide +kernel
theorem dX6_digest_114 : decode cX6_digest 114 = .ok (.i2l, 1) := by decide +kernel
theorem dX6_digest_115 : decode cX6_digest 115 = .ok (.ladd, 1) := by decide +kernel
theorem dX6_digest_116 : decode cX6_digest 116 = .ok (.lstore_n 1, 1) := by decide +kernel
theorem dX6_digest_117 : decode cX6_digest 117 = .ok (.iinc 3 1, 3) := by decide +kernel
theorem dX6_digest_120 : decode cX6_digest 120 = .ok (.goto (-57), 3) := by decide +kernel
theorem dX6_digest_123 : decode cX6_digest 123 = .ok (.iconst 0, 1) := by decide +kernel
theorem dX6_digest_124 : decode cX6_digest 124 = .ok (.istore_n 3, 1) := by decide +kernel
theorem dX6_digest_125 : decode cX6_digest 125 = .ok (.iload_n 3, 1) := by decide +kernel
theorem dX6_digest_126 : decode cX6_digest 126 = .ok (.iconst 3, 1) := by decide +kernel
theorem dX6_digest_127 : decode cX6_digest 127 = .ok (.if_icmp .ge 39, 3) := by decide +kernel
theorem dX6_digest_130 : decode cX6_digest 130 = .ok (.iconst 0, 1) := by decide +kernel
theorem dX6_digest_131 : decode cX6_digest 131 = .ok (.istore 4, 2) := by decide +kernel
theorem dX6_digest_133 : decode cX6_digest 133 = .ok (.iload 4, 2) := by decide +kernel
theorem dX6_digest_135 : decode cX6_digest 135 = .ok (.iconst 3, 1) := by decide +kernel
theorem dX6_digest_136 : decode cX6_digest 136 = .ok (.if_icmp .ge 24, 3) := by decide +kernel
theorem dX6_digest_139 : decode cX6_digest 139 = .ok (.ldc2_w 247, 3) := by decide +kernel
theorem dX6_digest_142 : decode cX6_digest 142 = .ok (.lload_n 1, 1) := by decide +kernel
theorem dX6_digest_143 : decode cX6_digest 143 = .ok (.lmul, 1) := by decide +kernel
theorem dX6_digest_144 : decode cX6_digest 144 = .ok (.aload_n 0, 1) := by decide +kernel
theorem dX6_digest_145 : decode cX6_digest 145 = .ok (.iload_n 3, 1) := by decide +kernel
theorem dX6_digest_146 : decode cX6_digest 146 = .ok (.iload 4, 2) := by decide +kernel
theorem dX6_digest_148 : decode cX6_digest 148 = .ok (.invokevirtual 133, 3) := by decide +kernel
theorem dX6_digest_151 : decode cX6_digest 151 = .ok (.i2l, 1) := by decide +kernel
theorem dX6_digest_152 : decode cX6_digest 152 = .ok (.ladd, 1) := by decide +kernel
theorem dX6_digest_153 : decode cX6_digest 153 = .ok (.lstore_n 1, 1) := by decide +kernel
theorem dX6_digest_154 : decode cX6_digest 154 = .ok (.iinc 4 1, 3) := by decide +kernel
theorem dX6_digest_157 : decode cX6_digest 157 = .ok (.goto (-24), 3) := by decide +kernel
theorem dX6_digest_160 : decode cX6_digest 160 = .ok (.iinc 3 1, 3) := by decide +kernel
theorem dX6_digest_163 : decode cX6_digest 163 = .ok (.goto (-38), 3) := by decide +kernel
theorem dX6_digest_166 : decode cX6_digest 166 = .ok (.aload_n 0, 1) := by decide +kernel
theorem dX6_digest_167 : decode cX6_digest 167 = .ok (.invokevirtual 86, 3) := by decide +kernel
theorem dX6_digest_170 : decode cX6_digest 170 = .ok (.istore_n 3, 1) := by decide +kernel
theorem dX6_digest_171 : decode cX6_digest 171 = .ok (.ldc2_w 247, 3) := by decide +kernel
theorem dX6_digest_174 : decode cX6_digest 174 = .ok (.lload_n 1, 1) := by decide +kernel
theorem dX6_digest_175 : decode cX6_digest 175 = .ok (.lmul, 1) := by decide +kernel
theorem dX6_digest_176 : decode cX6_digest 176 = .ok (.iload_n 3, 1) := by decide +kernel
theorem dX6_digest_177 : decode cX6_digest 177 = .ok (.ifCond .eq 7, 3) := by decide +kernel
theorem dX6_digest_180 : decode cX6_digest 180 = .ok (.iconst 1, 1) := by decide +kernel
theorem dX6_digest_181 : decode cX6_digest 181 = .ok (.goto 4, 3) := by decide +kernel
theorem dX6_digest_184 : decode cX6_digest 184 = .ok (.iconst 0, 1) := by decide +kernel
theorem dX6_digest_185 : decode cX6_digest 185 = .ok (.i2l, 1) := by decide +kernel
theorem dX6_digest_186 : decode cX6_digest 186 = .ok (.ladd, 1) := by decide +kernel
theorem dX6_digest_187 : decode cX6_digest 187 = .ok (.lstore_n 1, 1) := by decide +kernel
theorem dX6_digest_188 : decode cX6_digest 188 = .ok (.iconst 0, 1) := by decide +kernel
theorem dX6_digest_189 : decode cX6_digest 189 = .ok (.istore 4, 2) := by decide +kernel
theorem dX6_digest_191 : decode cX6_digest 191 = .ok (.iload 4, 2) := by decide +kernel
theorem dX6_digest_193 : decode cX6_digest 193 = .ok (.aload_n 0, 1) := by decide +kernel
theorem dX6_digest_194 : decode cX6_digest 194 = .ok (.getfield 7, 3) := by decide +kernel
theorem dX6_digest_197 : decode cX6_digest 197 = .ok (.iconst 0, 1) := by decide +kernel
theorem dX6_digest_198 : decode cX6_digest 198 = .ok (.iaload, 1) := by decide +kernel
theorem dX6_digest_199 : decode cX6_digest 199 = .ok (.if_icmp .ge 32, 3) := by decide +kernel
theorem dX6_digest_202 : decode cX6_digest 202 = .ok (.iload_n 3, 1) := by decide +kernel
theorem dX6_digest_203 : decode cX6_digest 203 = .ok (.ifCond .eq 28, 3) := by decide +kernel
theorem dX6_digest_206 : decode cX6_digest 206 = .ok (.ldc2_w 247, 3) := by decide +kernel
theorem dX6_digest_209 : decode cX6_digest 209 = .ok (.lload_n 1, 1) := by decide +kernel
theorem dX6_digest_210 : decode cX6_digest 210 = .ok (.lmul, 1) := by decide +kernel
theorem dX6_digest_211 : decode cX6_digest 211 = .ok (.aload_n 0, 1) := by decide +kernel
theorem dX6_digest_212 : decode cX6_digest 212 = .ok (.getfield 41, 3) := by decide +kernel
theorem dX6_digest_215 : decode cX6_digest 215 = .ok (.iload 4, 2) := by decide +kernel
theorem dX6_digest_217 : decode cX6_digest 217 = .ok (.iaload, 1) := by decide +kernel
theorem dX6_digest_218 : decode cX6_digest 218 = .ok (.i2l, 1) := by decide +kernel
theorem dX6_digest_219 : decode cX6_digest 219 = .ok (.ladd, 1) := by decide +kernel
theorem dX6_digest_220 : decode cX6_digest 220 = .ok (.ldc2_w 249, 3) := by decide +kernel
theorem dX6_digest_223 : decode cX6_digest 223 = .ok (.ladd, 1) := by decide +kernel
theorem dX6_digest_224 : decode cX6_digest 224 = .ok (.lstore_n 1, 1) := by decide +kernel
theorem dX6_digest_225 : decode cX6_digest 225 = .ok (.iinc 4 1, 3) := by decide +kernel
theorem dX6_digest_228 : decode cX6_digest 228 = .ok (.goto (-37), 3) := by decide +kernel
theorem dX6_digest_231 : decode cX6_digest 231 = .ok (.iconst 0, 1) := by decide +kernel
theorem dX6_digest_232 : decode cX6_digest 232 = .ok (.istore 4, 2) := by decide +kernel
theorem dX6_digest_234 : decode cX6_digest 234 = .ok (.iload 4, 2) := by decide +kernel
theorem dX6_digest_236 : decode cX6_digest 236 = .ok (.iconst 2, 1) := by decide +kernel
theorem dX6_digest_237 : decode cX6_digest 237 = .ok (.if_icmp .ge 30, 3) := by decide +kernel
theorem dX6_digest_240 : decode cX6_digest 240 = .ok (.iload_n 3, 1) := by decide +kernel
theorem dX6_digest_241 : decode cX6_digest 241 = .ok (.ifCond .eq 26, 3) := by decide +kernel
theorem dX6_digest_244 : decode cX6_digest 244 = .ok (.ldc2_w 247, 3) := by decide +kernel
theorem dX6_digest_247 : decode cX6_digest 247 = .ok (.lload_n 1, 1) := by decide +kernel
theorem dX6_digest_248 : decode cX6_digest 248 = .ok (.lmul, 1) := by decide +kernel
theorem dX6_digest_249 : decode cX6_digest 249 = .ok (.aload_n 0, 1) := by decide +kernel
theorem dX6_digest_250 : decode cX6_digest 250 = .ok (.iload 4, 2) := by decide +kernel
theorem dX6_digest_252 : decode cX6_digest 252 = .ok (.aload_n 0, 1) := by decide +kernel
theorem dX6_digest_253 : decode cX6_digest 253 = .ok (.getfield 41, 3) := by decide +kernel
theorem dX6_digest_256 : decode cX6_digest 256 = .ok (.invokevirtual 194, 3) := by decide +kernel
theorem dX6_digest_259 : decode cX6_digest 259 = .ok (.ladd, 1) := by decide +kernel
theorem dX6_digest_260 : decode cX6_digest 260 = .ok (.lstore_n 1, 1) := by decide +kernel
theorem dX6_digest_261 : decode cX6_digest 261 = .ok (.iinc 4 1, 3) := by decide +kernel
theorem dX6_digest_264 : decode cX6_digest 264 = .ok (.goto (-30), 3) := by decide +kernel
theorem dX6_digest_267 : decode cX6_digest 267 = .ok (.iconst 0, 1) := by decide +kernel
theorem dX6_digest_268 : decode cX6_digest 268 = .ok (.istore 4, 2) := by decide +kernel
theorem dX6_digest_270 : decode cX6_digest 270 = .ok (.iload 4, 2) := by decide +kernel
theorem dX6_digest_272 : decode cX6_digest 272 = .ok (.iconst 2, 1) := by decide +kernel
theorem dX6_digest_273 : decode cX6_digest 273 = .ok (.if_icmp .ge 26, 3) := by decide +kernel
theorem dX6_digest_276 : decode cX6_digest 276 = .ok (.ldc2_w 247, 3) := by decide +kernel
theorem dX6_digest_279 : decode cX6_digest 279 = .ok (.lload_n 1, 1) := by decide +kernel
theorem dX6_digest_280 : decode cX6_digest 280 = .ok (.lmul, 1) := by decide +kernel
theorem dX6_digest_281 : decode cX6_digest 281 = .ok (.aload_n 0, 1) := by decide +kernel
theorem dX6_digest_282 : decode cX6_digest 282 = .ok (.iload 4, 2) := by decide +kernel
theorem dX6_digest_284 : decode cX6_digest 284 = .ok (.aload_n 0, 1) := by decide +kernel
theorem dX6_digest_285 : decode cX6_digest 285 = .ok (.getfield 44, 3) := by decide +kernel
theorem dX6_digest_288 : decode cX6_digest 288 = .ok (.invokevirtual 194, 3) := by decide +kernel
theorem dX6_digest_291 : decode cX6_digest 291 = .ok (.ladd, 1) := by decide +kernel
theorem dX6_digest_292 : decode cX6_digest 292 = .ok (.lstore_n 1, 1) := by decide +kernel
theorem dX6_digest_293 : decode cX6_digest 293 = .ok (.iinc 4 1, 3) := by decide +kernel
theorem dX6_digest_296 : decode cX6_digest 296 = .ok (.goto (-26), 3) := by decide +kernel
theorem dX6_digest_299 : decode cX6_digest 299 = .ok (.lload_n 1, 1) := by decide +kernel
theorem dX6_digest_300 : decode cX6_digest 300 = .ok (.lreturn, 1) := by decide +kernel
