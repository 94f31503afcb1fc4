theorem dX0_init_0 : decode cX0_init 0 = .ok (.aload_n 0, 1) := by decide +kernel
theorem dX0_init_1 : decode cX0_init 1 = .ok (.invokespecial 3, 3) := by decide +kernel
theorem dX0_init_4 : decode cX0_init 4 = .ok (.aload_n 0, 1) := by decide +kernel
theorem dX0_init_5 : decode cX0_init 5 = .ok (.new 9, 3) := by decide +kernel
theorem dX0_init_8 : decode cX0_init 8 = .ok (.dup, 1) := by decide +kernel
theorem dX0_init_9 : decode cX0_init 9 = .ok (.invokespecial 11, 3) := by decide +kernel
theorem dX0_init_12 : decode cX0_init 12 = .ok (.putfield 12, 3) := by decide +kernel
theorem dX0_init_15 : decode cX0_init 15 = .ok (.aload_n 0, 1) := by decide +kernel
theorem dX0_init_16 : decode cX0_init 16 = .ok (.sipush 3468, 3) := by decide +kernel
theorem dX0_init_19 : decode cX0_init 19 = .ok (.newarray .long, 2) := by decide +kernel
theorem dX0_init_21 : decode cX0_init 21 = .ok (.putfield 18, 3) := by decide +kernel
theorem dX0_init_24 : decode cX0_init 24 = .ok (.aload_n 0, 1) := by decide +kernel
theorem dX0_init_25 : decode cX0_init 25 = .ok (.sipush 3468, 3) := by decide +kernel
theorem dX0_init_28 : decode cX0_init 28 = .ok (.newarray .int, 2) := by decide +kernel
theorem dX0_init_30 : decode cX0_init 30 = .ok (.putfield 22, 3) := by decide +kernel
theorem dX0_init_33 : decode cX0_init 33 = .ok (.aload_n 0, 1) := by decide +kernel
theorem dX0_init_34 : decode cX0_init 34 = .ok (.bipush 17, 2) := by decide +kernel
theorem dX0_init_36 : decode cX0_init 36 = .ok (.newarray .long, 2) := by decide +kernel
theorem dX0_init_38 : decode cX0_init 38 = .ok (.putfield 26, 3) := by decide +kernel
theorem dX0_init_41 : decode cX0_init 41 = .ok (.aload_n 0, 1) := by decide +kernel
theorem dX0_init_42 : decode cX0_init 42 = .ok (.lconst 0, 1) := by decide +kernel
theorem dX0_init_43 : decode cX0_init 43 = .ok (.putfield 29, 3) := by decide +kernel
theorem dX0_init_46 : decode cX0_init 46 = .ok (.aload_n 0, 1) := by decide +kernel
theorem dX0_init_47 : decode cX0_init 47 = .ok (.iconst 0, 1) := by decide +kernel
theorem dX0_init_48 : decode cX0_init 48 = .ok (.putfield 33, 3) := by decide +kernel
theorem dX0_init_51 : decode cX0_init 51 = .ok (.aload_n 0, 1) := by decide +kernel
theorem dX0_init_52 : decode cX0_init 52 = .ok (.iconst 0, 1) := by decide +kernel
theorem dX0_init_53 : decode cX0_init 53 = .ok (.putfield 37, 3) := by decide +kernel
theorem dX0_init_56 : decode cX0_init 56 = .ok (.aload_n 0, 1) := by decide +kernel
theorem dX0_init_57 : decode cX0_init 57 = .ok (.iconst 0, 1) := by decide +kernel
theorem dX0_init_58 : decode cX0_init 58 = .ok (.putfield 40, 3) := by decide +kernel
theorem dX0_init_61 : decode cX0_init 61 = .ok (.aload_n 0, 1) := by decide +kernel
theorem dX0_init_62 : decode cX0_init 62 = .ok (.iconst 0, 1) := by decide +kernel
theorem dX0_init_63 : decode cX0_init 63 = .ok (.putfield 44, 3) := by decide +kernel
theorem dX0_init_66 : decode cX0_init 66 = .ok (.aload_n 0, 1) := by decide +kernel
theorem dX0_init_67 : decode cX0_init 67 = .ok (.bipush 12, 2) := by decide +kernel
theorem dX0_init_69 : decode cX0_init 69 = .ok (.newarray .int, 2) := by decide +kernel
theorem dX0_init_71 : decode cX0_init 71 = .ok (.putfield 47, 3) := by decide +kernel
theorem dX0_init_74 : decode cX0_init 74 = .ok (.aload_n 0, 1) := by decide +kernel
theorem dX0_init_75 : decode cX0_init 75 = .ok (.iconst 0, 1) := by decide +kernel
theorem dX0_init_76 : decode cX0_init 76 = .ok (.putfield 50, 3) := by decide +kernel
theorem dX0_init_79 : decode cX0_init 79 = .ok (.return_, 1) := by decide +kernel
theorem dX0_forgets_0 : decode cX0_forgets 0 = .ok (.aload_n 0, 1) := by decide +kernel
theorem dX0_forgets_1 : decode cX0_forgets 1 = .ok (.iconst 0, 1) := by decide +kernel
theorem dX0_forgets_2 : decode cX0_forgets 2 = .ok (.putfield 40, 3) := by decide +kernel
theorem dX0_forgets_5 : decode cX0_forgets 5 = .ok (.return_, 1) := by decide +kernel
theorem dX0_meetsWithin_0 : decode cX0_meetsWithin 0 = .ok (.aload_n 0, 1) := by decide +kernel
theorem dX0_meetsWithin_1 : decode cX0_meetsWithin 1 = .ok (.getfield 12, 3) := by decide +kernel
theorem dX0_meetsWithin_4 : decode cX0_meetsWithin 4 = .ok (.aload_n 1, 1) := by decide +kernel
theorem dX0_meetsWithin_5 : decode cX0_meetsWithin 5 = .ok (.iload_n 2, 1) := by decide +kernel
theorem dX0_meetsWithin_6 : decode cX0_meetsWithin 6 = .ok (.iconst (-1), 1) := by decide +kernel
theorem dX0_meetsWithin_7 : decode cX0_meetsWithin 7 = .ok (.invokevirtual 53, 3) := by decide +kernel
theorem dX0_meetsWithin_10 : decode cX0_meetsWithin 10 = .ok (.ireturn, 1) := by decide +kernel
theorem dX0_bends_0 : decode cX0_bends 0 = .ok (.aload_n 0, 1) := by decide +kernel
theorem dX0_bends_1 : decode cX0_bends 1 = .ok (.getfield 40, 3) := by decide +kernel
theorem dX0_bends_4 : decode cX0_bends 4 = .ok (.ifCond .ne 50, 3) := by decide +kernel
theorem dX0_bends_7 : decode cX0_bends 7 = .ok (.aload_n 0, 1) := by decide +kernel
theorem dX0_bends_8 : decode cX0_bends 8 = .ok (.iconst 1, 1) := by decide +kernel
theorem dX0_bends_9 : decode cX0_bends 9 = .ok (.putfield 40, 3) := by decide +kernel
theorem dX0_bends_12 : decode cX0_bends 12 = .ok (.aload_n 0, 1) := by decide +kernel
theorem dX0_bends_13 : decode cX0_bends 13 = .ok (.aload_n 0, 1) := by decide +kernel
theorem dX0_bends_14 : decode cX0_bends 14 = .ok (.getfield 12, 3) := by decide +kernel
theorem dX0_bends_17 : decode cX0_bends 17 = .ok (.aload_n 1, 1) := by decide +kernel
theorem dX0_bends_18 : decode cX0_bends 18 = .ok (.aload_n 1, 1) := by decide +kernel
theorem dX0_bends_19 : decode cX0_bends 19 = .ok (.getfield 57, 3) := by decide +kernel
theorem dX0_bends_22 : decode cX0_bends 22 = .ok (.iconst (-1), 1) := by decide +kernel
theorem dX0_bends_23 : decode cX0_bends 23 = .ok (.invokevirtual 53, 3) := by decide +kernel
theorem dX0_bends_26 : decode cX0_bends 26 = .ok (.putfield 44, 3) := by decide +kernel
theorem dX0_bends_29 : decode cX0_bends 29 = .ok (.aload_n 0, 1) := by decide +kernel
theorem dX0_bends_30 : decode cX0_bends 30 = .ok (.getfield 44, 3) := by decide +kernel
theorem dX0_bends_33 : decode cX0_bends 33 = .ok (.ifCond .eq 21, 3) := by decide +kernel
theorem dX0_bends_36 : decode cX0_bends 36 = .ok (.aload_n 0, 1) := by decide +kernel
theorem dX0_bends_37 : decode cX0_bends 37 = .ok (.aload_n 1, 1) := by decide +kernel
theorem dX0_bends_38 : decode cX0_bends 38 = .ok (.invokevirtual 62, 3) := by decide +kernel
theorem dX0_bends_41 : decode cX0_bends 41 = .ok (.aload_n 0, 1) := by decide +kernel
theorem dX0_bends_42 : decode cX0_bends 42 = .ok (.aload_n 0, 1) := by decide +kernel
theorem dX0_bends_43 : decode cX0_bends 43 = .ok (.getfield 33, 3) := by decide +kernel
theorem dX0_bends_46 : decode cX0_bends 46 = .ok (.putfield 50, 3) := by decide +kernel
theorem dX0_bends_49 : decode cX0_bends 49 = .ok (.aload_n 0, 1) := by decide +kernel
theorem dX0_bends_50 : decode cX0_bends 50 = .ok (.aload_n 1, 1) := by decide +kernel
theorem dX0_bends_51 : decode cX0_bends 51 = .ok (.invokevirtual 66, 3) := by decide +kernel
theorem dX0_bends_54 : decode cX0_bends 54 = .ok (.aload_n 0, 1) := by decide +kernel
theorem dX0_bends_55 : decode cX0_bends 55 = .ok (.getfield 44, 3) := by decide +kernel
theorem dX0_bends_58 : decode cX0_bends 58 = .ok (.ireturn, 1) := by decide +kernel
theorem dX0_leastWithout_0 : decode cX0_leastWithout 0 = .ok (.aload_n 0, 1) := by decide +kernel
theorem dX0_leastWithout_1 : decode cX0_leastWithout 1 = .ok (.getfield 12, 3) := by decide +kernel
theorem dX0_leastWithout_4 : decode cX0_leastWithout 4 = .ok (.aload_n 1, 1) := by decide +kernel
theorem dX0_leastWithout_5 : decode cX0_leastWithout 5 = .ok (.aload_n 1, 1) := by decide +kernel
theorem dX0_leastWithout_6 : decode cX0_leastWithout 6 = .ok (.getfield 57, 3) := by decide +kernel
theorem dX0_leastWithout_9 : decode cX0_leastWithout 9 = .ok (.iload_n 2, 1) := by decide +kernel
theorem dX0_leastWithout_10 : decode cX0_leastWithout 10 = .ok (.invokevirtual 53, 3) := by decide +kernel
theorem dX0_leastWithout_13 : decode cX0_leastWithout 13 = .ok (.ifCond .ne 5, 3) := by decide +kernel
theorem dX0_leastWithout_16 : decode cX0_leastWithout 16 = .ok (.lconst 0, 1) := by decide +kernel
theorem dX0_leastWithout_17 : decode cX0_leastWithout 17 = .ok (.lreturn, 1) := by decide +kernel
theorem dX0_leastWithout_18 : decode cX0_leastWithout 18 = .ok (.aload_n 0, 1) := by decide +kernel
theorem dX0_leastWithout_19 : decode cX0_leastWithout 19 = .ok (.aload_n 1, 1) := by decide +kernel
theorem dX0_leastWithout_20 : decode cX0_leastWithout 20 = .ok (.invokevirtual 62, 3) := by decide +kernel
theorem dX0_leastWithout_23 : decode cX0_leastWithout 23 = .ok (.aload_n 0, 1) := by decide +kernel
theorem dX0_leastWithout_24 : decode cX0_leastWithout 24 = .ok (.getfield 29, 3) := by decide +kernel
theorem dX0_leastWithout_27 : decode cX0_leastWithout 27 = .ok (.bipush 10, 2) := by decide +kernel
theorem dX0_leastWithout_29 : decode cX0_leastWithout 29 = .ok (.lshr, 1) := by decide +kernel
theorem dX0_leastWithout_30 : decode cX0_leastWithout 30 = .ok (.lreturn, 1) := by decide +kernel
theorem dX0_fills_0 : decode cX0_fills 0 = .ok (.aload_n 1, 1) := by decide +kernel
theorem dX0_fills_1 : decode cX0_fills 1 = .ok (.getfield 69, 3) := by decide +kernel
theorem dX0_fills_4 : decode cX0_fills 4 = .ok (.iconst 1, 1) := by decide +kernel
theorem dX0_fills_5 : decode cX0_fills 5 = .ok (.isub, 1) := by decide +kernel
theorem dX0_fills_6 : decode cX0_fills 6 = .ok (.istore_n 2, 1) := by decide +kernel
theorem dX0_fills_7 : decode cX0_fills 7 = .ok (.iload_n 2, 1) := by decide +kernel
theorem dX0_fills_8 : decode cX0_fills 8 = .ok (.ifCond .lt 103, 3) := by decide +kernel
theorem dX0_fills_11 : decode cX0_fills 11 = .ok (.aload_n 0, 1) := by decide +kernel
theorem dX0_fills_12 : decode cX0_fills 12 = .ok (.getfield 12, 3) := by decide +kernel
theorem dX0_fills_15 : decode cX0_fills 15 = .ok (.getfield 72, 3) := by decide +kernel
theorem dX0_fills_18 : decode cX0_fills 18 = .ok (.iload_n 2, 1) := by decide +kernel
theorem dX0_fills_19 : decode cX0_fills 19 = .ok (.iaload, 1) := by decide +kernel
theorem dX0_fills_20 : decode cX0_fills 20 = .ok (.istore_n 3, 1) := by decide +kernel
theorem dX0_fills_21 : decode cX0_fills 21 = .ok (.iload_n 3, 1) := by decide +kernel
theorem dX0_fills_22 : decode cX0_fills 22 = .ok (.aload_n 0, 1) := by decide +kernel
theorem dX0_fills_23 : decode cX0_fills 23 = .ok (.getfield 12, 3) := by decide +kernel
theorem dX0_fills_26 : decode cX0_fills 26 = .ok (.getfield 75, 3) := by decide +kernel
theorem dX0_fills_29 : decode cX0_fills 29 = .ok (.iload_n 2, 1) := by decide +kernel
theorem dX0_fills_30 : decode cX0_fills 30 = .ok (.iaload, 1) := by decide +kernel
theorem dX0_fills_31 : decode cX0_fills 31 = .ok (.if_icmp .gt 74, 3) := by decide +kernel
theorem dX0_fills_34 : decode cX0_fills 34 = .ok (.aload_n 0, 1) := by decide +kernel
theorem dX0_fills_35 : decode cX0_fills 35 = .ok (.aload_n 1, 1) := by decide +kernel
theorem dX0_fills_36 : decode cX0_fills 36 = .ok (.iload_n 2, 1) := by decide +kernel
theorem dX0_fills_37 : decode cX0_fills 37 = .ok (.iconst 1, 1) := by decide +kernel
theorem dX0_fills_38 : decode cX0_fills 38 = .ok (.iadd, 1) := by decide +kernel
theorem dX0_fills_39 : decode cX0_fills 39 = .ok (.iload_n 3, 1) := by decide +kernel
theorem dX0_fills_40 : decode cX0_fills 40 = .ok (.invokevirtual 78, 3) := by decide +kernel
theorem dX0_fills_43 : decode cX0_fills 43 = .ok (.aload_n 0, 1) := by decide +kernel
theorem dX0_fills_44 : decode cX0_fills 44 = .ok (.getfield 12, 3) := by decide +kernel
theorem dX0_fills_47 : decode cX0_fills 47 = .ok (.iload_n 2, 1) := by decide +kernel
theorem dX0_fills_48 : decode cX0_fills 48 = .ok (.iload_n 3, 1) := by decide +kernel
theorem dX0_fills_49 : decode cX0_fills 49 = .ok (.invokevirtual 82, 3) := by decide +kernel
theorem dX0_fills_52 : decode cX0_fills 52 = .ok (.istore 4, 2) := by decide +kernel
theorem dX0_fills_54 : decode cX0_fills 54 = .ok (.aload_n 0, 1) := by decide +kernel
theorem dX0_fills_55 : decode cX0_fills 55 = .ok (.getfield 12, 3) := by decide +kernel
theorem dX0_fills_58 : decode cX0_fills 58 = .ok (.iload_n 2, 1) := by decide +kernel
theorem dX0_fills_59 : decode cX0_fills 59 = .ok (.iload_n 3, 1) := by decide +kernel
theorem dX0_fills_60 : decode cX0_fills 60 = .ok (.invokevirtual 86, 3) := by decide +kernel
theorem dX0_fills_63 : decode cX0_fills 63 = .ok (.istore 5, 2) := by decide +kernel
theorem dX0_fills_65 : decode cX0_fills 65 = .ok (.iload 5, 2) := by decide +kernel
theorem dX0_fills_67 : decode cX0_fills 67 = .ok (.iload 4, 2) := by decide +kernel
theorem dX0_fills_69 : decode cX0_fills 69 = .ok (.if_icmp .gt 30, 3) := by decide +kernel
theorem dX0_fills_72 : decode cX0_fills 72 = .ok (.aload_n 0, 1) := by decide +kernel
theorem dX0_fills_73 : decode cX0_fills 73 = .ok (.iload_n 2, 1) := by decide +kernel
theorem dX0_fills_74 : decode cX0_fills 74 = .ok (.iconst 1, 1) := by decide +kernel
theorem dX0_fills_75 : decode cX0_fills 75 = .ok (.iadd, 1) := by decide +kernel
theorem dX0_fills_76 : decode cX0_fills 76 = .ok (.iload 5, 2) := by decide +kernel
theorem dX0_fills_78 : decode cX0_fills 78 = .ok (.invokevirtual 89, 3) := by decide +kernel
theorem dX0_fills_81 : decode cX0_fills 81 = .ok (.aload_n 0, 1) := by decide +kernel
theorem dX0_fills_82 : decode cX0_fills 82 = .ok (.aload_n 0, 1) := by decide +kernel
theorem dX0_fills_83 : decode cX0_fills 83 = .ok (.iload_n 2, 1) := by decide +kernel
theorem dX0_fills_84 : decode cX0_fills 84 = .ok (.iload 5, 2) := by decide +kernel
theorem dX0_fills_86 : decode cX0_fills 86 = .ok (.iload_n 3, 1) := by decide +kernel
theorem dX0_fills_87 : decode cX0_fills 87 = .ok (.invokevirtual 93, 3) := by decide +kernel
theorem dX0_fills_90 : decode cX0_fills 90 = .ok (.invokevirtual 97, 3) := by decide +kernel
theorem dX0_fills_93 : decode cX0_fills 93 = .ok (.iinc 5 1, 3) := by decide +kernel
theorem dX0_fills_96 : decode cX0_fills 96 = .ok (.goto (-31), 3) := by decide +kernel
theorem dX0_fills_99 : decode cX0_fills 99 = .ok (.iinc 3 1, 3) := by decide +kernel
theorem dX0_fills_102 : decode cX0_fills 102 = .ok (.goto (-81), 3) := by decide +kernel
theorem dX0_fills_105 : decode cX0_fills 105 = .ok (.iinc 2 (-1), 3) := by decide +kernel
theorem dX0_fills_108 : decode cX0_fills 108 = .ok (.goto (-101), 3) := by decide +kernel
theorem dX0_fills_111 : decode cX0_fills 111 = .ok (.aload_n 0, 1) := by decide +kernel
theorem dX0_fills_112 : decode cX0_fills 112 = .ok (.aload_n 1, 1) := by decide +kernel
theorem dX0_fills_113 : decode cX0_fills 113 = .ok (.iconst 0, 1) := by decide +kernel
theorem dX0_fills_114 : decode cX0_fills 114 = .ok (.iconst 0, 1) := by decide +kernel
theorem dX0_fills_115 : decode cX0_fills 115 = .ok (.invokevirtual 78, 3) := by decide +kernel
theorem dX0_fills_118 : decode cX0_fills 118 = .ok (.aload_n 0, 1) := by decide +kernel
theorem dX0_fills_119 : decode cX0_fills 119 = .ok (.iconst 0, 1) := by decide +kernel
theorem dX0_fills_120 : decode cX0_fills 120 = .ok (.iconst 0, 1) := by decide +kernel
theorem dX0_fills_121 : decode cX0_fills 121 = .ok (.invokevirtual 89, 3) := by decide +kernel
theorem dX0_fills_124 : decode cX0_fills 124 = .ok (.return_, 1) := by decide +kernel
theorem dX0_keepsBest_0 : decode cX0_keepsBest 0 = .ok (.aload_n 0, 1) := by decide +kernel
theorem dX0_keepsBest_1 : decode cX0_keepsBest 1 = .ok (.iload_n 1, 1) := by decide +kernel
theorem dX0_keepsBest_2 : decode cX0_keepsBest 2 = .ok (.invokevirtual 101, 3) := by decide +kernel
theorem dX0_keepsBest_5 : decode cX0_keepsBest 5 = .ok (.ifCond .eq 23, 3) := by decide +kernel
theorem dX0_keepsBest_8 : decode cX0_keepsBest 8 = .ok (.aload_n 0, 1) := by decide +kernel
theorem dX0_keepsBest_9 : decode cX0_keepsBest 9 = .ok (.getfield 18, 3) := by decide +kernel
theorem dX0_keepsBest_12 : decode cX0_keepsBest 12 = .ok (.iload_n 1, 1) := by decide +kernel
theorem dX0_keepsBest_13 : decode cX0_keepsBest 13 = .ok (.aload_n 0, 1) := by decide +kernel
theorem dX0_keepsBest_14 : decode cX0_keepsBest 14 = .ok (.getfield 29, 3) := by decide +kernel
theorem dX0_keepsBest_17 : decode cX0_keepsBest 17 = .ok (.lastore, 1) := by decide +kernel
theorem dX0_keepsBest_18 : decode cX0_keepsBest 18 = .ok (.aload_n 0, 1) := by decide +kernel
theorem dX0_keepsBest_19 : decode cX0_keepsBest 19 = .ok (.getfield 22, 3) := by decide +kernel
theorem dX0_keepsBest_22 : decode cX0_keepsBest 22 = .ok (.iload_n 1, 1) := by decide +kernel
theorem dX0_keepsBest_23 : decode cX0_keepsBest 23 = .ok (.aload_n 0, 1) := by decide +kernel
theorem dX0_keepsBest_24 : decode cX0_keepsBest 24 = .ok (.getfield 33, 3) := by decide +kernel
theorem dX0_keepsBest_27 : decode cX0_keepsBest 27 = .ok (.iastore, 1) := by decide +kernel
theorem dX0_keepsBest_28 : decode cX0_keepsBest 28 = .ok (.return_, 1) := by decide +kernel
theorem dX0_traces_0 : decode cX0_traces 0 = .ok (.iconst 0, 1) := by decide +kernel
theorem dX0_traces_1 : decode cX0_traces 1 = .ok (.istore_n 2, 1) := by decide +kernel
theorem dX0_traces_2 : decode cX0_traces 2 = .ok (.iconst 0, 1) := by decide +kernel
theorem dX0_traces_3 : decode cX0_traces 3 = .ok (.istore_n 3, 1) := by decide +kernel
theorem dX0_traces_4 : decode cX0_traces 4 = .ok (.iconst 0, 1) := by decide +kernel
theorem dX0_traces_5 : decode cX0_traces 5 = .ok (.istore 4, 2) := by decide +kernel
theorem dX0_traces_7 : decode cX0_traces 7 = .ok (.iload 4, 2) := by decide +kernel
theorem dX0_traces_9 : decode cX0_traces 9 = .ok (.aload_n 1, 1) := by decide +kernel
theorem dX0_traces_10 : decode cX0_traces 10 = .ok (.getfield 69, 3) := by decide +kernel
theorem dX0_traces_13 : decode cX0_traces 13 = .ok (.if_icmp .ge 74, 3) := by decide +kernel
theorem dX0_traces_16 : decode cX0_traces 16 = .ok (.aload_n 0, 1) := by decide +kernel
theorem dX0_traces_17 : decode cX0_traces 17 = .ok (.aload_n 1, 1) := by decide +kernel
theorem dX0_traces_18 : decode cX0_traces 18 = .ok (.iload 4, 2) := by decide +kernel
theorem dX0_traces_20 : decode cX0_traces 20 = .ok (.iload_n 3, 1) := by decide +kernel
theorem dX0_traces_21 : decode cX0_traces 21 = .ok (.invokevirtual 78, 3) := by decide +kernel
theorem dX0_traces_24 : decode cX0_traces 24 = .ok (.aload_n 0, 1) := by decide +kernel
theorem dX0_traces_25 : decode cX0_traces 25 = .ok (.iload 4, 2) := by decide +kernel
theorem dX0_traces_27 : decode cX0_traces 27 = .ok (.iload_n 2, 1) := by decide +kernel
theorem dX0_traces_28 : decode cX0_traces 28 = .ok (.invokevirtual 89, 3) := by decide +kernel
theorem dX0_traces_31 : decode cX0_traces 31 = .ok (.aload_n 0, 1) := by decide +kernel
theorem dX0_traces_32 : decode cX0_traces 32 = .ok (.getfield 37, 3) := by decide +kernel
theorem dX0_traces_35 : decode cX0_traces 35 = .ok (.istore_n 3, 1) := by decide +kernel
theorem dX0_traces_36 : decode cX0_traces 36 = .ok (.aload_n 0, 1) := by decide +kernel
theorem dX0_traces_37 : decode cX0_traces 37 = .ok (.getfield 12, 3) := by decide +kernel
theorem dX0_traces_40 : decode cX0_traces 40 = .ok (.iload 4, 2) := by decide +kernel
theorem dX0_traces_42 : decode cX0_traces 42 = .ok (.invokevirtual 105, 3) := by decide +kernel
theorem dX0_traces_45 : decode cX0_traces 45 = .ok (.ifCond .eq 18, 3) := by decide +kernel
theorem dX0_traces_48 : decode cX0_traces 48 = .ok (.aload_n 0, 1) := by decide +kernel
theorem dX0_traces_49 : decode cX0_traces 49 = .ok (.getfield 12, 3) := by decide +kernel
theorem dX0_traces_52 : decode cX0_traces 52 = .ok (.iload 4, 2) := by decide +kernel
theorem dX0_traces_54 : decode cX0_traces 54 = .ok (.iload_n 2, 1) := by decide +kernel
theorem dX0_traces_55 : decode cX0_traces 55 = .ok (.invokevirtual 108, 3) := by decide +kernel
theorem dX0_traces_58 : decode cX0_traces 58 = .ok (.iload_n 3, 1) := by decide +kernel
theorem dX0_traces_59 : decode cX0_traces 59 = .ok (.isub, 1) := by decide +kernel
theorem dX0_traces_60 : decode cX0_traces 60 = .ok (.goto 4, 3) := by decide +kernel
theorem dX0_traces_63 : decode cX0_traces 63 = .ok (.iconst 0, 1) := by decide +kernel
theorem dX0_traces_64 : decode cX0_traces 64 = .ok (.istore_n 2, 1) := by decide +kernel
theorem dX0_traces_65 : decode cX0_traces 65 = .ok (.aload_n 0, 1) := by decide +kernel
theorem dX0_traces_66 : decode cX0_traces 66 = .ok (.getfield 47, 3) := by decide +kernel
theorem dX0_traces_69 : decode cX0_traces 69 = .ok (.iload 4, 2) := by decide +kernel
theorem dX0_traces_71 : decode cX0_traces 71 = .ok (.aload_n 1, 1) := by decide +kernel
theorem dX0_traces_72 : decode cX0_traces 72 = .ok (.getfield 111, 3) := by decide +kernel
theorem dX0_traces_75 : decode cX0_traces 75 = .ok (.iload 4, 2) := by decide +kernel
theorem dX0_traces_77 : decode cX0_traces 77 = .ok (.iaload, 1) := by decide +kernel
theorem dX0_traces_78 : decode cX0_traces 78 = .ok (.iload_n 3, 1) := by decide +kernel
theorem dX0_traces_79 : decode cX0_traces 79 = .ok (.iadd, 1) := by decide +kernel
theorem dX0_traces_80 : decode cX0_traces 80 = .ok (.iastore, 1) := by decide +kernel
theorem dX0_traces_81 : decode cX0_traces 81 = .ok (.iinc 4 1, 3) := by decide +kernel
theorem dX0_traces_84 : decode cX0_traces 84 = .ok (.goto (-77), 3) := by decide +kernel
theorem dX0_traces_87 : decode cX0_traces 87 = .ok (.return_, 1) := by decide +kernel
theorem dX0_weighsSteps_0 : decode cX0_weighsSteps 0 = .ok (.iload_n 2, 1) := by decide +kernel
theorem dX0_weighsSteps_1 : decode cX0_weighsSteps 1 = .ok (.aload_n 1, 1) := by decide +kernel
theorem dX0_weighsSteps_2 : decode cX0_weighsSteps 2 = .ok (.getfield 69, 3) := by decide +kernel
theorem dX0_weighsSteps_5 : decode cX0_weighsSteps 5 = .ok (.if_icmp .lt 4, 3) := by decide +kernel
theorem dX0_weighsSteps_8 : decode cX0_weighsSteps 8 = .ok (.return_, 1) := by decide +kernel
theorem dX0_weighsSteps_9 : decode cX0_weighsSteps 9 = .ok (.aload_n 0, 1) := by decide +kernel
theorem dX0_weighsSteps_10 : decode cX0_weighsSteps 10 = .ok (.getfield 12, 3) := by decide +kernel
theorem dX0_weighsSteps_13 : decode cX0_weighsSteps 13 = .ok (.getfield 72, 3) := by decide +kernel
theorem dX0_weighsSteps_16 : decode cX0_weighsSteps 16 = .ok (.iload_n 2, 1) := by decide +kernel
theorem dX0_weighsSteps_17 : decode cX0_weighsSteps 17 = .ok (.iaload, 1) := by decide +kernel
theorem dX0_weighsSteps_18 : decode cX0_weighsSteps 18 = .ok (.istore 4, 2) := by decide +kernel
theorem dX0_weighsSteps_20 : decode cX0_weighsSteps 20 = .ok (.iload 4, 2) := by decide +kernel
theorem dX0_weighsSteps_22 : decode cX0_weighsSteps 22 = .ok (.aload_n 0, 1) := by decide +kernel
theorem dX0_weighsSteps_23 : decode cX0_weighsSteps 23 = .ok (.getfield 12, 3) := by decide +kernel
theorem dX0_weighsSteps_26 : decode cX0_weighsSteps 26 = .ok (.getfield 75, 3) := by decide +kernel
theorem dX0_weighsSteps_29 : decode cX0_weighsSteps 29 = .ok (.iload_n 2, 1) := by decide +kernel
theorem dX0_weighsSteps_30 : decode cX0_weighsSteps 30 = .ok (.iaload, 1) := by decide +kernel
theorem dX0_weighsSteps_31 : decode cX0_weighsSteps 31 = .ok (.if_icmp .gt 79, 3) := by decide +kernel
theorem dX0_weighsSteps_34 : decode cX0_weighsSteps 34 = .ok (.lconst 0, 1) := by decide +kernel
theorem dX0_weighsSteps_35 : decode cX0_weighsSteps 35 = .ok (.lstore 5, 2) := by decide +kernel
theorem dX0_weighsSteps_37 : decode cX0_weighsSteps 37 = .ok (.iload_n 2, 1) := by decide +kernel
theorem dX0_weighsSteps_38 : decode cX0_weighsSteps 38 = .ok (.ifCond .le 41, 3) := by decide +kernel
theorem dX0_weighsSteps_41 : decode cX0_weighsSteps 41 = .ok (.aload_n 1, 1) := by decide +kernel
theorem dX0_weighsSteps_42 : decode cX0_weighsSteps 42 = .ok (.getfield 114, 3) := by decide +kernel
theorem dX0_weighsSteps_45 : decode cX0_weighsSteps 45 = .ok (.ifCond .ne 11, 3) := by decide +kernel
theorem dX0_weighsSteps_48 : decode cX0_weighsSteps 48 = .ok (.iload 4, 2) := by decide +kernel
theorem dX0_weighsSteps_50 : decode cX0_weighsSteps 50 = .ok (.iload_n 3, 1) := by decide +kernel
theorem dX0_weighsSteps_51 : decode cX0_weighsSteps 51 = .ok (.isub, 1) := by decide +kernel
theorem dX0_weighsSteps_52 : decode cX0_weighsSteps 52 = .ok (.i2l, 1) := by decide +kernel
theorem dX0_weighsSteps_53 : decode cX0_weighsSteps 53 = .ok (.goto 24, 3) := by decide +kernel
theorem dX0_weighsSteps_56 : decode cX0_weighsSteps 56 = .ok (.iload 4, 2) := by decide +kernel
theorem dX0_weighsSteps_58 : decode cX0_weighsSteps 58 = .ok (.aload_n 1, 1) := by decide +kernel
theorem dX0_weighsSteps_59 : decode cX0_weighsSteps 59 = .ok (.getfield 111, 3) := by decide +kernel
theorem dX0_weighsSteps_62 : decode cX0_weighsSteps 62 = .ok (.iload_n 2, 1) := by decide +kernel
theorem dX0_weighsSteps_63 : decode cX0_weighsSteps 63 = .ok (.iconst 1, 1) := by decide +kernel
theorem dX0_weighsSteps_64 : decode cX0_weighsSteps 64 = .ok (.isub, 1) := by decide +kernel
theorem dX0_weighsSteps_65 : decode cX0_weighsSteps 65 = .ok (.iaload, 1) := by decide +kernel
theorem dX0_weighsSteps_66 : decode cX0_weighsSteps 66 = .ok (.imul, 1) := by decide +kernel
theorem dX0_weighsSteps_67 : decode cX0_weighsSteps 67 = .ok (.iload_n 3, 1) := by decide +kernel
theorem dX0_weighsSteps_68 : decode cX0_weighsSteps 68 = .ok (.aload_n 1, 1) := by decide +kernel
theorem dX0_weighsSteps_69 : decode cX0_weighsSteps 69 = .ok (.getfield 111, 3) := by decide +kernel
theorem dX0_weighsSteps_72 : decode cX0_weighsSteps 72 = .ok (.iload_n 2, 1) := by decide +kernel
theorem dX0_weighsSteps_73 : decode cX0_weighsSteps 73 = .ok (.iaload, 1) := by decide +kernel
theorem dX0_weighsSteps_74 : decode cX0_weighsSteps 74 = .ok (.imul, 1) := by decide +kernel
theorem dX0_weighsSteps_75 : decode cX0_weighsSteps 75 = .ok (.isub, 1) := by decide +kernel
theorem dX0_weighsSteps_76 : decode cX0_weighsSteps 76 = .ok (.i2l, 1) := by decide +kernel
theorem dX0_weighsSteps_77 : decode cX0_weighsSteps 77 = .ok (.lstore 5, 2) := by decide +kernel
theorem dX0_weighsSteps_79 : decode cX0_weighsSteps 79 = .ok (.aload_n 0, 1) := by decide +kernel
theorem dX0_weighsSteps_80 : decode cX0_weighsSteps 80 = .ok (.getfield 26, 3) := by decide +kernel
theorem dX0_weighsSteps_83 : decode cX0_weighsSteps 83 = .ok (.iload 4, 2) := by decide +kernel
theorem dX0_weighsSteps_85 : decode cX0_weighsSteps 85 = .ok (.bipush 8, 2) := by decide +kernel
theorem dX0_weighsSteps_87 : decode cX0_weighsSteps 87 = .ok (.iadd, 1) := by decide +kernel
theorem dX0_weighsSteps_88 : decode cX0_weighsSteps 88 = .ok (.lload 5, 2) := by decide +kernel
theorem dX0_weighsSteps_90 : decode cX0_weighsSteps 90 = .ok (.lload 5, 2) := by decide +kernel
theorem dX0_weighsSteps_92 : decode cX0_weighsSteps 92 = .ok (.lmul, 1) := by decide +kernel
theorem dX0_weighsSteps_93 : decode cX0_weighsSteps 93 = .ok (.bipush 10, 2) := by decide +kernel
theorem dX0_weighsSteps_95 : decode cX0_weighsSteps 95 = .ok (.lshl, 1) := by decide +kernel
theorem dX0_weighsSteps_96 : decode cX0_weighsSteps 96 = .ok (.iload 4, 2) := by decide +kernel
theorem dX0_weighsSteps_98 : decode cX0_weighsSteps 98 = .ok (.iload 4, 2) := by decide +kernel
theorem dX0_weighsSteps_100 : decode cX0_weighsSteps 100 = .ok (.imul, 1) := by decide +kernel
theorem dX0_weighsSteps_101 : decode cX0_weighsSteps 101 = .ok (.i2l, 1) := by decide +kernel
theorem dX0_weighsSteps_102 : decode cX0_weighsSteps 102 = .ok (.ladd, 1) := by decide +kernel
theorem dX0_weighsSteps_103 : decode cX0_weighsSteps 103 = .ok (.lastore, 1) := by decide +kernel
theorem dX0_weighsSteps_104 : decode cX0_weighsSteps 104 = .ok (.iinc 4 1, 3) := by decide +kernel
theorem dX0_weighsSteps_107 : decode cX0_weighsSteps 107 = .ok (.goto (-87), 3) := by decide +kernel
theorem dX0_weighsSteps_110 : decode cX0_weighsSteps 110 = .ok (.return_, 1) := by decide +kernel
theorem dX0_choosesStep_0 : decode cX0_choosesStep 0 = .ok (.aload_n 0, 1) := by decide +kernel
theorem dX0_choosesStep_1 : decode cX0_choosesStep 1 = .ok (.lconst 0, 1) := by decide +kernel
theorem dX0_choosesStep_2 : decode cX0_choosesStep 2 = .ok (.putfield 29, 3) := by decide +kernel
theorem dX0_choosesStep_5 : decode cX0_choosesStep 5 = .ok (.aload_n 0, 1) := by decide +kernel
theorem dX0_choosesStep_6 : decode cX0_choosesStep 6 = .ok (.iconst 1, 1) := by decide +kernel
theorem dX0_choosesStep_7 : decode cX0_choosesStep 7 = .ok (.putfield 33, 3) := by decide +kernel
theorem dX0_choosesStep_10 : decode cX0_choosesStep 10 = .ok (.aload_n 0, 1) := by decide +kernel
theorem dX0_choosesStep_11 : decode cX0_choosesStep 11 = .ok (.iconst 0, 1) := by decide +kernel
theorem dX0_choosesStep_12 : decode cX0_choosesStep 12 = .ok (.putfield 37, 3) := by decide +kernel
theorem dX0_choosesStep_15 : decode cX0_choosesStep 15 = .ok (.iload_n 1, 1) := by decide +kernel
theorem dX0_choosesStep_16 : decode cX0_choosesStep 16 = .ok (.aload_n 0, 1) := by decide +kernel
theorem dX0_choosesStep_17 : decode cX0_choosesStep 17 = .ok (.getfield 12, 3) := by decide +kernel
theorem dX0_choosesStep_20 : decode cX0_choosesStep 20 = .ok (.getfield 117, 3) := by decide +kernel
theorem dX0_choosesStep_23 : decode cX0_choosesStep 23 = .ok (.if_icmp .lt 4, 3) := by decide +kernel
theorem dX0_choosesStep_26 : decode cX0_choosesStep 26 = .ok (.return_, 1) := by decide +kernel
theorem dX0_choosesStep_27 : decode cX0_choosesStep 27 = .ok (.aload_n 0, 1) := by decide +kernel
theorem dX0_choosesStep_28 : decode cX0_choosesStep 28 = .ok (.getfield 12, 3) := by decide +kernel
theorem dX0_choosesStep_31 : decode cX0_choosesStep 31 = .ok (.iload_n 1, 1) := by decide +kernel
theorem dX0_choosesStep_32 : decode cX0_choosesStep 32 = .ok (.invokevirtual 105, 3) := by decide +kernel
theorem dX0_choosesStep_35 : decode cX0_choosesStep 35 = .ok (.istore_n 3, 1) := by decide +kernel
theorem dX0_choosesStep_36 : decode cX0_choosesStep 36 = .ok (.aload_n 0, 1) := by decide +kernel
theorem dX0_choosesStep_37 : decode cX0_choosesStep 37 = .ok (.getfield 12, 3) := by decide +kernel
theorem dX0_choosesStep_40 : decode cX0_choosesStep 40 = .ok (.iload_n 1, 1) := by decide +kernel
theorem dX0_choosesStep_41 : decode cX0_choosesStep 41 = .ok (.iload_n 2, 1) := by decide +kernel
theorem dX0_choosesStep_42 : decode cX0_choosesStep 42 = .ok (.invokevirtual 108, 3) := by decide +kernel
theorem dX0_choosesStep_45 : decode cX0_choosesStep 45 = .ok (.istore 4, 2) := by decide +kernel
theorem dX0_choosesStep_47 : decode cX0_choosesStep 47 = .ok (.aload_n 0, 1) := by decide +kernel
theorem dX0_choosesStep_48 : decode cX0_choosesStep 48 = .ok (.getfield 12, 3) := by decide +kernel
theorem dX0_choosesStep_51 : decode cX0_choosesStep 51 = .ok (.getfield 72, 3) := by decide +kernel
theorem dX0_choosesStep_54 : decode cX0_choosesStep 54 = .ok (.iload_n 1, 1) := by decide +kernel
theorem dX0_choosesStep_55 : decode cX0_choosesStep 55 = .ok (.iaload, 1) := by decide +kernel
theorem dX0_choosesStep_56 : decode cX0_choosesStep 56 = .ok (.istore 5, 2) := by decide +kernel
theorem dX0_choosesStep_58 : decode cX0_choosesStep 58 = .ok (.aload_n 0, 1) := by decide +kernel
theorem dX0_choosesStep_59 : decode cX0_choosesStep 59 = .ok (.getfield 12, 3) := by decide +kernel
theorem dX0_choosesStep_62 : decode cX0_choosesStep 62 = .ok (.getfield 75, 3) := by decide +kernel
theorem dX0_choosesStep_65 : decode cX0_choosesStep 65 = .ok (.iload_n 1, 1) := by decide +kernel
theorem dX0_choosesStep_66 : decode cX0_choosesStep 66 = .ok (.iaload, 1) := by decide +kernel
theorem dX0_choosesStep_67 : decode cX0_choosesStep 67 = .ok (.istore 6, 2) := by decide +kernel
theorem dX0_choosesStep_69 : decode cX0_choosesStep 69 = .ok (.iload_n 3, 1) := by decide +kernel
theorem dX0_choosesStep_70 : decode cX0_choosesStep 70 = .ok (.ifCond .eq 41, 3) := by decide +kernel
theorem dX0_choosesStep_73 : decode cX0_choosesStep 73 = .ok (.iload 5, 2) := by decide +kernel
theorem dX0_choosesStep_75 : decode cX0_choosesStep 75 = .ok (.iload 4, 2) := by decide +kernel
theorem dX0_choosesStep_77 : decode cX0_choosesStep 77 = .ok (.aload_n 0, 1) := by decide +kernel
theorem dX0_choosesStep_78 : decode cX0_choosesStep 78 = .ok (.getfield 12, 3) := by decide +kernel
theorem dX0_choosesStep_81 : decode cX0_choosesStep 81 = .ok (.getfield 118, 3) := by decide +kernel
theorem dX0_choosesStep_84 : decode cX0_choosesStep 84 = .ok (.iload_n 1, 1) := by decide +kernel
theorem dX0_choosesStep_85 : decode cX0_choosesStep 85 = .ok (.iaload, 1) := by decide +kernel
theorem dX0_choosesStep_86 : decode cX0_choosesStep 86 = .ok (.isub, 1) := by decide +kernel
theorem dX0_choosesStep_87 : decode cX0_choosesStep 87 = .ok (.invokestatic 121, 3) := by decide +kernel
theorem dX0_choosesStep_90 : decode cX0_choosesStep 90 = .ok (.istore 5, 2) := by decide +kernel
theorem dX0_choosesStep_92 : decode cX0_choosesStep 92 = .ok (.iload 6, 2) := by decide +kernel
theorem dX0_choosesStep_94 : decode cX0_choosesStep 94 = .ok (.iload 4, 2) := by decide +kernel
theorem dX0_choosesStep_96 : decode cX0_choosesStep 96 = .ok (.aload_n 0, 1) := by decide +kernel
theorem dX0_choosesStep_97 : decode cX0_choosesStep 97 = .ok (.getfield 12, 3) := by decide +kernel
theorem dX0_choosesStep_100 : decode cX0_choosesStep 100 = .ok (.getfield 126, 3) := by decide +kernel
theorem dX0_choosesStep_103 : decode cX0_choosesStep 103 = .ok (.iload_n 1, 1) := by decide +kernel
theorem dX0_choosesStep_104 : decode cX0_choosesStep 104 = .ok (.iaload, 1) := by decide +kernel
theorem dX0_choosesStep_105 : decode cX0_choosesStep 105 = .ok (.isub, 1) := by decide +kernel
theorem dX0_choosesStep_106 : decode cX0_choosesStep 106 = .ok (.invokestatic 129, 3) := by decide +kernel
theorem dX0_choosesStep_109 : decode cX0_choosesStep 109 = .ok (.istore 6, 2) := by decide +kernel
theorem dX0_choosesStep_111 : decode cX0_choosesStep 111 = .ok (.aload_n 0, 1) := by decide +kernel
theorem dX0_choosesStep_112 : decode cX0_choosesStep 112 = .ok (.iload_n 1, 1) := by decide +kernel
theorem dX0_choosesStep_113 : decode cX0_choosesStep 113 = .ok (.iload_n 3, 1) := by decide +kernel
theorem dX0_choosesStep_114 : decode cX0_choosesStep 114 = .ok (.ifCond .eq 11, 3) := by decide +kernel
theorem dX0_choosesStep_117 : decode cX0_choosesStep 117 = .ok (.iload 4, 2) := by decide +kernel
theorem dX0_choosesStep_119 : decode cX0_choosesStep 119 = .ok (.iload 5, 2) := by decide +kernel
theorem dX0_choosesStep_121 : decode cX0_choosesStep 121 = .ok (.isub, 1) := by decide +kernel
theorem dX0_choosesStep_122 : decode cX0_choosesStep 122 = .ok (.goto 4, 3) := by decide +kernel
theorem dX0_choosesStep_125 : decode cX0_choosesStep 125 = .ok (.iconst 0, 1) := by decide +kernel
theorem dX0_choosesStep_126 : decode cX0_choosesStep 126 = .ok (.iload 5, 2) := by decide +kernel
theorem dX0_choosesStep_128 : decode cX0_choosesStep 128 = .ok (.invokevirtual 93, 3) := by decide +kernel
theorem dX0_choosesStep_131 : decode cX0_choosesStep 131 = .ok (.istore 7, 2) := by decide +kernel
theorem dX0_choosesStep_133 : decode cX0_choosesStep 133 = .ok (.iload_n 3, 1) := by decide +kernel
theorem dX0_choosesStep_134 : decode cX0_choosesStep 134 = .ok (.ifCond .eq 8, 3) := by decide +kernel
theorem dX0_choosesStep_137 : decode cX0_choosesStep 137 = .ok (.bipush (-16), 2) := by decide +kernel
theorem dX0_choosesStep_139 : decode cX0_choosesStep 139 = .ok (.goto 4, 3) := by decide +kernel
theorem dX0_choosesStep_142 : decode cX0_choosesStep 142 = .ok (.iconst 1, 1) := by decide +kernel
theorem dX0_choosesStep_143 : decode cX0_choosesStep 143 = .ok (.istore 8, 2) := by decide +kernel
theorem dX0_choosesStep_145 : decode cX0_choosesStep 145 = .ok (.aload_n 0, 1) := by decide +kernel
theorem dX0_choosesStep_146 : decode cX0_choosesStep 146 = .ok (.ldc2_w 132, 3) := by decide +kernel
theorem dX0_choosesStep_149 : decode cX0_choosesStep 149 = .ok (.putfield 29, 3) := by decide +kernel
theorem dX0_choosesStep_152 : decode cX0_choosesStep 152 = .ok (.aload_n 0, 1) := by decide +kernel
theorem dX0_choosesStep_153 : decode cX0_choosesStep 153 = .ok (.iconst 0, 1) := by decide +kernel
theorem dX0_choosesStep_154 : decode cX0_choosesStep 154 = .ok (.putfield 33, 3) := by decide +kernel
theorem dX0_choosesStep_157 : decode cX0_choosesStep 157 = .ok (.iload 5, 2) := by decide +kernel
theorem dX0_choosesStep_159 : decode cX0_choosesStep 159 = .ok (.istore 9, 2) := by decide +kernel
theorem dX0_choosesStep_161 : decode cX0_choosesStep 161 = .ok (.iload 9, 2) := by decide +kernel
theorem dX0_choosesStep_163 : decode cX0_choosesStep 163 = .ok (.iload 6, 2) := by decide +kernel
theorem dX0_choosesStep_165 : decode cX0_choosesStep 165 = .ok (.if_icmp .gt 113, 3) := by decide +kernel
theorem dX0_choosesStep_168 : decode cX0_choosesStep 168 = .ok (.aload_n 0, 1) := by decide +kernel
theorem dX0_choosesStep_169 : decode cX0_choosesStep 169 = .ok (.iload 7, 2) := by decide +kernel
theorem dX0_choosesStep_171 : decode cX0_choosesStep 171 = .ok (.invokevirtual 101, 3) := by decide +kernel
theorem dX0_choosesStep_174 : decode cX0_choosesStep 174 = .ok (.ifCond .eq 104, 3) := by decide +kernel
theorem dX0_choosesStep_177 : decode cX0_choosesStep 177 = .ok (.aload_n 0, 1) := by decide +kernel
theorem dX0_choosesStep_178 : decode cX0_choosesStep 178 = .ok (.getfield 26, 3) := by decide +kernel
theorem dX0_choosesStep_181 : decode cX0_choosesStep 181 = .ok (.iload 9, 2) := by decide +kernel
theorem dX0_choosesStep_183 : decode cX0_choosesStep 183 = .ok (.bipush 8, 2) := by decide +kernel
theorem dX0_choosesStep_185 : decode cX0_choosesStep 185 = .ok (.iadd, 1) := by decide +kernel
theorem dX0_choosesStep_186 : decode cX0_choosesStep 186 = .ok (.laload, 1) := by decide +kernel
theorem dX0_choosesStep_187 : decode cX0_choosesStep 187 = .ok (.aload_n 0, 1) := by decide +kernel
theorem dX0_choosesStep_188 : decode cX0_choosesStep 188 = .ok (.getfield 18, 3) := by decide +kernel
theorem dX0_choosesStep_191 : decode cX0_choosesStep 191 = .ok (.iload 7, 2) := by decide +kernel
theorem dX0_choosesStep_193 : decode cX0_choosesStep 193 = .ok (.laload, 1) := by decide +kernel
theorem dX0_choosesStep_194 : decode cX0_choosesStep 194 = .ok (.ladd, 1) := by decide +kernel
theorem dX0_choosesStep_195 : decode cX0_choosesStep 195 = .ok (.lstore 10, 2) := by decide +kernel
theorem dX0_choosesStep_197 : decode cX0_choosesStep 197 = .ok (.lload 10, 2) := by decide +kernel
theorem dX0_choosesStep_199 : decode cX0_choosesStep 199 = .ok (.aload_n 0, 1) := by decide +kernel
theorem dX0_choosesStep_200 : decode cX0_choosesStep 200 = .ok (.getfield 29, 3) := by decide +kernel
theorem dX0_choosesStep_203 : decode cX0_choosesStep 203 = .ok (.lcmp, 1) := by decide +kernel
theorem dX0_choosesStep_204 : decode cX0_choosesStep 204 = .ok (.ifCond .ge 29, 3) := by decide +kernel
theorem dX0_choosesStep_207 : decode cX0_choosesStep 207 = .ok (.aload_n 0, 1) := by decide +kernel
theorem dX0_choosesStep_208 : decode cX0_choosesStep 208 = .ok (.lload 10, 2) := by decide +kernel
theorem dX0_choosesStep_210 : decode cX0_choosesStep 210 = .ok (.putfield 29, 3) := by decide +kernel
theorem dX0_choosesStep_213 : decode cX0_choosesStep 213 = .ok (.aload_n 0, 1) := by decide +kernel
theorem dX0_choosesStep_214 : decode cX0_choosesStep 214 = .ok (.aload_n 0, 1) := by decide +kernel
theorem dX0_choosesStep_215 : decode cX0_choosesStep 215 = .ok (.getfield 22, 3) := by decide +kernel
theorem dX0_choosesStep_218 : decode cX0_choosesStep 218 = .ok (.iload 7, 2) := by decide +kernel
theorem dX0_choosesStep_220 : decode cX0_choosesStep 220 = .ok (.iaload, 1) := by decide +kernel
theorem dX0_choosesStep_221 : decode cX0_choosesStep 221 = .ok (.putfield 33, 3) := by decide +kernel
theorem dX0_choosesStep_224 : decode cX0_choosesStep 224 = .ok (.aload_n 0, 1) := by decide +kernel
theorem dX0_choosesStep_225 : decode cX0_choosesStep 225 = .ok (.iload 9, 2) := by decide +kernel
theorem dX0_choosesStep_227 : decode cX0_choosesStep 227 = .ok (.putfield 37, 3) := by decide +kernel
theorem dX0_choosesStep_230 : decode cX0_choosesStep 230 = .ok (.goto 35, 3) := by decide +kernel
theorem dX0_choosesStep_233 : decode cX0_choosesStep 233 = .ok (.lload 10, 2) := by decide +kernel
theorem dX0_choosesStep_235 : decode cX0_choosesStep 235 = .ok (.aload_n 0, 1) := by decide +kernel
theorem dX0_choosesStep_236 : decode cX0_choosesStep 236 = .ok (.getfield 29, 3) := by decide +kernel
theorem dX0_choosesStep_239 : decode cX0_choosesStep 239 = .ok (.lcmp, 1) := by decide +kernel
theorem dX0_choosesStep_240 : decode cX0_choosesStep 240 = .ok (.ifCond .ne 25, 3) := by decide +kernel
theorem dX0_choosesStep_243 : decode cX0_choosesStep 243 = .ok (.aload_n 0, 1) := by decide +kernel
theorem dX0_choosesStep_244 : decode cX0_choosesStep 244 = .ok (.sipush 9999, 3) := by decide +kernel
theorem dX0_choosesStep_247 : decode cX0_choosesStep 247 = .ok (.aload_n 0, 1) := by decide +kernel
theorem dX0_choosesStep_248 : decode cX0_choosesStep 248 = .ok (.getfield 33, 3) := by decide +kernel
theorem dX0_choosesStep_251 : decode cX0_choosesStep 251 = .ok (.aload_n 0, 1) := by decide +kernel
theorem dX0_choosesStep_252 : decode cX0_choosesStep 252 = .ok (.getfield 22, 3) := by decide +kernel
theorem dX0_choosesStep_255 : decode cX0_choosesStep 255 = .ok (.iload 7, 2) := by decide +kernel
theorem dX0_choosesStep_257 : decode cX0_choosesStep 257 = .ok (.iaload, 1) := by decide +kernel
theorem dX0_choosesStep_258 : decode cX0_choosesStep 258 = .ok (.iadd, 1) := by decide +kernel
theorem dX0_choosesStep_259 : decode cX0_choosesStep 259 = .ok (.invokestatic 129, 3) := by decide +kernel
theorem dX0_choosesStep_262 : decode cX0_choosesStep 262 = .ok (.putfield 33, 3) := by decide +kernel
theorem dX0_choosesStep_265 : decode cX0_choosesStep 265 = .ok (.iload 7, 2) := by decide +kernel
theorem dX0_choosesStep_267 : decode cX0_choosesStep 267 = .ok (.iload 8, 2) := by decide +kernel
theorem dX0_choosesStep_269 : decode cX0_choosesStep 269 = .ok (.iadd, 1) := by decide +kernel
theorem dX0_choosesStep_270 : decode cX0_choosesStep 270 = .ok (.istore 7, 2) := by decide +kernel
theorem dX0_choosesStep_272 : decode cX0_choosesStep 272 = .ok (.iinc 9 1, 3) := by decide +kernel
theorem dX0_choosesStep_275 : decode cX0_choosesStep 275 = .ok (.goto (-114), 3) := by decide +kernel
theorem dX0_choosesStep_278 : decode cX0_choosesStep 278 = .ok (.return_, 1) := by decide +kernel
theorem dX0_spot_0 : decode cX0_spot 0 = .ok (.sipush 1156, 3) := by decide +kernel
theorem dX0_spot_3 : decode cX0_spot 3 = .ok (.iload_n 1, 1) := by decide +kernel
theorem dX0_spot_4 : decode cX0_spot 4 = .ok (.iconst 4, 1) := by decide +kernel
theorem dX0_spot_5 : decode cX0_spot 5 = .ok (.idiv, 1) := by decide +kernel
theorem dX0_spot_6 : decode cX0_spot 6 = .ok (.imul, 1) := by decide +kernel
theorem dX0_spot_7 : decode cX0_spot 7 = .ok (.getstatic 134, 3) := by decide +kernel
theorem dX0_spot_10 : decode cX0_spot 10 = .ok (.iload_n 1, 1) := by decide +kernel
theorem dX0_spot_11 : decode cX0_spot 11 = .ok (.iconst 4, 1) := by decide +kernel
theorem dX0_spot_12 : decode cX0_spot 12 = .ok (.irem, 1) := by decide +kernel
theorem dX0_spot_13 : decode cX0_spot 13 = .ok (.iaload, 1) := by decide +kernel
theorem dX0_spot_14 : decode cX0_spot 14 = .ok (.iadd, 1) := by decide +kernel
theorem dX0_spot_15 : decode cX0_spot 15 = .ok (.istore 4, 2) := by decide +kernel
theorem dX0_spot_17 : decode cX0_spot 17 = .ok (.iload 4, 2) := by decide +kernel
theorem dX0_spot_19 : decode cX0_spot 19 = .ok (.iload_n 2, 1) := by decide +kernel
theorem dX0_spot_20 : decode cX0_spot 20 = .ok (.aload_n 0, 1) := by decide +kernel
theorem dX0_spot_21 : decode cX0_spot 21 = .ok (.getfield 12, 3) := by decide +kernel
theorem dX0_spot_24 : decode cX0_spot 24 = .ok (.getfield 126, 3) := by decide +kernel
theorem dX0_spot_27 : decode cX0_spot 27 = .ok (.iload_n 1, 1) := by decide +kernel
theorem dX0_spot_28 : decode cX0_spot 28 = .ok (.iaload, 1) := by decide +kernel
theorem dX0_spot_29 : decode cX0_spot 29 = .ok (.isub, 1) := by decide +kernel
theorem dX0_spot_30 : decode cX0_spot 30 = .ok (.bipush 17, 2) := by decide +kernel
theorem dX0_spot_32 : decode cX0_spot 32 = .ok (.imul, 1) := by decide +kernel
theorem dX0_spot_33 : decode cX0_spot 33 = .ok (.iadd, 1) := by decide +kernel
theorem dX0_spot_34 : decode cX0_spot 34 = .ok (.iload_n 3, 1) := by decide +kernel
theorem dX0_spot_35 : decode cX0_spot 35 = .ok (.iadd, 1) := by decide +kernel
theorem dX0_spot_36 : decode cX0_spot 36 = .ok (.bipush 8, 2) := by decide +kernel
theorem dX0_spot_38 : decode cX0_spot 38 = .ok (.iadd, 1) := by decide +kernel
theorem dX0_spot_39 : decode cX0_spot 39 = .ok (.ireturn, 1) := by decide +kernel
theorem dX0_isSpot_0 : decode cX0_isSpot 0 = .ok (.iload_n 1, 1) := by decide +kernel
theorem dX0_isSpot_1 : decode cX0_isSpot 1 = .ok (.ifCond .lt 16, 3) := by decide +kernel
theorem dX0_isSpot_4 : decode cX0_isSpot 4 = .ok (.iload_n 1, 1) := by decide +kernel
theorem dX0_isSpot_5 : decode cX0_isSpot 5 = .ok (.aload_n 0, 1) := by decide +kernel
theorem dX0_isSpot_6 : decode cX0_isSpot 6 = .ok (.getfield 18, 3) := by decide +kernel
theorem dX0_isSpot_9 : decode cX0_isSpot 9 = .ok (.arraylength, 1) := by decide +kernel
theorem dX0_isSpot_10 : decode cX0_isSpot 10 = .ok (.if_icmp .ge 7, 3) := by decide +kernel
theorem dX0_isSpot_13 : decode cX0_isSpot 13 = .ok (.iconst 1, 1) := by decide +kernel
theorem dX0_isSpot_14 : decode cX0_isSpot 14 = .ok (.goto 4, 3) := by decide +kernel
theorem dX0_isSpot_17 : decode cX0_isSpot 17 = .ok (.iconst 0, 1) := by decide +kernel
theorem dX0_isSpot_18 : decode cX0_isSpot 18 = .ok (.ireturn, 1) := by decide +kernel
theorem dX1_init_0 : decode cX1_init 0 = .ok (.aload_n 0, 1) := by decide +kernel
theorem dX1_init_1 : decode cX1_init 1 = .ok (.invokespecial 3, 3) := by decide +kernel
theorem dX1_init_4 : decode cX1_init 4 = .ok (.aload_n 0, 1) := by decide +kernel
theorem dX1_init_5 : decode cX1_init 5 = .ok (.bipush 12, 2) := by decide +kernel
theorem dX1_init_7 : decode cX1_init 7 = .ok (.newarray .int, 2) := by decide +kernel
theorem dX1_init_9 : decode cX1_init 9 = .ok (.putfield 9, 3) := by decide +kernel
theorem dX1_init_12 : decode cX1_init 12 = .ok (.aload_n 0, 1) := by decide +kernel
theorem dX1_init_13 : decode cX1_init 13 = .ok (.bipush 12, 2) := by decide +kernel
theorem dX1_init_15 : decode cX1_init 15 = .ok (.newarray .int, 2) := by decide +kernel
theorem dX1_init_17 : decode cX1_init 17 = .ok (.putfield 15, 3) := by decide +kernel
theorem dX1_init_20 : decode cX1_init 20 = .ok (.aload_n 0, 1) := by decide +kernel
theorem dX1_init_21 : decode cX1_init 21 = .ok (.bipush 12, 2) := by decide +kernel
theorem dX1_init_23 : decode cX1_init 23 = .ok (.newarray .int, 2) := by decide +kernel
theorem dX1_init_25 : decode cX1_init 25 = .ok (.putfield 18, 3) := by decide +kernel
theorem dX1_init_28 : decode cX1_init 28 = .ok (.aload_n 0, 1) := by decide +kernel
theorem dX1_init_29 : decode cX1_init 29 = .ok (.bipush 12, 2) := by decide +kernel
theorem dX1_init_31 : decode cX1_init 31 = .ok (.newarray .int, 2) := by decide +kernel
theorem dX1_init_33 : decode cX1_init 33 = .ok (.putfield 21, 3) := by decide +kernel
theorem dX1_init_36 : decode cX1_init 36 = .ok (.aload_n 0, 1) := by decide +kernel
theorem dX1_init_37 : decode cX1_init 37 = .ok (.iconst 3, 1) := by decide +kernel
theorem dX1_init_38 : decode cX1_init 38 = .ok (.newarray .boolean, 2) := by decide +kernel
theorem dX1_init_40 : decode cX1_init 40 = .ok (.putfield 24, 3) := by decide +kernel
theorem dX1_init_43 : decode cX1_init 43 = .ok (.aload_n 0, 1) := by decide +kernel
theorem dX1_init_44 : decode cX1_init 44 = .ok (.iconst 3, 1) := by decide +kernel
theorem dX1_init_45 : decode cX1_init 45 = .ok (.newarray .int, 2) := by decide +kernel
theorem dX1_init_47 : decode cX1_init 47 = .ok (.putfield 28, 3) := by decide +kernel
theorem dX1_init_50 : decode cX1_init 50 = .ok (.aload_n 0, 1) := by decide +kernel
theorem dX1_init_51 : decode cX1_init 51 = .ok (.iconst 0, 1) := by decide +kernel
theorem dX1_init_52 : decode cX1_init 52 = .ok (.putfield 31, 3) := by decide +kernel
theorem dX1_init_55 : decode cX1_init 55 = .ok (.return_, 1) := by decide +kernel
theorem dX1_lays_0 : decode cX1_lays 0 = .ok (.aload_n 0, 1) := by decide +kernel
theorem dX1_lays_1 : decode cX1_lays 1 = .ok (.aload_n 1, 1) := by decide +kernel
theorem dX1_lays_2 : decode cX1_lays 2 = .ok (.getfield 35, 3) := by decide +kernel
theorem dX1_lays_5 : decode cX1_lays 5 = .ok (.putfield 31, 3) := by decide +kernel
theorem dX1_lays_8 : decode cX1_lays 8 = .ok (.iconst 1, 1) := by decide +kernel
theorem dX1_lays_9 : decode cX1_lays 9 = .ok (.istore 4, 2) := by decide +kernel
theorem dX1_lays_11 : decode cX1_lays 11 = .ok (.iconst 0, 1) := by decide +kernel
theorem dX1_lays_12 : decode cX1_lays 12 = .ok (.istore 5, 2) := by decide +kernel
theorem dX1_lays_14 : decode cX1_lays 14 = .ok (.iload 5, 2) := by decide +kernel
theorem dX1_lays_16 : decode cX1_lays 16 = .ok (.aload_n 0, 1) := by decide +kernel
theorem dX1_lays_17 : decode cX1_lays 17 = .ok (.getfield 31, 3) := by decide +kernel
theorem dX1_lays_20 : decode cX1_lays 20 = .ok (.if_icmp .ge 46, 3) := by decide +kernel
theorem dX1_lays_23 : decode cX1_lays 23 = .ok (.aload_n 0, 1) := by decide +kernel
theorem dX1_lays_24 : decode cX1_lays 24 = .ok (.aload_n 1, 1) := by decide +kernel
theorem dX1_lays_25 : decode cX1_lays 25 = .ok (.iload_n 2, 1) := by decide +kernel
theorem dX1_lays_26 : decode cX1_lays 26 = .ok (.iload 5, 2) := by decide +kernel
theorem dX1_lays_28 : decode cX1_lays 28 = .ok (.invokevirtual 38, 3) := by decide +kernel
theorem dX1_lays_31 : decode cX1_lays 31 = .ok (.iload 4, 2) := by decide +kernel
theorem dX1_lays_33 : decode cX1_lays 33 = .ok (.ifCond .eq 24, 3) := by decide +kernel
theorem dX1_lays_36 : decode cX1_lays 36 = .ok (.aload_n 0, 1) := by decide +kernel
theorem dX1_lays_37 : decode cX1_lays 37 = .ok (.getfield 9, 3) := by decide +kernel
theorem dX1_lays_40 : decode cX1_lays 40 = .ok (.iload 5, 2) := by decide +kernel
theorem dX1_lays_42 : decode cX1_lays 42 = .ok (.iaload, 1) := by decide +kernel
theorem dX1_lays_43 : decode cX1_lays 43 = .ok (.aload_n 0, 1) := by decide +kernel
theorem dX1_lays_44 : decode cX1_lays 44 = .ok (.getfield 15, 3) := by decide +kernel
theorem dX1_lays_47 : decode cX1_lays 47 = .ok (.iload 5, 2) := by decide +kernel
theorem dX1_lays_49 : decode cX1_lays 49 = .ok (.iaload, 1) := by decide +kernel
theorem dX1_lays_50 : decode cX1_lays 50 = .ok (.if_icmp .gt 7, 3) := by decide +kernel
theorem dX1_lays_53 : decode cX1_lays 53 = .ok (.iconst 1, 1) := by decide +kernel
theorem dX1_lays_54 : decode cX1_lays 54 = .ok (.goto 4, 3) := by decide +kernel
theorem dX1_lays_57 : decode cX1_lays 57 = .ok (.iconst 0, 1) := by decide +kernel
theorem dX1_lays_58 : decode cX1_lays 58 = .ok (.istore 4, 2) := by decide +kernel
theorem dX1_lays_60 : decode cX1_lays 60 = .ok (.iinc 5 1, 3) := by decide +kernel
theorem dX1_lays_63 : decode cX1_lays 63 = .ok (.goto (-49), 3) := by decide +kernel
theorem dX1_lays_66 : decode cX1_lays 66 = .ok (.iconst 0, 1) := by decide +kernel
theorem dX1_lays_67 : decode cX1_lays 67 = .ok (.istore 5, 2) := by decide +kernel
theorem dX1_lays_69 : decode cX1_lays 69 = .ok (.iload 5, 2) := by decide +kernel
theorem dX1_lays_71 : decode cX1_lays 71 = .ok (.iconst 3, 1) := by decide +kernel
theorem dX1_lays_72 : decode cX1_lays 72 = .ok (.if_icmp .ge 86, 3) := by decide +kernel
theorem dX1_lays_75 : decode cX1_lays 75 = .ok (.aload_n 0, 1) := by decide +kernel
theorem dX1_lays_76 : decode cX1_lays 76 = .ok (.getfield 24, 3) := by decide +kernel
theorem dX1_lays_79 : decode cX1_lays 79 = .ok (.iload 5, 2) := by decide +kernel
theorem dX1_lays_81 : decode cX1_lays 81 = .ok (.iload 5, 2) := by decide +kernel
theorem dX1_lays_83 : decode cX1_lays 83 = .ok (.iload_n 3, 1) := by decide +kernel
theorem dX1_lays_84 : decode cX1_lays 84 = .ok (.if_icmp .eq 18, 3) := by decide +kernel
theorem dX1_lays_87 : decode cX1_lays 87 = .ok (.aload_n 1, 1) := by decide +kernel
theorem dX1_lays_88 : decode cX1_lays 88 = .ok (.getfield 42, 3) := by decide +kernel
theorem dX1_lays_91 : decode cX1_lays 91 = .ok (.iload 5, 2) := by decide +kernel
theorem dX1_lays_93 : decode cX1_lays 93 = .ok (.iaload, 1) := by decide +kernel
theorem dX1_lays_94 : decode cX1_lays 94 = .ok (.iconst (-1), 1) := by decide +kernel
theorem dX1_lays_95 : decode cX1_lays 95 = .ok (.if_icmp .eq 7, 3) := by decide +kernel
theorem dX1_lays_98 : decode cX1_lays 98 = .ok (.iconst 1, 1) := by decide +kernel
theorem dX1_lays_99 : decode cX1_lays 99 = .ok (.goto 4, 3) := by decide +kernel
theorem dX1_lays_102 : decode cX1_lays 102 = .ok (.iconst 0, 1) := by decide +kernel
theorem dX1_lays_103 : decode cX1_lays 103 = .ok (.bastore, 1) := by decide +kernel
theorem dX1_lays_104 : decode cX1_lays 104 = .ok (.aload_n 0, 1) := by decide +kernel
theorem dX1_lays_105 : decode cX1_lays 105 = .ok (.getfield 28, 3) := by decide +kernel
theorem dX1_lays_108 : decode cX1_lays 108 = .ok (.iload 5, 2) := by decide +kernel
theorem dX1_lays_110 : decode cX1_lays 110 = .ok (.aload_n 0, 1) := by decide +kernel
theorem dX1_lays_111 : decode cX1_lays 111 = .ok (.getfield 24, 3) := by decide +kernel
theorem dX1_lays_114 : decode cX1_lays 114 = .ok (.iload 5, 2) := by decide +kernel
theorem dX1_lays_116 : decode cX1_lays 116 = .ok (.baload, 1) := by decide +kernel
theorem dX1_lays_117 : decode cX1_lays 117 = .ok (.ifCond .eq 12, 3) := by decide +kernel
theorem dX1_lays_120 : decode cX1_lays 120 = .ok (.aload_n 1, 1) := by decide +kernel
theorem dX1_lays_121 : decode cX1_lays 121 = .ok (.iload 5, 2) := by decide +kernel
theorem dX1_lays_123 : decode cX1_lays 123 = .ok (.invokevirtual 45, 3) := by decide +kernel
theorem dX1_lays_126 : decode cX1_lays 126 = .ok (.goto 4, 3) := by decide +kernel
theorem dX1_lays_129 : decode cX1_lays 129 = .ok (.iconst 0, 1) := by decide +kernel
theorem dX1_lays_130 : decode cX1_lays 130 = .ok (.iastore, 1) := by decide +kernel
theorem dX1_lays_131 : decode cX1_lays 131 = .ok (.iload 4, 2) := by decide +kernel
theorem dX1_lays_133 : decode cX1_lays 133 = .ok (.ifCond .eq 16, 3) := by decide +kernel
theorem dX1_lays_136 : decode cX1_lays 136 = .ok (.aload_n 0, 1) := by decide +kernel
theorem dX1_lays_137 : decode cX1_lays 137 = .ok (.iload 5, 2) := by decide +kernel
theorem dX1_lays_139 : decode cX1_lays 139 = .ok (.invokevirtual 49, 3) := by decide +kernel
theorem dX1_lays_142 : decode cX1_lays 142 = .ok (.ifCond .eq 7, 3) := by decide +kernel
theorem dX1_lays_145 : decode cX1_lays 145 = .ok (.iconst 1, 1) := by decide +kernel
theorem dX1_lays_146 : decode cX1_lays 146 = .ok (.goto 4, 3) := by decide +kernel
theorem dX1_lays_149 : decode cX1_lays 149 = .ok (.iconst 0, 1) := by decide +kernel
theorem dX1_lays_150 : decode cX1_lays 150 = .ok (.istore 4, 2) := by decide +kernel
theorem dX1_lays_152 : decode cX1_lays 152 = .ok (.iinc 5 1, 3) := by decide +kernel
theorem dX1_lays_155 : decode cX1_lays 155 = .ok (.goto (-86), 3) := by decide +kernel
theorem dX1_lays_158 : decode cX1_lays 158 = .ok (.iload 4, 2) := by decide +kernel
theorem dX1_lays_160 : decode cX1_lays 160 = .ok (.ireturn, 1) := by decide +kernel
theorem dX1_laysQuarter_0 : decode cX1_laysQuarter 0 = .ok (.aload_n 0, 1) := by decide +kernel
theorem dX1_laysQuarter_1 : decode cX1_laysQuarter 1 = .ok (.getfield 9, 3) := by decide +kernel
theorem dX1_laysQuarter_4 : decode cX1_laysQuarter 4 = .ok (.iload_n 3, 1) := by decide +kernel
theorem dX1_laysQuarter_5 : decode cX1_laysQuarter 5 = .ok (.bipush (-8), 2) := by decide +kernel
theorem dX1_laysQuarter_7 : decode cX1_laysQuarter 7 = .ok (.iastore, 1) := by decide +kernel
theorem dX1_laysQuarter_8 : decode cX1_laysQuarter 8 = .ok (.aload_n 0, 1) := by decide +kernel
theorem dX1_laysQuarter_9 : decode cX1_laysQuarter 9 = .ok (.getfield 15, 3) := by decide +kernel
theorem dX1_laysQuarter_12 : decode cX1_laysQuarter 12 = .ok (.iload_n 3, 1) := by decide +kernel
theorem dX1_laysQuarter_13 : decode cX1_laysQuarter 13 = .ok (.bipush 8, 2) := by decide +kernel
theorem dX1_laysQuarter_15 : decode cX1_laysQuarter 15 = .ok (.iastore, 1) := by decide +kernel
theorem dX1_laysQuarter_16 : decode cX1_laysQuarter 16 = .ok (.aload_n 1, 1) := by decide +kernel
theorem dX1_laysQuarter_17 : decode cX1_laysQuarter 17 = .ok (.iload_n 3, 1) := by decide +kernel
theorem dX1_laysQuarter_18 : decode cX1_laysQuarter 18 = .ok (.invokevirtual 53, 3) := by decide +kernel
theorem dX1_laysQuarter_21 : decode cX1_laysQuarter 21 = .ok (.ifCond .eq 7, 3) := by decide +kernel
theorem dX1_laysQuarter_24 : decode cX1_laysQuarter 24 = .ok (.iconst 0, 1) := by decide +kernel
theorem dX1_laysQuarter_25 : decode cX1_laysQuarter 25 = .ok (.goto 4, 3) := by decide +kernel
theorem dX1_laysQuarter_28 : decode cX1_laysQuarter 28 = .ok (.iload_n 2, 1) := by decide +kernel
theorem dX1_laysQuarter_29 : decode cX1_laysQuarter 29 = .ok (.istore 4, 2) := by decide +kernel
theorem dX1_laysQuarter_31 : decode cX1_laysQuarter 31 = .ok (.aload_n 1, 1) := by decide +kernel
theorem dX1_laysQuarter_32 : decode cX1_laysQuarter 32 = .ok (.iload_n 3, 1) := by decide +kernel
theorem dX1_laysQuarter_33 : decode cX1_laysQuarter 33 = .ok (.invokevirtual 56, 3) := by decide +kernel
theorem dX1_laysQuarter_36 : decode cX1_laysQuarter 36 = .ok (.ifCond .eq 67, 3) := by decide +kernel
theorem dX1_laysQuarter_39 : decode cX1_laysQuarter 39 = .ok (.iload 4, 2) := by decide +kernel
theorem dX1_laysQuarter_41 : decode cX1_laysQuarter 41 = .ok (.iconst (-1), 1) := by decide +kernel
theorem dX1_laysQuarter_42 : decode cX1_laysQuarter 42 = .ok (.if_icmp .eq 61, 3) := by decide +kernel
theorem dX1_laysQuarter_45 : decode cX1_laysQuarter 45 = .ok (.aload_n 1, 1) := by decide +kernel
theorem dX1_laysQuarter_46 : decode cX1_laysQuarter 46 = .ok (.getfield 59, 3) := by decide +kernel
theorem dX1_laysQuarter_49 : decode cX1_laysQuarter 49 = .ok (.iload_n 3, 1) := by decide +kernel
theorem dX1_laysQuarter_50 : decode cX1_laysQuarter 50 = .ok (.iaload, 1) := by decide +kernel
theorem dX1_laysQuarter_51 : decode cX1_laysQuarter 51 = .ok (.bipush 8, 2) := by decide +kernel
theorem dX1_laysQuarter_53 : decode cX1_laysQuarter 53 = .ok (.isub, 1) := by decide +kernel
theorem dX1_laysQuarter_54 : decode cX1_laysQuarter 54 = .ok (.aload_n 1, 1) := by decide +kernel
theorem dX1_laysQuarter_55 : decode cX1_laysQuarter 55 = .ok (.getfield 62, 3) := by decide +kernel
theorem dX1_laysQuarter_58 : decode cX1_laysQuarter 58 = .ok (.iload_n 3, 1) := by decide +kernel
theorem dX1_laysQuarter_59 : decode cX1_laysQuarter 59 = .ok (.iaload, 1) := by decide +kernel
theorem dX1_laysQuarter_60 : decode cX1_laysQuarter 60 = .ok (.isub, 1) := by decide +kernel
theorem dX1_laysQuarter_61 : decode cX1_laysQuarter 61 = .ok (.istore 5, 2) := by decide +kernel
theorem dX1_laysQuarter_63 : decode cX1_laysQuarter 63 = .ok (.aload_n 0, 1) := by decide +kernel
theorem dX1_laysQuarter_64 : decode cX1_laysQuarter 64 = .ok (.getfield 9, 3) := by decide +kernel
theorem dX1_laysQuarter_67 : decode cX1_laysQuarter 67 = .ok (.iload_n 3, 1) := by decide +kernel
theorem dX1_laysQuarter_68 : decode cX1_laysQuarter 68 = .ok (.aload_n 0, 1) := by decide +kernel
theorem dX1_laysQuarter_69 : decode cX1_laysQuarter 69 = .ok (.getfield 9, 3) := by decide +kernel
theorem dX1_laysQuarter_72 : decode cX1_laysQuarter 72 = .ok (.iload_n 3, 1) := by decide +kernel
theorem dX1_laysQuarter_73 : decode cX1_laysQuarter 73 = .ok (.iaload, 1) := by decide +kernel
theorem dX1_laysQuarter_74 : decode cX1_laysQuarter 74 = .ok (.iload 5, 2) := by decide +kernel
theorem dX1_laysQuarter_76 : decode cX1_laysQuarter 76 = .ok (.iload 4, 2) := by decide +kernel
theorem dX1_laysQuarter_78 : decode cX1_laysQuarter 78 = .ok (.isub, 1) := by decide +kernel
theorem dX1_laysQuarter_79 : decode cX1_laysQuarter 79 = .ok (.invokestatic 65, 3) := by decide +kernel
theorem dX1_laysQuarter_82 : decode cX1_laysQuarter 82 = .ok (.iastore, 1) := by decide +kernel
theorem dX1_laysQuarter_83 : decode cX1_laysQuarter 83 = .ok (.aload_n 0, 1) := by decide +kernel
theorem dX1_laysQuarter_84 : decode cX1_laysQuarter 84 = .ok (.getfield 15, 3) := by decide +kernel
theorem dX1_laysQuarter_87 : decode cX1_laysQuarter 87 = .ok (.iload_n 3, 1) := by decide +kernel
theorem dX1_laysQuarter_88 : decode cX1_laysQuarter 88 = .ok (.aload_n 0, 1) := by decide +kernel
theorem dX1_laysQuarter_89 : decode cX1_laysQuarter 89 = .ok (.getfield 15, 3) := by decide +kernel
theorem dX1_laysQuarter_92 : decode cX1_laysQuarter 92 = .ok (.iload_n 3, 1) := by decide +kernel
theorem dX1_laysQuarter_93 : decode cX1_laysQuarter 93 = .ok (.iaload, 1) := by decide +kernel
theorem dX1_laysQuarter_94 : decode cX1_laysQuarter 94 = .ok (.iload 5, 2) := by decide +kernel
theorem dX1_laysQuarter_96 : decode cX1_laysQuarter 96 = .ok (.iload 4, 2) := by decide +kernel
theorem dX1_laysQuarter_98 : decode cX1_laysQuarter 98 = .ok (.iadd, 1) := by decide +kernel
theorem dX1_laysQuarter_99 : decode cX1_laysQuarter 99 = .ok (.invokestatic 71, 3) := by decide +kernel
theorem dX1_laysQuarter_102 : decode cX1_laysQuarter 102 = .ok (.iastore, 1) := by decide +kernel
theorem dX1_laysQuarter_103 : decode cX1_laysQuarter 103 = .ok (.return_, 1) := by decide +kernel
theorem dX1_laysYear_0 : decode cX1_laysYear 0 = .ok (.iconst 4, 1) := by decide +kernel
theorem dX1_laysYear_1 : decode cX1_laysYear 1 = .ok (.iload_n 1, 1) := by decide +kernel
theorem dX1_laysYear_2 : decode cX1_laysYear 2 = .ok (.imul, 1) := by decide +kernel
theorem dX1_laysYear_3 : decode cX1_laysYear 3 = .ok (.istore_n 2, 1) := by decide +kernel
theorem dX1_laysYear_4 : decode cX1_laysYear 4 = .ok (.iconst 0, 1) := by decide +kernel
theorem dX1_laysYear_5 : decode cX1_laysYear 5 = .ok (.istore_n 3, 1) := by decide +kernel
theorem dX1_laysYear_6 : decode cX1_laysYear 6 = .ok (.iconst 0, 1) := by decide +kernel
theorem dX1_laysYear_7 : decode cX1_laysYear 7 = .ok (.istore 4, 2) := by decide +kernel
theorem dX1_laysYear_9 : decode cX1_laysYear 9 = .ok (.iload_n 2, 1) := by decide +kernel
theorem dX1_laysYear_10 : decode cX1_laysYear 10 = .ok (.istore 5, 2) := by decide +kernel
theorem dX1_laysYear_12 : decode cX1_laysYear 12 = .ok (.iload 5, 2) := by decide +kernel
theorem dX1_laysYear_14 : decode cX1_laysYear 14 = .ok (.iload_n 2, 1) := by decide +kernel
theorem dX1_laysYear_15 : decode cX1_laysYear 15 = .ok (.iconst 4, 1) := by decide +kernel
theorem dX1_laysYear_16 : decode cX1_laysYear 16 = .ok (.iadd, 1) := by decide +kernel
theorem dX1_laysYear_17 : decode cX1_laysYear 17 = .ok (.if_icmp .ge 31, 3) := by decide +kernel
theorem dX1_laysYear_20 : decode cX1_laysYear 20 = .ok (.iload_n 3, 1) := by decide +kernel
theorem dX1_laysYear_21 : decode cX1_laysYear 21 = .ok (.aload_n 0, 1) := by decide +kernel
theorem dX1_laysYear_22 : decode cX1_laysYear 22 = .ok (.getfield 9, 3) := by decide +kernel
theorem dX1_laysYear_25 : decode cX1_laysYear 25 = .ok (.iload 5, 2) := by decide +kernel
theorem dX1_laysYear_27 : decode cX1_laysYear 27 = .ok (.iaload, 1) := by decide +kernel
theorem dX1_laysYear_28 : decode cX1_laysYear 28 = .ok (.iadd, 1) := by decide +kernel
theorem dX1_laysYear_29 : decode cX1_laysYear 29 = .ok (.istore_n 3, 1) := by decide +kernel
theorem dX1_laysYear_30 : decode cX1_laysYear 30 = .ok (.iload 4, 2) := by decide +kernel
theorem dX1_laysYear_32 : decode cX1_laysYear 32 = .ok (.aload_n 0, 1) := by decide +kernel
theorem dX1_laysYear_33 : decode cX1_laysYear 33 = .ok (.getfield 15, 3) := by decide +kernel
theorem dX1_laysYear_36 : decode cX1_laysYear 36 = .ok (.iload 5, 2) := by decide +kernel
theorem dX1_laysYear_38 : decode cX1_laysYear 38 = .ok (.iaload, 1) := by decide +kernel
theorem dX1_laysYear_39 : decode cX1_laysYear 39 = .ok (.iadd, 1) := by decide +kernel
theorem dX1_laysYear_40 : decode cX1_laysYear 40 = .ok (.istore 4, 2) := by decide +kernel
theorem dX1_laysYear_42 : decode cX1_laysYear 42 = .ok (.iinc 5 1, 3) := by decide +kernel
theorem dX1_laysYear_45 : decode cX1_laysYear 45 = .ok (.goto (-33), 3) := by decide +kernel
theorem dX1_laysYear_48 : decode cX1_laysYear 48 = .ok (.aload_n 0, 1) := by decide +kernel
theorem dX1_laysYear_49 : decode cX1_laysYear 49 = .ok (.getfield 24, 3) := by decide +kernel
theorem dX1_laysYear_52 : decode cX1_laysYear 52 = .ok (.iload_n 1, 1) := by decide +kernel
theorem dX1_laysYear_53 : decode cX1_laysYear 53 = .ok (.baload, 1) := by decide +kernel
theorem dX1_laysYear_54 : decode cX1_laysYear 54 = .ok (.ifCond .eq 24, 3) := by decide +kernel
theorem dX1_laysYear_57 : decode cX1_laysYear 57 = .ok (.iload_n 3, 1) := by decide +kernel
theorem dX1_laysYear_58 : decode cX1_laysYear 58 = .ok (.aload_n 0, 1) := by decide +kernel
theorem dX1_laysYear_59 : decode cX1_laysYear 59 = .ok (.getfield 28, 3) := by decide +kernel
theorem dX1_laysYear_62 : decode cX1_laysYear 62 = .ok (.iload_n 1, 1) := by decide +kernel
theorem dX1_laysYear_63 : decode cX1_laysYear 63 = .ok (.iaload, 1) := by decide +kernel
theorem dX1_laysYear_64 : decode cX1_laysYear 64 = .ok (.if_icmp .gt 18, 3) := by decide +kernel
theorem dX1_laysYear_67 : decode cX1_laysYear 67 = .ok (.aload_n 0, 1) := by decide +kernel
theorem dX1_laysYear_68 : decode cX1_laysYear 68 = .ok (.getfield 28, 3) := by decide +kernel
theorem dX1_laysYear_71 : decode cX1_laysYear 71 = .ok (.iload_n 1, 1) := by decide +kernel
theorem dX1_laysYear_72 : decode cX1_laysYear 72 = .ok (.iaload, 1) := by decide +kernel
theorem dX1_laysYear_73 : decode cX1_laysYear 73 = .ok (.iload 4, 2) := by decide +kernel
theorem dX1_laysYear_75 : decode cX1_laysYear 75 = .ok (.if_icmp .gt 7, 3) := by decide +kernel
theorem dX1_laysYear_78 : decode cX1_laysYear 78 = .ok (.iconst 1, 1) := by decide +kernel
theorem dX1_laysYear_79 : decode cX1_laysYear 79 = .ok (.goto 4, 3) := by decide +kernel
theorem dX1_laysYear_82 : decode cX1_laysYear 82 = .ok (.iconst 0, 1) := by decide +kernel
theorem dX1_laysYear_83 : decode cX1_laysYear 83 = .ok (.istore 5, 2) := by decide +kernel
theorem dX1_laysYear_85 : decode cX1_laysYear 85 = .ok (.aload_n 0, 1) := by decide +kernel
theorem dX1_laysYear_86 : decode cX1_laysYear 86 = .ok (.getfield 28, 3) := by decide +kernel
theorem dX1_laysYear_89 : decode cX1_laysYear 89 = .ok (.iload_n 1, 1) := by decide +kernel
theorem dX1_laysYear_90 : decode cX1_laysYear 90 = .ok (.iaload, 1) := by decide +kernel
theorem dX1_laysYear_91 : decode cX1_laysYear 91 = .ok (.istore 6, 2) := by decide +kernel
theorem dX1_laysYear_93 : decode cX1_laysYear 93 = .ok (.aload_n 0, 1) := by decide +kernel
theorem dX1_laysYear_94 : decode cX1_laysYear 94 = .ok (.getfield 28, 3) := by decide +kernel
theorem dX1_laysYear_97 : decode cX1_laysYear 97 = .ok (.iload_n 1, 1) := by decide +kernel
theorem dX1_laysYear_98 : decode cX1_laysYear 98 = .ok (.iaload, 1) := by decide +kernel
theorem dX1_laysYear_99 : decode cX1_laysYear 99 = .ok (.istore 7, 2) := by decide +kernel
theorem dX1_laysYear_101 : decode cX1_laysYear 101 = .ok (.iload_n 2, 1) := by decide +kernel
theorem dX1_laysYear_102 : decode cX1_laysYear 102 = .ok (.istore 8, 2) := by decide +kernel
theorem dX1_laysYear_104 : decode cX1_laysYear 104 = .ok (.iload 8, 2) := by decide +kernel
theorem dX1_laysYear_106 : decode cX1_laysYear 106 = .ok (.iload_n 2, 1) := by decide +kernel
theorem dX1_laysYear_107 : decode cX1_laysYear 107 = .ok (.iconst 4, 1) := by decide +kernel
theorem dX1_laysYear_108 : decode cX1_laysYear 108 = .ok (.iadd, 1) := by decide +kernel
theorem dX1_laysYear_109 : decode cX1_laysYear 109 = .ok (.if_icmp .ge 108, 3) := by decide +kernel
theorem dX1_laysYear_112 : decode cX1_laysYear 112 = .ok (.iload_n 3, 1) := by decide +kernel
theorem dX1_laysYear_113 : decode cX1_laysYear 113 = .ok (.aload_n 0, 1) := by decide +kernel
theorem dX1_laysYear_114 : decode cX1_laysYear 114 = .ok (.getfield 9, 3) := by decide +kernel
theorem dX1_laysYear_117 : decode cX1_laysYear 117 = .ok (.iload 8, 2) := by decide +kernel
theorem dX1_laysYear_119 : decode cX1_laysYear 119 = .ok (.iaload, 1) := by decide +kernel
theorem dX1_laysYear_120 : decode cX1_laysYear 120 = .ok (.isub, 1) := by decide +kernel
theorem dX1_laysYear_121 : decode cX1_laysYear 121 = .ok (.istore_n 3, 1) := by decide +kernel
theorem dX1_laysYear_122 : decode cX1_laysYear 122 = .ok (.iload 4, 2) := by decide +kernel
theorem dX1_laysYear_124 : decode cX1_laysYear 124 = .ok (.aload_n 0, 1) := by decide +kernel
theorem dX1_laysYear_125 : decode cX1_laysYear 125 = .ok (.getfield 15, 3) := by decide +kernel
theorem dX1_laysYear_128 : decode cX1_laysYear 128 = .ok (.iload 8, 2) := by decide +kernel
theorem dX1_laysYear_130 : decode cX1_laysYear 130 = .ok (.iaload, 1) := by decide +kernel
theorem dX1_laysYear_131 : decode cX1_laysYear 131 = .ok (.isub, 1) := by decide +kernel
theorem dX1_laysYear_132 : decode cX1_laysYear 132 = .ok (.istore 4, 2) := by decide +kernel
theorem dX1_laysYear_134 : decode cX1_laysYear 134 = .ok (.aload_n 0, 1) := by decide +kernel
theorem dX1_laysYear_135 : decode cX1_laysYear 135 = .ok (.getfield 24, 3) := by decide +kernel
theorem dX1_laysYear_138 : decode cX1_laysYear 138 = .ok (.iload_n 1, 1) := by decide +kernel
theorem dX1_laysYear_139 : decode cX1_laysYear 139 = .ok (.baload, 1) := by decide +kernel
theorem dX1_laysYear_140 : decode cX1_laysYear 140 = .ok (.ifCond .eq 20, 3) := by decide +kernel
theorem dX1_laysYear_143 : decode cX1_laysYear 143 = .ok (.iload_n 3, 1) := by decide +kernel
theorem dX1_laysYear_144 : decode cX1_laysYear 144 = .ok (.iload 6, 2) := by decide +kernel
theorem dX1_laysYear_146 : decode cX1_laysYear 146 = .ok (.aload_n 0, 1) := by decide +kernel
theorem dX1_laysYear_147 : decode cX1_laysYear 147 = .ok (.getfield 15, 3) := by decide +kernel
theorem dX1_laysYear_150 : decode cX1_laysYear 150 = .ok (.iload 8, 2) := by decide +kernel
theorem dX1_laysYear_152 : decode cX1_laysYear 152 = .ok (.iaload, 1) := by decide +kernel
theorem dX1_laysYear_153 : decode cX1_laysYear 153 = .ok (.isub, 1) := by decide +kernel
theorem dX1_laysYear_154 : decode cX1_laysYear 154 = .ok (.invokestatic 65, 3) := by decide +kernel
theorem dX1_laysYear_157 : decode cX1_laysYear 157 = .ok (.goto 4, 3) := by decide +kernel
theorem dX1_laysYear_160 : decode cX1_laysYear 160 = .ok (.iconst 0, 1) := by decide +kernel
theorem dX1_laysYear_161 : decode cX1_laysYear 161 = .ok (.istore 6, 2) := by decide +kernel
theorem dX1_laysYear_163 : decode cX1_laysYear 163 = .ok (.aload_n 0, 1) := by decide +kernel
theorem dX1_laysYear_164 : decode cX1_laysYear 164 = .ok (.getfield 24, 3) := by decide +kernel
theorem dX1_laysYear_167 : decode cX1_laysYear 167 = .ok (.iload_n 1, 1) := by decide +kernel
theorem dX1_laysYear_168 : decode cX1_laysYear 168 = .ok (.baload, 1) := by decide +kernel
theorem dX1_laysYear_169 : decode cX1_laysYear 169 = .ok (.ifCond .eq 21, 3) := by decide +kernel
theorem dX1_laysYear_172 : decode cX1_laysYear 172 = .ok (.iload 4, 2) := by decide +kernel
theorem dX1_laysYear_174 : decode cX1_laysYear 174 = .ok (.iload 7, 2) := by decide +kernel
theorem dX1_laysYear_176 : decode cX1_laysYear 176 = .ok (.aload_n 0, 1) := by decide +kernel
theorem dX1_laysYear_177 : decode cX1_laysYear 177 = .ok (.getfield 9, 3) := by decide +kernel
theorem dX1_laysYear_180 : decode cX1_laysYear 180 = .ok (.iload 8, 2) := by decide +kernel
theorem dX1_laysYear_182 : decode cX1_laysYear 182 = .ok (.iaload, 1) := by decide +kernel
theorem dX1_laysYear_183 : decode cX1_laysYear 183 = .ok (.isub, 1) := by decide +kernel
theorem dX1_laysYear_184 : decode cX1_laysYear 184 = .ok (.invokestatic 71, 3) := by decide +kernel
theorem dX1_laysYear_187 : decode cX1_laysYear 187 = .ok (.goto 4, 3) := by decide +kernel
theorem dX1_laysYear_190 : decode cX1_laysYear 190 = .ok (.iconst 0, 1) := by decide +kernel
theorem dX1_laysYear_191 : decode cX1_laysYear 191 = .ok (.istore 7, 2) := by decide +kernel
theorem dX1_laysYear_193 : decode cX1_laysYear 193 = .ok (.aload_n 0, 1) := by decide +kernel
theorem dX1_laysYear_194 : decode cX1_laysYear 194 = .ok (.getfield 18, 3) := by decide +kernel
theorem dX1_laysYear_197 : decode cX1_laysYear 197 = .ok (.iload 8, 2) := by decide +kernel
theorem dX1_laysYear_199 : decode cX1_laysYear 199 = .ok (.iload 6, 2) := by decide +kernel
theorem dX1_laysYear_201 : decode cX1_laysYear 201 = .ok (.iastore, 1) := by decide +kernel
theorem dX1_laysYear_202 : decode cX1_laysYear 202 = .ok (.aload_n 0, 1) := by decide +kernel
theorem dX1_laysYear_203 : decode cX1_laysYear 203 = .ok (.getfield 21, 3) := by decide +kernel
theorem dX1_laysYear_206 : decode cX1_laysYear 206 = .ok (.iload 8, 2) := by decide +kernel
theorem dX1_laysYear_208 : decode cX1_laysYear 208 = .ok (.iload 7, 2) := by decide +kernel
theorem dX1_laysYear_210 : decode cX1_laysYear 210 = .ok (.iastore, 1) := by decide +kernel
theorem dX1_laysYear_211 : decode cX1_laysYear 211 = .ok (.iinc 8 1, 3) := by decide +kernel
theorem dX1_laysYear_214 : decode cX1_laysYear 214 = .ok (.goto (-110), 3) := by decide +kernel
theorem dX1_laysYear_217 : decode cX1_laysYear 217 = .ok (.iload 5, 2) := by decide +kernel
theorem dX1_laysYear_219 : decode cX1_laysYear 219 = .ok (.ireturn, 1) := by decide +kernel
theorem dX1_isBound_0 : decode cX1_isBound 0 = .ok (.aload_n 0, 1) := by decide +kernel
theorem dX1_isBound_1 : decode cX1_isBound 1 = .ok (.getfield 24, 3) := by decide +kernel
theorem dX1_isBound_4 : decode cX1_isBound 4 = .ok (.iload_n 1, 1) := by decide +kernel
theorem dX1_isBound_5 : decode cX1_isBound 5 = .ok (.iconst 4, 1) := by decide +kernel
theorem dX1_isBound_6 : decode cX1_isBound 6 = .ok (.idiv, 1) := by decide +kernel
theorem dX1_isBound_7 : decode cX1_isBound 7 = .ok (.baload, 1) := by decide +kernel
theorem dX1_isBound_8 : decode cX1_isBound 8 = .ok (.ireturn, 1) := by decide +kernel
theorem dX1_leftAhead_0 : decode cX1_leftAhead 0 = .ok (.iload_n 1, 1) := by decide +kernel
theorem dX1_leftAhead_1 : decode cX1_leftAhead 1 = .ok (.iconst 4, 1) := by decide +kernel
theorem dX1_leftAhead_2 : decode cX1_leftAhead 2 = .ok (.irem, 1) := by decide +kernel
theorem dX1_leftAhead_3 : decode cX1_leftAhead 3 = .ok (.ifCond .ne 14, 3) := by decide +kernel
theorem dX1_leftAhead_6 : decode cX1_leftAhead 6 = .ok (.aload_n 0, 1) := by decide +kernel
theorem dX1_leftAhead_7 : decode cX1_leftAhead 7 = .ok (.getfield 28, 3) := by decide +kernel
theorem dX1_leftAhead_10 : decode cX1_leftAhead 10 = .ok (.iload_n 1, 1) := by decide +kernel
theorem dX1_leftAhead_11 : decode cX1_leftAhead 11 = .ok (.iconst 4, 1) := by decide +kernel
theorem dX1_leftAhead_12 : decode cX1_leftAhead 12 = .ok (.idiv, 1) := by decide +kernel
theorem dX1_leftAhead_13 : decode cX1_leftAhead 13 = .ok (.iaload, 1) := by decide +kernel
theorem dX1_leftAhead_14 : decode cX1_leftAhead 14 = .ok (.goto 4, 3) := by decide +kernel
theorem dX1_leftAhead_17 : decode cX1_leftAhead 17 = .ok (.iload_n 2, 1) := by decide +kernel
theorem dX1_leftAhead_18 : decode cX1_leftAhead 18 = .ok (.ireturn, 1) := by decide +kernel
theorem dX1_leastLeft_0 : decode cX1_leastLeft 0 = .ok (.aload_n 0, 1) := by decide +kernel
theorem dX1_leastLeft_1 : decode cX1_leastLeft 1 = .ok (.iload_n 1, 1) := by decide +kernel
theorem dX1_leastLeft_2 : decode cX1_leastLeft 2 = .ok (.invokevirtual 74, 3) := by decide +kernel
theorem dX1_leastLeft_5 : decode cX1_leastLeft 5 = .ok (.ifCond .ne 5, 3) := by decide +kernel
theorem dX1_leastLeft_8 : decode cX1_leastLeft 8 = .ok (.iconst 0, 1) := by decide +kernel
theorem dX1_leastLeft_9 : decode cX1_leastLeft 9 = .ok (.ireturn, 1) := by decide +kernel
theorem dX1_leastLeft_10 : decode cX1_leastLeft 10 = .ok (.iload_n 1, 1) := by decide +kernel
theorem dX1_leastLeft_11 : decode cX1_leastLeft 11 = .ok (.ifCond .le 19, 3) := by decide +kernel
theorem dX1_leastLeft_14 : decode cX1_leastLeft 14 = .ok (.aload_n 0, 1) := by decide +kernel
theorem dX1_leastLeft_15 : decode cX1_leastLeft 15 = .ok (.iload_n 1, 1) := by decide +kernel
theorem dX1_leastLeft_16 : decode cX1_leastLeft 16 = .ok (.aload_n 0, 1) := by decide +kernel
theorem dX1_leastLeft_17 : decode cX1_leastLeft 17 = .ok (.getfield 18, 3) := by decide +kernel
theorem dX1_leastLeft_20 : decode cX1_leastLeft 20 = .ok (.iload_n 1, 1) := by decide +kernel
theorem dX1_leastLeft_21 : decode cX1_leastLeft 21 = .ok (.iconst 1, 1) := by decide +kernel
theorem dX1_leastLeft_22 : decode cX1_leastLeft 22 = .ok (.isub, 1) := by decide +kernel
theorem dX1_leastLeft_23 : decode cX1_leastLeft 23 = .ok (.iaload, 1) := by decide +kernel
theorem dX1_leastLeft_24 : decode cX1_leastLeft 24 = .ok (.invokevirtual 77, 3) := by decide +kernel
theorem dX1_leastLeft_27 : decode cX1_leastLeft 27 = .ok (.goto 9, 3) := by decide +kernel
theorem dX1_leastLeft_30 : decode cX1_leastLeft 30 = .ok (.aload_n 0, 1) := by decide +kernel
theorem dX1_leastLeft_31 : decode cX1_leastLeft 31 = .ok (.getfield 28, 3) := by decide +kernel
theorem dX1_leastLeft_34 : decode cX1_leastLeft 34 = .ok (.iconst 0, 1) := by decide +kernel
theorem dX1_leastLeft_35 : decode cX1_leastLeft 35 = .ok (.iaload, 1) := by decide +kernel
theorem dX1_leastLeft_36 : decode cX1_leastLeft 36 = .ok (.istore_n 3, 1) := by decide +kernel
theorem dX1_leastLeft_37 : decode cX1_leastLeft 37 = .ok (.aload_n 0, 1) := by decide +kernel
theorem dX1_leastLeft_38 : decode cX1_leastLeft 38 = .ok (.getfield 18, 3) := by decide +kernel
theorem dX1_leastLeft_41 : decode cX1_leastLeft 41 = .ok (.iload_n 1, 1) := by decide +kernel
theorem dX1_leastLeft_42 : decode cX1_leastLeft 42 = .ok (.iaload, 1) := by decide +kernel
theorem dX1_leastLeft_43 : decode cX1_leastLeft 43 = .ok (.iload_n 3, 1) := by decide +kernel
theorem dX1_leastLeft_44 : decode cX1_leastLeft 44 = .ok (.iload_n 2, 1) := by decide +kernel
theorem dX1_leastLeft_45 : decode cX1_leastLeft 45 = .ok (.isub, 1) := by decide +kernel
theorem dX1_leastLeft_46 : decode cX1_leastLeft 46 = .ok (.invokestatic 65, 3) := by decide +kernel
theorem dX1_leastLeft_49 : decode cX1_leastLeft 49 = .ok (.ireturn, 1) := by decide +kernel
theorem dX1_mostLeft_0 : decode cX1_mostLeft 0 = .ok (.aload_n 0, 1) := by decide +kernel
theorem dX1_mostLeft_1 : decode cX1_mostLeft 1 = .ok (.iload_n 1, 1) := by decide +kernel
theorem dX1_mostLeft_2 : decode cX1_mostLeft 2 = .ok (.invokevirtual 74, 3) := by decide +kernel
theorem dX1_mostLeft_5 : decode cX1_mostLeft 5 = .ok (.ifCond .ne 5, 3) := by decide +kernel
theorem dX1_mostLeft_8 : decode cX1_mostLeft 8 = .ok (.iconst 0, 1) := by decide +kernel
theorem dX1_mostLeft_9 : decode cX1_mostLeft 9 = .ok (.ireturn, 1) := by decide +kernel
theorem dX1_mostLeft_10 : decode cX1_mostLeft 10 = .ok (.iload_n 1, 1) := by decide +kernel
theorem dX1_mostLeft_11 : decode cX1_mostLeft 11 = .ok (.ifCond .le 19, 3) := by decide +kernel
theorem dX1_mostLeft_14 : decode cX1_mostLeft 14 = .ok (.aload_n 0, 1) := by decide +kernel
theorem dX1_mostLeft_15 : decode cX1_mostLeft 15 = .ok (.iload_n 1, 1) := by decide +kernel
theorem dX1_mostLeft_16 : decode cX1_mostLeft 16 = .ok (.aload_n 0, 1) := by decide +kernel
theorem dX1_mostLeft_17 : decode cX1_mostLeft 17 = .ok (.getfield 21, 3) := by decide +kernel
theorem dX1_mostLeft_20 : decode cX1_mostLeft 20 = .ok (.iload_n 1, 1) := by decide +kernel
theorem dX1_mostLeft_21 : decode cX1_mostLeft 21 = .ok (.iconst 1, 1) := by decide +kernel
theorem dX1_mostLeft_22 : decode cX1_mostLeft 22 = .ok (.isub, 1) := by decide +kernel
theorem dX1_mostLeft_23 : decode cX1_mostLeft 23 = .ok (.iaload, 1) := by decide +kernel
theorem dX1_mostLeft_24 : decode cX1_mostLeft 24 = .ok (.invokevirtual 77, 3) := by decide +kernel
theorem dX1_mostLeft_27 : decode cX1_mostLeft 27 = .ok (.goto 9, 3) := by decide +kernel
theorem dX1_mostLeft_30 : decode cX1_mostLeft 30 = .ok (.aload_n 0, 1) := by decide +kernel
theorem dX1_mostLeft_31 : decode cX1_mostLeft 31 = .ok (.getfield 28, 3) := by decide +kernel
theorem dX1_mostLeft_34 : decode cX1_mostLeft 34 = .ok (.iconst 0, 1) := by decide +kernel
theorem dX1_mostLeft_35 : decode cX1_mostLeft 35 = .ok (.iaload, 1) := by decide +kernel
theorem dX1_mostLeft_36 : decode cX1_mostLeft 36 = .ok (.istore_n 3, 1) := by decide +kernel
theorem dX1_mostLeft_37 : decode cX1_mostLeft 37 = .ok (.aload_n 0, 1) := by decide +kernel
theorem dX1_mostLeft_38 : decode cX1_mostLeft 38 = .ok (.getfield 21, 3) := by decide +kernel
theorem dX1_mostLeft_41 : decode cX1_mostLeft 41 = .ok (.iload_n 1, 1) := by decide +kernel
theorem dX1_mostLeft_42 : decode cX1_mostLeft 42 = .ok (.iaload, 1) := by decide +kernel
theorem dX1_mostLeft_43 : decode cX1_mostLeft 43 = .ok (.iload_n 3, 1) := by decide +kernel
theorem dX1_mostLeft_44 : decode cX1_mostLeft 44 = .ok (.iload_n 2, 1) := by decide +kernel
theorem dX1_mostLeft_45 : decode cX1_mostLeft 45 = .ok (.isub, 1) := by decide +kernel
theorem dX1_mostLeft_46 : decode cX1_mostLeft 46 = .ok (.invokestatic 71, 3) := by decide +kernel
theorem dX1_mostLeft_49 : decode cX1_mostLeft 49 = .ok (.ireturn, 1) := by decide +kernel
theorem dX2_init_0 : decode cX2_init 0 = .ok (.aload_n 0, 1) := by decide +kernel
theorem dX2_init_1 : decode cX2_init 1 = .ok (.invokespecial 3, 3) := by decide +kernel
theorem dX2_init_4 : decode cX2_init 4 = .ok (.aload_n 0, 1) := by decide +kernel
theorem dX2_init_5 : decode cX2_init 5 = .ok (.bipush 12, 2) := by decide +kernel
theorem dX2_init_7 : decode cX2_init 7 = .ok (.newarray .int, 2) := by decide +kernel
theorem dX2_init_9 : decode cX2_init 9 = .ok (.putfield 9, 3) := by decide +kernel
theorem dX2_init_12 : decode cX2_init 12 = .ok (.aload_n 0, 1) := by decide +kernel
theorem dX2_init_13 : decode cX2_init 13 = .ok (.iconst 3, 1) := by decide +kernel
theorem dX2_init_14 : decode cX2_init 14 = .ok (.newarray .int, 2) := by decide +kernel
theorem dX2_init_16 : decode cX2_init 16 = .ok (.putfield 15, 3) := by decide +kernel
theorem dX2_init_19 : decode cX2_init 19 = .ok (.aload_n 0, 1) := by decide +kernel
theorem dX2_init_20 : decode cX2_init 20 = .ok (.bipush 12, 2) := by decide +kernel
theorem dX2_init_22 : decode cX2_init 22 = .ok (.newarray .int, 2) := by decide +kernel
theorem dX2_init_24 : decode cX2_init 24 = .ok (.putfield 18, 3) := by decide +kernel
theorem dX2_init_27 : decode cX2_init 27 = .ok (.aload_n 0, 1) := by decide +kernel
theorem dX2_init_28 : decode cX2_init 28 = .ok (.iconst 0, 1) := by decide +kernel
theorem dX2_init_29 : decode cX2_init 29 = .ok (.putfield 21, 3) := by decide +kernel
theorem dX2_init_32 : decode cX2_init 32 = .ok (.aload_n 0, 1) := by decide +kernel
theorem dX2_init_33 : decode cX2_init 33 = .ok (.iconst 0, 1) := by decide +kernel
theorem dX2_init_34 : decode cX2_init 34 = .ok (.putfield 25, 3) := by decide +kernel
theorem dX2_init_37 : decode cX2_init 37 = .ok (.aload_n 0, 1) := by decide +kernel
theorem dX2_init_38 : decode cX2_init 38 = .ok (.iconst (-1), 1) := by decide +kernel
theorem dX2_init_39 : decode cX2_init 39 = .ok (.putfield 28, 3) := by decide +kernel
theorem dX2_init_42 : decode cX2_init 42 = .ok (.aload_n 0, 1) := by decide +kernel
theorem dX2_init_43 : decode cX2_init 43 = .ok (.iconst 0, 1) := by decide +kernel
theorem dX2_init_44 : decode cX2_init 44 = .ok (.putfield 31, 3) := by decide +kernel
theorem dX2_init_47 : decode cX2_init 47 = .ok (.iconst 0, 1) := by decide +kernel
theorem dX2_init_48 : decode cX2_init 48 = .ok (.istore_n 1, 1) := by decide +kernel
theorem dX2_init_49 : decode cX2_init 49 = .ok (.iload_n 1, 1) := by decide +kernel
theorem dX2_init_50 : decode cX2_init 50 = .ok (.iconst 3, 1) := by decide +kernel
theorem dX2_init_51 : decode cX2_init 51 = .ok (.if_icmp .ge 16, 3) := by decide +kernel
theorem dX2_init_54 : decode cX2_init 54 = .ok (.aload_n 0, 1) := by decide +kernel
theorem dX2_init_55 : decode cX2_init 55 = .ok (.getfield 15, 3) := by decide +kernel
theorem dX2_init_58 : decode cX2_init 58 = .ok (.iload_n 1, 1) := by decide +kernel
theorem dX2_init_59 : decode cX2_init 59 = .ok (.iconst (-1), 1) := by decide +kernel
theorem dX2_init_60 : decode cX2_init 60 = .ok (.iastore, 1) := by decide +kernel
theorem dX2_init_61 : decode cX2_init 61 = .ok (.iinc 1 1, 3) := by decide +kernel
theorem dX2_init_64 : decode cX2_init 64 = .ok (.goto (-15), 3) := by decide +kernel
theorem dX2_init_67 : decode cX2_init 67 = .ok (.iconst 0, 1) := by decide +kernel
theorem dX2_init_68 : decode cX2_init 68 = .ok (.istore_n 1, 1) := by decide +kernel
theorem dX2_init_69 : decode cX2_init 69 = .ok (.iload_n 1, 1) := by decide +kernel
theorem dX2_init_70 : decode cX2_init 70 = .ok (.bipush 12, 2) := by decide +kernel
theorem dX2_init_72 : decode cX2_init 72 = .ok (.if_icmp .ge 16, 3) := by decide +kernel
theorem dX2_init_75 : decode cX2_init 75 = .ok (.aload_n 0, 1) := by decide +kernel
theorem dX2_init_76 : decode cX2_init 76 = .ok (.getfield 18, 3) := by decide +kernel
theorem dX2_init_79 : decode cX2_init 79 = .ok (.iload_n 1, 1) := by decide +kernel
theorem dX2_init_80 : decode cX2_init 80 = .ok (.iconst (-1), 1) := by decide +kernel
theorem dX2_init_81 : decode cX2_init 81 = .ok (.iastore, 1) := by decide +kernel
theorem dX2_init_82 : decode cX2_init 82 = .ok (.iinc 1 1, 3) := by decide +kernel
theorem dX2_init_85 : decode cX2_init 85 = .ok (.goto (-16), 3) := by decide +kernel
theorem dX2_init_88 : decode cX2_init 88 = .ok (.return_, 1) := by decide +kernel
theorem dX2_becomes_0 : decode cX2_becomes 0 = .ok (.aload_n 1, 1) := by decide +kernel
theorem dX2_becomes_1 : decode cX2_becomes 1 = .ok (.getfield 9, 3) := by decide +kernel
theorem dX2_becomes_4 : decode cX2_becomes 4 = .ok (.iconst 0, 1) := by decide +kernel
theorem dX2_becomes_5 : decode cX2_becomes 5 = .ok (.aload_n 0, 1) := by decide +kernel
theorem dX2_becomes_6 : decode cX2_becomes 6 = .ok (.getfield 9, 3) := by decide +kernel
theorem dX2_becomes_9 : decode cX2_becomes 9 = .ok (.iconst 0, 1) := by decide +kernel
theorem dX2_becomes_10 : decode cX2_becomes 10 = .ok (.bipush 12, 2) := by decide +kernel
theorem dX2_becomes_12 : decode cX2_becomes 12 = .ok (.invokestatic 34, 3) := by decide +kernel
theorem dX2_becomes_15 : decode cX2_becomes 15 = .ok (.aload_n 1, 1) := by decide +kernel
theorem dX2_becomes_16 : decode cX2_becomes 16 = .ok (.getfield 15, 3) := by decide +kernel
theorem dX2_becomes_19 : decode cX2_becomes 19 = .ok (.iconst 0, 1) := by decide +kernel
theorem dX2_becomes_20 : decode cX2_becomes 20 = .ok (.aload_n 0, 1) := by decide +kernel
theorem dX2_becomes_21 : decode cX2_becomes 21 = .ok (.getfield 15, 3) := by decide +kernel
theorem dX2_becomes_24 : decode cX2_becomes 24 = .ok (.iconst 0, 1) := by decide +kernel
theorem dX2_becomes_25 : decode cX2_becomes 25 = .ok (.iconst 3, 1) := by decide +kernel
theorem dX2_becomes_26 : decode cX2_becomes 26 = .ok (.invokestatic 34, 3) := by decide +kernel
theorem dX2_becomes_29 : decode cX2_becomes 29 = .ok (.aload_n 1, 1) := by decide +kernel
theorem dX2_becomes_30 : decode cX2_becomes 30 = .ok (.getfield 18, 3) := by decide +kernel
theorem dX2_becomes_33 : decode cX2_becomes 33 = .ok (.iconst 0, 1) := by decide +kernel
theorem dX2_becomes_34 : decode cX2_becomes 34 = .ok (.aload_n 0, 1) := by decide +kernel
theorem dX2_becomes_35 : decode cX2_becomes 35 = .ok (.getfield 18, 3) := by decide +kernel
theorem dX2_becomes_38 : decode cX2_becomes 38 = .ok (.iconst 0, 1) := by decide +kernel
theorem dX2_becomes_39 : decode cX2_becomes 39 = .ok (.bipush 12, 2) := by decide +kernel
theorem dX2_becomes_41 : decode cX2_becomes 41 = .ok (.invokestatic 34, 3) := by decide +kernel
theorem dX2_becomes_44 : decode cX2_becomes 44 = .ok (.aload_n 0, 1) := by decide +kernel
theorem dX2_becomes_45 : decode cX2_becomes 45 = .ok (.aload_n 1, 1) := by decide +kernel
theorem dX2_becomes_46 : decode cX2_becomes 46 = .ok (.getfield 21, 3) := by decide +kernel
theorem dX2_becomes_49 : decode cX2_becomes 49 = .ok (.putfield 21, 3) := by decide +kernel
theorem dX2_becomes_52 : decode cX2_becomes 52 = .ok (.aload_n 0, 1) := by decide +kernel
theorem dX2_becomes_53 : decode cX2_becomes 53 = .ok (.aload_n 1, 1) := by decide +kernel
theorem dX2_becomes_54 : decode cX2_becomes 54 = .ok (.getfield 25, 3) := by decide +kernel
theorem dX2_becomes_57 : decode cX2_becomes 57 = .ok (.putfield 25, 3) := by decide +kernel
theorem dX2_becomes_60 : decode cX2_becomes 60 = .ok (.aload_n 0, 1) := by decide +kernel
theorem dX2_becomes_61 : decode cX2_becomes 61 = .ok (.aload_n 1, 1) := by decide +kernel
theorem dX2_becomes_62 : decode cX2_becomes 62 = .ok (.getfield 28, 3) := by decide +kernel
theorem dX2_becomes_65 : decode cX2_becomes 65 = .ok (.putfield 28, 3) := by decide +kernel
theorem dX2_becomes_68 : decode cX2_becomes 68 = .ok (.aload_n 0, 1) := by decide +kernel
theorem dX2_becomes_69 : decode cX2_becomes 69 = .ok (.aload_n 1, 1) := by decide +kernel
theorem dX2_becomes_70 : decode cX2_becomes 70 = .ok (.getfield 31, 3) := by decide +kernel
theorem dX2_becomes_73 : decode cX2_becomes 73 = .ok (.putfield 31, 3) := by decide +kernel
theorem dX2_becomes_76 : decode cX2_becomes 76 = .ok (.return_, 1) := by decide +kernel
theorem dX2_has_0 : decode cX2_has 0 = .ok (.iload_n 1, 1) := by decide +kernel
theorem dX2_has_1 : decode cX2_has 1 = .ok (.iconst 0, 1) := by decide +kernel
theorem dX2_has_2 : decode cX2_has 2 = .ok (.aload_n 0, 1) := by decide +kernel
theorem dX2_has_3 : decode cX2_has 3 = .ok (.getfield 21, 3) := by decide +kernel
theorem dX2_has_6 : decode cX2_has 6 = .ok (.iconst 1, 1) := by decide +kernel
theorem dX2_has_7 : decode cX2_has 7 = .ok (.isub, 1) := by decide +kernel
theorem dX2_has_8 : decode cX2_has 8 = .ok (.invokestatic 40, 3) := by decide +kernel
theorem dX2_has_11 : decode cX2_has 11 = .ok (.ireturn, 1) := by decide +kernel
theorem dX2_isPrinted_0 : decode cX2_isPrinted 0 = .ok (.aload_n 0, 1) := by decide +kernel
theorem dX2_isPrinted_1 : decode cX2_isPrinted 1 = .ok (.getfield 18, 3) := by decide +kernel
theorem dX2_isPrinted_4 : decode cX2_isPrinted 4 = .ok (.iload_n 1, 1) := by decide +kernel
theorem dX2_isPrinted_5 : decode cX2_isPrinted 5 = .ok (.iaload, 1) := by decide +kernel
theorem dX2_isPrinted_6 : decode cX2_isPrinted 6 = .ok (.iconst (-1), 1) := by decide +kernel
theorem dX2_isPrinted_7 : decode cX2_isPrinted 7 = .ok (.if_icmp .eq 7, 3) := by decide +kernel
theorem dX2_isPrinted_10 : decode cX2_isPrinted 10 = .ok (.iconst 1, 1) := by decide +kernel
theorem dX2_isPrinted_11 : decode cX2_isPrinted 11 = .ok (.goto 4, 3) := by decide +kernel
theorem dX2_isPrinted_14 : decode cX2_isPrinted 14 = .ok (.iconst 0, 1) := by decide +kernel
theorem dX2_isPrinted_15 : decode cX2_isPrinted 15 = .ok (.ireturn, 1) := by decide +kernel
theorem dX2_isFrozen_0 : decode cX2_isFrozen 0 = .ok (.aload_n 0, 1) := by decide +kernel
theorem dX2_isFrozen_1 : decode cX2_isFrozen 1 = .ok (.getfield 25, 3) := by decide +kernel
theorem dX2_isFrozen_4 : decode cX2_isFrozen 4 = .ok (.iload_n 1, 1) := by decide +kernel
theorem dX2_isFrozen_5 : decode cX2_isFrozen 5 = .ok (.ishr, 1) := by decide +kernel
theorem dX2_isFrozen_6 : decode cX2_isFrozen 6 = .ok (.iconst 1, 1) := by decide +kernel
theorem dX2_isFrozen_7 : decode cX2_isFrozen 7 = .ok (.iand, 1) := by decide +kernel
theorem dX2_isFrozen_8 : decode cX2_isFrozen 8 = .ok (.iconst 1, 1) := by decide +kernel
theorem dX2_isFrozen_9 : decode cX2_isFrozen 9 = .ok (.if_icmp .ne 7, 3) := by decide +kernel
theorem dX2_isFrozen_12 : decode cX2_isFrozen 12 = .ok (.iconst 1, 1) := by decide +kernel
theorem dX2_isFrozen_13 : decode cX2_isFrozen 13 = .ok (.goto 4, 3) := by decide +kernel
theorem dX2_isFrozen_16 : decode cX2_isFrozen 16 = .ok (.iconst 0, 1) := by decide +kernel
theorem dX2_isFrozen_17 : decode cX2_isFrozen 17 = .ok (.ireturn, 1) := by decide +kernel
theorem dX2_adds_0 : decode cX2_adds 0 = .ok (.iload_n 1, 1) := by decide +kernel
theorem dX2_adds_1 : decode cX2_adds 1 = .ok (.iconst 1, 1) := by decide +kernel
theorem dX2_adds_2 : decode cX2_adds 2 = .ok (.bipush 99, 2) := by decide +kernel
theorem dX2_adds_4 : decode cX2_adds 4 = .ok (.invokestatic 40, 3) := by decide +kernel
theorem dX2_adds_7 : decode cX2_adds 7 = .ok (.ifCond .ne 6, 3) := by decide +kernel
theorem dX2_adds_10 : decode cX2_adds 10 = .ok (.bipush (-2), 2) := by decide +kernel
theorem dX2_adds_12 : decode cX2_adds 12 = .ok (.ireturn, 1) := by decide +kernel
theorem dX2_adds_13 : decode cX2_adds 13 = .ok (.aload_n 0, 1) := by decide +kernel
theorem dX2_adds_14 : decode cX2_adds 14 = .ok (.getfield 21, 3) := by decide +kernel
theorem dX2_adds_17 : decode cX2_adds 17 = .ok (.bipush 12, 2) := by decide +kernel
theorem dX2_adds_19 : decode cX2_adds 19 = .ok (.if_icmp .lt 6, 3) := by decide +kernel
theorem dX2_adds_22 : decode cX2_adds 22 = .ok (.bipush (-4), 2) := by decide +kernel
theorem dX2_adds_24 : decode cX2_adds 24 = .ok (.ireturn, 1) := by decide +kernel
theorem dX2_adds_25 : decode cX2_adds 25 = .ok (.aload_n 0, 1) := by decide +kernel
theorem dX2_adds_26 : decode cX2_adds 26 = .ok (.getfield 9, 3) := by decide +kernel
theorem dX2_adds_29 : decode cX2_adds 29 = .ok (.aload_n 0, 1) := by decide +kernel
theorem dX2_adds_30 : decode cX2_adds 30 = .ok (.getfield 21, 3) := by decide +kernel
theorem dX2_adds_33 : decode cX2_adds 33 = .ok (.iload_n 1, 1) := by decide +kernel
theorem dX2_adds_34 : decode cX2_adds 34 = .ok (.iastore, 1) := by decide +kernel
theorem dX2_adds_35 : decode cX2_adds 35 = .ok (.aload_n 0, 1) := by decide +kernel
theorem dX2_adds_36 : decode cX2_adds 36 = .ok (.dup, 1) := by decide +kernel
theorem dX2_adds_37 : decode cX2_adds 37 = .ok (.getfield 21, 3) := by decide +kernel
theorem dX2_adds_40 : decode cX2_adds 40 = .ok (.iconst 1, 1) := by decide +kernel
theorem dX2_adds_41 : decode cX2_adds 41 = .ok (.iadd, 1) := by decide +kernel
theorem dX2_adds_42 : decode cX2_adds 42 = .ok (.putfield 21, 3) := by decide +kernel
theorem dX2_adds_45 : decode cX2_adds 45 = .ok (.aload_n 0, 1) := by decide +kernel
theorem dX2_adds_46 : decode cX2_adds 46 = .ok (.getfield 21, 3) := by decide +kernel
theorem dX2_adds_49 : decode cX2_adds 49 = .ok (.iconst 1, 1) := by decide +kernel
theorem dX2_adds_50 : decode cX2_adds 50 = .ok (.isub, 1) := by decide +kernel
theorem dX2_adds_51 : decode cX2_adds 51 = .ok (.ireturn, 1) := by decide +kernel
theorem dX2_reindicates_0 : decode cX2_reindicates 0 = .ok (.aload_n 0, 1) := by decide +kernel
theorem dX2_reindicates_1 : decode cX2_reindicates 1 = .ok (.iload_n 1, 1) := by decide +kernel
theorem dX2_reindicates_2 : decode cX2_reindicates 2 = .ok (.invokevirtual 44, 3) := by decide +kernel
theorem dX2_reindicates_5 : decode cX2_reindicates 5 = .ok (.ifCond .eq 13, 3) := by decide +kernel
theorem dX2_reindicates_8 : decode cX2_reindicates 8 = .ok (.iload_n 2, 1) := by decide +kernel
theorem dX2_reindicates_9 : decode cX2_reindicates 9 = .ok (.iconst 1, 1) := by decide +kernel
theorem dX2_reindicates_10 : decode cX2_reindicates 10 = .ok (.bipush 99, 2) := by decide +kernel
theorem dX2_reindicates_12 : decode cX2_reindicates 12 = .ok (.invokestatic 40, 3) := by decide +kernel
theorem dX2_reindicates_15 : decode cX2_reindicates 15 = .ok (.ifCond .ne 6, 3) := by decide +kernel
theorem dX2_reindicates_18 : decode cX2_reindicates 18 = .ok (.bipush (-2), 2) := by decide +kernel
theorem dX2_reindicates_20 : decode cX2_reindicates 20 = .ok (.ireturn, 1) := by decide +kernel
theorem dX2_reindicates_21 : decode cX2_reindicates 21 = .ok (.aload_n 0, 1) := by decide +kernel
theorem dX2_reindicates_22 : decode cX2_reindicates 22 = .ok (.getfield 9, 3) := by decide +kernel
theorem dX2_reindicates_25 : decode cX2_reindicates 25 = .ok (.iload_n 1, 1) := by decide +kernel
theorem dX2_reindicates_26 : decode cX2_reindicates 26 = .ok (.iaload, 1) := by decide +kernel
theorem dX2_reindicates_27 : decode cX2_reindicates 27 = .ok (.istore_n 3, 1) := by decide +kernel
theorem dX2_reindicates_28 : decode cX2_reindicates 28 = .ok (.aload_n 0, 1) := by decide +kernel
theorem dX2_reindicates_29 : decode cX2_reindicates 29 = .ok (.getfield 9, 3) := by decide +kernel
theorem dX2_reindicates_32 : decode cX2_reindicates 32 = .ok (.iload_n 1, 1) := by decide +kernel
theorem dX2_reindicates_33 : decode cX2_reindicates 33 = .ok (.iload_n 2, 1) := by decide +kernel
theorem dX2_reindicates_34 : decode cX2_reindicates 34 = .ok (.iastore, 1) := by decide +kernel
theorem dX2_reindicates_35 : decode cX2_reindicates 35 = .ok (.iload_n 3, 1) := by decide +kernel
theorem dX2_reindicates_36 : decode cX2_reindicates 36 = .ok (.ireturn, 1) := by decide +kernel
theorem dX2_tells_0 : decode cX2_tells 0 = .ok (.iload_n 1, 1) := by decide +kernel
theorem dX2_tells_1 : decode cX2_tells 1 = .ok (.invokestatic 48, 3) := by decide +kernel
theorem dX2_tells_4 : decode cX2_tells 4 = .ok (.ifCond .eq 14, 3) := by decide +kernel
theorem dX2_tells_7 : decode cX2_tells 7 = .ok (.iload_n 2, 1) := by decide +kernel
theorem dX2_tells_8 : decode cX2_tells 8 = .ok (.iconst 0, 1) := by decide +kernel
theorem dX2_tells_9 : decode cX2_tells 9 = .ok (.sipush 999, 3) := by decide +kernel
theorem dX2_tells_12 : decode cX2_tells 12 = .ok (.invokestatic 40, 3) := by decide +kernel
theorem dX2_tells_15 : decode cX2_tells 15 = .ok (.ifCond .ne 6, 3) := by decide +kernel
theorem dX2_tells_18 : decode cX2_tells 18 = .ok (.bipush (-2), 2) := by decide +kernel
theorem dX2_tells_20 : decode cX2_tells 20 = .ok (.ireturn, 1) := by decide +kernel
theorem dX2_tells_21 : decode cX2_tells 21 = .ok (.aload_n 0, 1) := by decide +kernel
theorem dX2_tells_22 : decode cX2_tells 22 = .ok (.getfield 21, 3) := by decide +kernel
theorem dX2_tells_25 : decode cX2_tells 25 = .ok (.iconst 4, 1) := by decide +kernel
theorem dX2_tells_26 : decode cX2_tells 26 = .ok (.iload_n 1, 1) := by decide +kernel
theorem dX2_tells_27 : decode cX2_tells 27 = .ok (.iconst 1, 1) := by decide +kernel
theorem dX2_tells_28 : decode cX2_tells 28 = .ok (.iadd, 1) := by decide +kernel
theorem dX2_tells_29 : decode cX2_tells 29 = .ok (.imul, 1) := by decide +kernel
theorem dX2_tells_30 : decode cX2_tells 30 = .ok (.if_icmp .ge 6, 3) := by decide +kernel
theorem dX2_tells_33 : decode cX2_tells 33 = .ok (.bipush (-3), 2) := by decide +kernel
theorem dX2_tells_35 : decode cX2_tells 35 = .ok (.ireturn, 1) := by decide +kernel
theorem dX2_tells_36 : decode cX2_tells 36 = .ok (.aload_n 0, 1) := by decide +kernel
theorem dX2_tells_37 : decode cX2_tells 37 = .ok (.getfield 15, 3) := by decide +kernel
theorem dX2_tells_40 : decode cX2_tells 40 = .ok (.iload_n 1, 1) := by decide +kernel
theorem dX2_tells_41 : decode cX2_tells 41 = .ok (.iaload, 1) := by decide +kernel
theorem dX2_tells_42 : decode cX2_tells 42 = .ok (.istore_n 3, 1) := by decide +kernel
theorem dX2_tells_43 : decode cX2_tells 43 = .ok (.aload_n 0, 1) := by decide +kernel
theorem dX2_tells_44 : decode cX2_tells 44 = .ok (.getfield 15, 3) := by decide +kernel
theorem dX2_tells_47 : decode cX2_tells 47 = .ok (.iload_n 1, 1) := by decide +kernel
theorem dX2_tells_48 : decode cX2_tells 48 = .ok (.iload_n 2, 1) := by decide +kernel
theorem dX2_tells_49 : decode cX2_tells 49 = .ok (.iastore, 1) := by decide +kernel
theorem dX2_tells_50 : decode cX2_tells 50 = .ok (.iload_n 3, 1) := by decide +kernel
theorem dX2_tells_51 : decode cX2_tells 51 = .ok (.ireturn, 1) := by decide +kernel
theorem dX2_untells_0 : decode cX2_untells 0 = .ok (.iload_n 1, 1) := by decide +kernel
theorem dX2_untells_1 : decode cX2_untells 1 = .ok (.invokestatic 48, 3) := by decide +kernel
theorem dX2_untells_4 : decode cX2_untells 4 = .ok (.ifCond .ne 6, 3) := by decide +kernel
theorem dX2_untells_7 : decode cX2_untells 7 = .ok (.bipush (-2), 2) := by decide +kernel
theorem dX2_untells_9 : decode cX2_untells 9 = .ok (.ireturn, 1) := by decide +kernel
theorem dX2_untells_10 : decode cX2_untells 10 = .ok (.aload_n 0, 1) := by decide +kernel
theorem dX2_untells_11 : decode cX2_untells 11 = .ok (.getfield 15, 3) := by decide +kernel
theorem dX2_untells_14 : decode cX2_untells 14 = .ok (.iload_n 1, 1) := by decide +kernel
theorem dX2_untells_15 : decode cX2_untells 15 = .ok (.iaload, 1) := by decide +kernel
theorem dX2_untells_16 : decode cX2_untells 16 = .ok (.iconst (-1), 1) := by decide +kernel
theorem dX2_untells_17 : decode cX2_untells 17 = .ok (.if_icmp .ne 6, 3) := by decide +kernel
theorem dX2_untells_20 : decode cX2_untells 20 = .ok (.bipush (-3), 2) := by decide +kernel
theorem dX2_untells_22 : decode cX2_untells 22 = .ok (.ireturn, 1) := by decide +kernel
theorem dX2_untells_23 : decode cX2_untells 23 = .ok (.aload_n 0, 1) := by decide +kernel
theorem dX2_untells_24 : decode cX2_untells 24 = .ok (.getfield 15, 3) := by decide +kernel
theorem dX2_untells_27 : decode cX2_untells 27 = .ok (.iload_n 1, 1) := by decide +kernel
theorem dX2_untells_28 : decode cX2_untells 28 = .ok (.iaload, 1) := by decide +kernel
theorem dX2_untells_29 : decode cX2_untells 29 = .ok (.istore_n 2, 1) := by decide +kernel
theorem dX2_untells_30 : decode cX2_untells 30 = .ok (.aload_n 0, 1) := by decide +kernel
theorem dX2_untells_31 : decode cX2_untells 31 = .ok (.getfield 15, 3) := by decide +kernel
theorem dX2_untells_34 : decode cX2_untells 34 = .ok (.iload_n 1, 1) := by decide +kernel
theorem dX2_untells_35 : decode cX2_untells 35 = .ok (.iconst (-1), 1) := by decide +kernel
theorem dX2_untells_36 : decode cX2_untells 36 = .ok (.iastore, 1) := by decide +kernel
theorem dX2_untells_37 : decode cX2_untells 37 = .ok (.iload_n 2, 1) := by decide +kernel
theorem dX2_untells_38 : decode cX2_untells 38 = .ok (.ireturn, 1) := by decide +kernel
theorem dX2_ices_0 : decode cX2_ices 0 = .ok (.aload_n 0, 1) := by decide +kernel
theorem dX2_ices_1 : decode cX2_ices 1 = .ok (.iload_n 1, 1) := by decide +kernel
theorem dX2_ices_2 : decode cX2_ices 2 = .ok (.invokevirtual 44, 3) := by decide +kernel
theorem dX2_ices_5 : decode cX2_ices 5 = .ok (.ifCond .eq 12, 3) := by decide +kernel
theorem dX2_ices_8 : decode cX2_ices 8 = .ok (.iload_n 2, 1) := by decide +kernel
theorem dX2_ices_9 : decode cX2_ices 9 = .ok (.iconst 0, 1) := by decide +kernel
theorem dX2_ices_10 : decode cX2_ices 10 = .ok (.iconst 1, 1) := by decide +kernel
theorem dX2_ices_11 : decode cX2_ices 11 = .ok (.invokestatic 40, 3) := by decide +kernel
theorem dX2_ices_14 : decode cX2_ices 14 = .ok (.ifCond .ne 6, 3) := by decide +kernel
theorem dX2_ices_17 : decode cX2_ices 17 = .ok (.bipush (-2), 2) := by decide +kernel
theorem dX2_ices_19 : decode cX2_ices 19 = .ok (.ireturn, 1) := by decide +kernel
theorem dX2_ices_20 : decode cX2_ices 20 = .ok (.aload_n 0, 1) := by decide +kernel
theorem dX2_ices_21 : decode cX2_ices 21 = .ok (.iload_n 1, 1) := by decide +kernel
theorem dX2_ices_22 : decode cX2_ices 22 = .ok (.invokevirtual 51, 3) := by decide +kernel
theorem dX2_ices_25 : decode cX2_ices 25 = .ok (.ifCond .ne 6, 3) := by decide +kernel
theorem dX2_ices_28 : decode cX2_ices 28 = .ok (.bipush (-3), 2) := by decide +kernel
theorem dX2_ices_30 : decode cX2_ices 30 = .ok (.ireturn, 1) := by decide +kernel
theorem dX2_ices_31 : decode cX2_ices 31 = .ok (.iconst 1, 1) := by decide +kernel
theorem dX2_ices_32 : decode cX2_ices 32 = .ok (.iload_n 1, 1) := by decide +kernel
theorem dX2_ices_33 : decode cX2_ices 33 = .ok (.ishl, 1) := by decide +kernel
theorem dX2_ices_34 : decode cX2_ices 34 = .ok (.istore_n 3, 1) := by decide +kernel
theorem dX2_ices_35 : decode cX2_ices 35 = .ok (.aload_n 0, 1) := by decide +kernel
theorem dX2_ices_36 : decode cX2_ices 36 = .ok (.iload_n 2, 1) := by decide +kernel
theorem dX2_ices_37 : decode cX2_ices 37 = .ok (.iconst 1, 1) := by decide +kernel
theorem dX2_ices_38 : decode cX2_ices 38 = .ok (.if_icmp .ne 12, 3) := by decide +kernel
theorem dX2_ices_41 : decode cX2_ices 41 = .ok (.aload_n 0, 1) := by decide +kernel
theorem dX2_ices_42 : decode cX2_ices 42 = .ok (.getfield 25, 3) := by decide +kernel
theorem dX2_ices_45 : decode cX2_ices 45 = .ok (.iload_n 3, 1) := by decide +kernel
theorem dX2_ices_46 : decode cX2_ices 46 = .ok (.ior, 1) := by decide +kernel
theorem dX2_ices_47 : decode cX2_ices 47 = .ok (.goto 11, 3) := by decide +kernel
theorem dX2_ices_50 : decode cX2_ices 50 = .ok (.aload_n 0, 1) := by decide +kernel
theorem dX2_ices_51 : decode cX2_ices 51 = .ok (.getfield 25, 3) := by decide +kernel
theorem dX2_ices_54 : decode cX2_ices 54 = .ok (.iload_n 3, 1) := by decide +kernel
theorem dX2_ices_55 : decode cX2_ices 55 = .ok (.iconst (-1), 1) := by decide +kernel
theorem dX2_ices_56 : decode cX2_ices 56 = .ok (.ixor, 1) := by decide +kernel
theorem dX2_ices_57 : decode cX2_ices 57 = .ok (.iand, 1) := by decide +kernel
theorem dX2_ices_58 : decode cX2_ices 58 = .ok (.putfield 25, 3) := by decide +kernel
theorem dX2_ices_61 : decode cX2_ices 61 = .ok (.aload_n 0, 1) := by decide +kernel
theorem dX2_ices_62 : decode cX2_ices 62 = .ok (.getfield 25, 3) := by decide +kernel
theorem dX2_ices_65 : decode cX2_ices 65 = .ok (.invokestatic 54, 3) := by decide +kernel
theorem dX2_ices_68 : decode cX2_ices 68 = .ok (.ireturn, 1) := by decide +kernel
theorem dX2_bounds_0 : decode cX2_bounds 0 = .ok (.iload_n 1, 1) := by decide +kernel
theorem dX2_bounds_1 : decode cX2_bounds 1 = .ok (.iconst (-1), 1) := by decide +kernel
theorem dX2_bounds_2 : decode cX2_bounds 2 = .ok (.if_icmp .eq 16, 3) := by decide +kernel
theorem dX2_bounds_5 : decode cX2_bounds 5 = .ok (.iload_n 1, 1) := by decide +kernel
theorem dX2_bounds_6 : decode cX2_bounds 6 = .ok (.iconst 0, 1) := by decide +kernel
theorem dX2_bounds_7 : decode cX2_bounds 7 = .ok (.bipush 24, 2) := by decide +kernel
theorem dX2_bounds_9 : decode cX2_bounds 9 = .ok (.invokestatic 40, 3) := by decide +kernel
theorem dX2_bounds_12 : decode cX2_bounds 12 = .ok (.ifCond .ne 6, 3) := by decide +kernel
theorem dX2_bounds_15 : decode cX2_bounds 15 = .ok (.bipush (-2), 2) := by decide +kernel
theorem dX2_bounds_17 : decode cX2_bounds 17 = .ok (.ireturn, 1) := by decide +kernel
theorem dX2_bounds_18 : decode cX2_bounds 18 = .ok (.aload_n 0, 1) := by decide +kernel
theorem dX2_bounds_19 : decode cX2_bounds 19 = .ok (.getfield 28, 3) := by decide +kernel
theorem dX2_bounds_22 : decode cX2_bounds 22 = .ok (.istore_n 2, 1) := by decide +kernel
theorem dX2_bounds_23 : decode cX2_bounds 23 = .ok (.aload_n 0, 1) := by decide +kernel
theorem dX2_bounds_24 : decode cX2_bounds 24 = .ok (.iload_n 1, 1) := by decide +kernel
theorem dX2_bounds_25 : decode cX2_bounds 25 = .ok (.putfield 28, 3) := by decide +kernel
theorem dX2_bounds_28 : decode cX2_bounds 28 = .ok (.iload_n 2, 1) := by decide +kernel
theorem dX2_bounds_29 : decode cX2_bounds 29 = .ok (.ireturn, 1) := by decide +kernel
theorem dX2_shapes_0 : decode cX2_shapes 0 = .ok (.iload_n 1, 1) := by decide +kernel
theorem dX2_shapes_1 : decode cX2_shapes 1 = .ok (.invokestatic 60, 3) := by decide +kernel
theorem dX2_shapes_4 : decode cX2_shapes 4 = .ok (.ifCond .ne 6, 3) := by decide +kernel
theorem dX2_shapes_7 : decode cX2_shapes 7 = .ok (.bipush (-2), 2) := by decide +kernel
theorem dX2_shapes_9 : decode cX2_shapes 9 = .ok (.ireturn, 1) := by decide +kernel
theorem dX2_shapes_10 : decode cX2_shapes 10 = .ok (.aload_n 0, 1) := by decide +kernel
theorem dX2_shapes_11 : decode cX2_shapes 11 = .ok (.getfield 31, 3) := by decide +kernel
theorem dX2_shapes_14 : decode cX2_shapes 14 = .ok (.istore_n 2, 1) := by decide +kernel
theorem dX2_shapes_15 : decode cX2_shapes 15 = .ok (.aload_n 0, 1) := by decide +kernel
theorem dX2_shapes_16 : decode cX2_shapes 16 = .ok (.iload_n 1, 1) := by decide +kernel
theorem dX2_shapes_17 : decode cX2_shapes 17 = .ok (.putfield 31, 3) := by decide +kernel
theorem dX2_shapes_20 : decode cX2_shapes 20 = .ok (.iload_n 2, 1) := by decide +kernel
theorem dX2_shapes_21 : decode cX2_shapes 21 = .ok (.ireturn, 1) := by decide +kernel
theorem dX2_unprints_0 : decode cX2_unprints 0 = .ok (.aload_n 0, 1) := by decide +kernel
theorem dX2_unprints_1 : decode cX2_unprints 1 = .ok (.invokevirtual 63, 3) := by decide +kernel
theorem dX2_unprints_4 : decode cX2_unprints 4 = .ok (.istore_n 1, 1) := by decide +kernel
theorem dX2_unprints_5 : decode cX2_unprints 5 = .ok (.iconst 0, 1) := by decide +kernel
theorem dX2_unprints_6 : decode cX2_unprints 6 = .ok (.istore_n 2, 1) := by decide +kernel
theorem dX2_unprints_7 : decode cX2_unprints 7 = .ok (.iload_n 2, 1) := by decide +kernel
theorem dX2_unprints_8 : decode cX2_unprints 8 = .ok (.bipush 12, 2) := by decide +kernel
theorem dX2_unprints_10 : decode cX2_unprints 10 = .ok (.if_icmp .ge 16, 3) := by decide +kernel
theorem dX2_unprints_13 : decode cX2_unprints 13 = .ok (.aload_n 0, 1) := by decide +kernel
theorem dX2_unprints_14 : decode cX2_unprints 14 = .ok (.getfield 18, 3) := by decide +kernel
theorem dX2_unprints_17 : decode cX2_unprints 17 = .ok (.iload_n 2, 1) := by decide +kernel
theorem dX2_unprints_18 : decode cX2_unprints 18 = .ok (.iconst (-1), 1) := by decide +kernel
theorem dX2_unprints_19 : decode cX2_unprints 19 = .ok (.iastore, 1) := by decide +kernel
theorem dX2_unprints_20 : decode cX2_unprints 20 = .ok (.iinc 2 1, 3) := by decide +kernel
theorem dX2_unprints_23 : decode cX2_unprints 23 = .ok (.goto (-16), 3) := by decide +kernel
theorem dX2_unprints_26 : decode cX2_unprints 26 = .ok (.aload_n 0, 1) := by decide +kernel
theorem dX2_unprints_27 : decode cX2_unprints 27 = .ok (.iconst 0, 1) := by decide +kernel
theorem dX2_unprints_28 : decode cX2_unprints 28 = .ok (.putfield 25, 3) := by decide +kernel
theorem dX2_unprints_31 : decode cX2_unprints 31 = .ok (.iload_n 1, 1) := by decide +kernel
theorem dX2_unprints_32 : decode cX2_unprints 32 = .ok (.ireturn, 1) := by decide +kernel
theorem dX2_printedOnes_0 : decode cX2_printedOnes 0 = .ok (.iconst 0, 1) := by decide +kernel
theorem dX2_printedOnes_1 : decode cX2_printedOnes 1 = .ok (.istore_n 1, 1) := by decide +kernel
theorem dX2_printedOnes_2 : decode cX2_printedOnes 2 = .ok (.iconst 0, 1) := by decide +kernel
theorem dX2_printedOnes_3 : decode cX2_printedOnes 3 = .ok (.istore_n 2, 1) := by decide +kernel
theorem dX2_printedOnes_4 : decode cX2_printedOnes 4 = .ok (.iload_n 2, 1) := by decide +kernel
theorem dX2_printedOnes_5 : decode cX2_printedOnes 5 = .ok (.aload_n 0, 1) := by decide +kernel
theorem dX2_printedOnes_6 : decode cX2_printedOnes 6 = .ok (.getfield 21, 3) := by decide +kernel
theorem dX2_printedOnes_9 : decode cX2_printedOnes 9 = .ok (.if_icmp .ge 25, 3) := by decide +kernel
theorem dX2_printedOnes_12 : decode cX2_printedOnes 12 = .ok (.iload_n 1, 1) := by decide +kernel
theorem dX2_printedOnes_13 : decode cX2_printedOnes 13 = .ok (.aload_n 0, 1) := by decide +kernel
theorem dX2_printedOnes_14 : decode cX2_printedOnes 14 = .ok (.iload_n 2, 1) := by decide +kernel
theorem dX2_printedOnes_15 : decode cX2_printedOnes 15 = .ok (.invokevirtual 51, 3) := by decide +kernel
theorem dX2_printedOnes_18 : decode cX2_printedOnes 18 = .ok (.ifCond .eq 7, 3) := by decide +kernel
theorem dX2_printedOnes_21 : decode cX2_printedOnes 21 = .ok (.iconst 1, 1) := by decide +kernel
theorem dX2_printedOnes_22 : decode cX2_printedOnes 22 = .ok (.goto 4, 3) := by decide +kernel
theorem dX2_printedOnes_25 : decode cX2_printedOnes 25 = .ok (.iconst 0, 1) := by decide +kernel
theorem dX2_printedOnes_26 : decode cX2_printedOnes 26 = .ok (.iadd, 1) := by decide +kernel
theorem dX2_printedOnes_27 : decode cX2_printedOnes 27 = .ok (.istore_n 1, 1) := by decide +kernel
theorem dX2_printedOnes_28 : decode cX2_printedOnes 28 = .ok (.iinc 2 1, 3) := by decide +kernel
theorem dX2_printedOnes_31 : decode cX2_printedOnes 31 = .ok (.goto (-27), 3) := by decide +kernel
theorem dX2_printedOnes_34 : decode cX2_printedOnes 34 = .ok (.iload_n 1, 1) := by decide +kernel
theorem dX2_printedOnes_35 : decode cX2_printedOnes 35 = .ok (.ireturn, 1) := by decide +kernel
theorem dX2_toldOfQuarter_0 : decode cX2_toldOfQuarter 0 = .ok (.iload_n 2, 1) := by decide +kernel
theorem dX2_toldOfQuarter_1 : decode cX2_toldOfQuarter 1 = .ok (.tableswitch 55 0 2 #[27, 34, 41], 27) := by decide +kernel
theorem dX2_toldOfQuarter_28 : decode cX2_toldOfQuarter 28 = .ok (.aload_n 0, 1) := by decide +kernel
theorem dX2_toldOfQuarter_29 : decode cX2_toldOfQuarter 29 = .ok (.getfield 9, 3) := by decide +kernel
theorem dX2_toldOfQuarter_32 : decode cX2_toldOfQuarter 32 = .ok (.iload_n 1, 1) := by decide +kernel
theorem dX2_toldOfQuarter_33 : decode cX2_toldOfQuarter 33 = .ok (.iaload, 1) := by decide +kernel
theorem dX2_toldOfQuarter_34 : decode cX2_toldOfQuarter 34 = .ok (.ireturn, 1) := by decide +kernel
theorem dX2_toldOfQuarter_35 : decode cX2_toldOfQuarter 35 = .ok (.aload_n 0, 1) := by decide +kernel
theorem dX2_toldOfQuarter_36 : decode cX2_toldOfQuarter 36 = .ok (.getfield 18, 3) := by decide +kernel
theorem dX2_toldOfQuarter_39 : decode cX2_toldOfQuarter 39 = .ok (.iload_n 1, 1) := by decide +kernel
theorem dX2_toldOfQuarter_40 : decode cX2_toldOfQuarter 40 = .ok (.iaload, 1) := by decide +kernel
theorem dX2_toldOfQuarter_41 : decode cX2_toldOfQuarter 41 = .ok (.ireturn, 1) := by decide +kernel
theorem dX2_toldOfQuarter_42 : decode cX2_toldOfQuarter 42 = .ok (.aload_n 0, 1) := by decide +kernel
theorem dX2_toldOfQuarter_43 : decode cX2_toldOfQuarter 43 = .ok (.iload_n 1, 1) := by decide +kernel
theorem dX2_toldOfQuarter_44 : decode cX2_toldOfQuarter 44 = .ok (.invokevirtual 67, 3) := by decide +kernel
theorem dX2_toldOfQuarter_47 : decode cX2_toldOfQuarter 47 = .ok (.ifCond .eq 7, 3) := by decide +kernel
theorem dX2_toldOfQuarter_50 : decode cX2_toldOfQuarter 50 = .ok (.iconst 1, 1) := by decide +kernel
theorem dX2_toldOfQuarter_51 : decode cX2_toldOfQuarter 51 = .ok (.goto 4, 3) := by decide +kernel
theorem dX2_toldOfQuarter_54 : decode cX2_toldOfQuarter 54 = .ok (.iconst 0, 1) := by decide +kernel
theorem dX2_toldOfQuarter_55 : decode cX2_toldOfQuarter 55 = .ok (.ireturn, 1) := by decide +kernel
theorem dX2_toldOfQuarter_56 : decode cX2_toldOfQuarter 56 = .ok (.iload_n 1, 1) := by decide +kernel
theorem dX2_toldOfQuarter_57 : decode cX2_toldOfQuarter 57 = .ok (.iconst 4, 1) := by decide +kernel
theorem dX2_toldOfQuarter_58 : decode cX2_toldOfQuarter 58 = .ok (.idiv, 1) := by decide +kernel
theorem dX2_toldOfQuarter_59 : decode cX2_toldOfQuarter 59 = .ok (.ireturn, 1) := by decide +kernel
theorem dX2_toldOfYear_0 : decode cX2_toldOfYear 0 = .ok (.iload_n 2, 1) := by decide +kernel
theorem dX2_toldOfYear_1 : decode cX2_toldOfYear 1 = .ok (.iconst 1, 1) := by decide +kernel
theorem dX2_toldOfYear_2 : decode cX2_toldOfYear 2 = .ok (.if_icmp .ne 9, 3) := by decide +kernel
theorem dX2_toldOfYear_5 : decode cX2_toldOfYear 5 = .ok (.aload_n 0, 1) := by decide +kernel
theorem dX2_toldOfYear_6 : decode cX2_toldOfYear 6 = .ok (.iload_n 1, 1) := by decide +kernel
theorem dX2_toldOfYear_7 : decode cX2_toldOfYear 7 = .ok (.invokevirtual 70, 3) := by decide +kernel
theorem dX2_toldOfYear_10 : decode cX2_toldOfYear 10 = .ok (.ireturn, 1) := by decide +kernel
theorem dX2_toldOfYear_11 : decode cX2_toldOfYear 11 = .ok (.iload_n 2, 1) := by decide +kernel
theorem dX2_toldOfYear_12 : decode cX2_toldOfYear 12 = .ok (.ifCond .eq 13, 3) := by decide +kernel
theorem dX2_toldOfYear_15 : decode cX2_toldOfYear 15 = .ok (.aload_n 0, 1) := by decide +kernel
theorem dX2_toldOfYear_16 : decode cX2_toldOfYear 16 = .ok (.getfield 15, 3) := by decide +kernel
theorem dX2_toldOfYear_19 : decode cX2_toldOfYear 19 = .ok (.iload_n 1, 1) := by decide +kernel
theorem dX2_toldOfYear_20 : decode cX2_toldOfYear 20 = .ok (.iaload, 1) := by decide +kernel
theorem dX2_toldOfYear_21 : decode cX2_toldOfYear 21 = .ok (.iconst (-1), 1) := by decide +kernel
theorem dX2_toldOfYear_22 : decode cX2_toldOfYear 22 = .ok (.if_icmp .ne 10, 3) := by decide +kernel
theorem dX2_toldOfYear_25 : decode cX2_toldOfYear 25 = .ok (.aload_n 0, 1) := by decide +kernel
theorem dX2_toldOfYear_26 : decode cX2_toldOfYear 26 = .ok (.getfield 15, 3) := by decide +kernel
theorem dX2_toldOfYear_29 : decode cX2_toldOfYear 29 = .ok (.iload_n 1, 1) := by decide +kernel
theorem dX2_toldOfYear_30 : decode cX2_toldOfYear 30 = .ok (.iaload, 1) := by decide +kernel
theorem dX2_toldOfYear_31 : decode cX2_toldOfYear 31 = .ok (.ireturn, 1) := by decide +kernel
theorem dX2_toldOfYear_32 : decode cX2_toldOfYear 32 = .ok (.aload_n 0, 1) := by decide +kernel
theorem dX2_toldOfYear_33 : decode cX2_toldOfYear 33 = .ok (.iload_n 1, 1) := by decide +kernel
theorem dX2_toldOfYear_34 : decode cX2_toldOfYear 34 = .ok (.invokevirtual 73, 3) := by decide +kernel
theorem dX2_toldOfYear_37 : decode cX2_toldOfYear 37 = .ok (.sipush 1000, 3) := by decide +kernel
theorem dX2_toldOfYear_40 : decode cX2_toldOfYear 40 = .ok (.iadd, 1) := by decide +kernel
theorem dX2_toldOfYear_41 : decode cX2_toldOfYear 41 = .ok (.ireturn, 1) := by decide +kernel
theorem dX2_toldOfAll_0 : decode cX2_toldOfAll 0 = .ok (.iload_n 1, 1) := by decide +kernel
theorem dX2_toldOfAll_1 : decode cX2_toldOfAll 1 = .ok (.tableswitch 60 0 4 #[35, 40, 45, 50, 55], 35) := by decide +kernel
theorem dX2_toldOfAll_36 : decode cX2_toldOfAll 36 = .ok (.aload_n 0, 1) := by decide +kernel
theorem dX2_toldOfAll_37 : decode cX2_toldOfAll 37 = .ok (.getfield 21, 3) := by decide +kernel
theorem dX2_toldOfAll_40 : decode cX2_toldOfAll 40 = .ok (.ireturn, 1) := by decide +kernel
theorem dX2_toldOfAll_41 : decode cX2_toldOfAll 41 = .ok (.aload_n 0, 1) := by decide +kernel
theorem dX2_toldOfAll_42 : decode cX2_toldOfAll 42 = .ok (.invokevirtual 76, 3) := by decide +kernel
theorem dX2_toldOfAll_45 : decode cX2_toldOfAll 45 = .ok (.ireturn, 1) := by decide +kernel
theorem dX2_toldOfAll_46 : decode cX2_toldOfAll 46 = .ok (.aload_n 0, 1) := by decide +kernel
theorem dX2_toldOfAll_47 : decode cX2_toldOfAll 47 = .ok (.invokevirtual 63, 3) := by decide +kernel
theorem dX2_toldOfAll_50 : decode cX2_toldOfAll 50 = .ok (.ireturn, 1) := by decide +kernel
theorem dX2_toldOfAll_51 : decode cX2_toldOfAll 51 = .ok (.aload_n 0, 1) := by decide +kernel
theorem dX2_toldOfAll_52 : decode cX2_toldOfAll 52 = .ok (.getfield 25, 3) := by decide +kernel
theorem dX2_toldOfAll_55 : decode cX2_toldOfAll 55 = .ok (.ireturn, 1) := by decide +kernel
theorem dX2_toldOfAll_56 : decode cX2_toldOfAll 56 = .ok (.aload_n 0, 1) := by decide +kernel
theorem dX2_toldOfAll_57 : decode cX2_toldOfAll 57 = .ok (.getfield 28, 3) := by decide +kernel
theorem dX2_toldOfAll_60 : decode cX2_toldOfAll 60 = .ok (.ireturn, 1) := by decide +kernel
theorem dX2_toldOfAll_61 : decode cX2_toldOfAll 61 = .ok (.aload_n 0, 1) := by decide +kernel
theorem dX2_toldOfAll_62 : decode cX2_toldOfAll 62 = .ok (.getfield 31, 3) := by decide +kernel
theorem dX2_toldOfAll_65 : decode cX2_toldOfAll 65 = .ok (.ireturn, 1) := by decide +kernel
theorem dX2_yearsTold_0 : decode cX2_yearsTold 0 = .ok (.iconst 0, 1) := by decide +kernel
theorem dX2_yearsTold_1 : decode cX2_yearsTold 1 = .ok (.istore_n 1, 1) := by decide +kernel
theorem dX2_yearsTold_2 : decode cX2_yearsTold 2 = .ok (.iconst 0, 1) := by decide +kernel
theorem dX2_yearsTold_3 : decode cX2_yearsTold 3 = .ok (.istore_n 2, 1) := by decide +kernel
theorem dX2_yearsTold_4 : decode cX2_yearsTold 4 = .ok (.iload_n 2, 1) := by decide +kernel
theorem dX2_yearsTold_5 : decode cX2_yearsTold 5 = .ok (.iconst 3, 1) := by decide +kernel
theorem dX2_yearsTold_6 : decode cX2_yearsTold 6 = .ok (.if_icmp .ge 27, 3) := by decide +kernel
theorem dX2_yearsTold_9 : decode cX2_yearsTold 9 = .ok (.iload_n 1, 1) := by decide +kernel
theorem dX2_yearsTold_10 : decode cX2_yearsTold 10 = .ok (.aload_n 0, 1) := by decide +kernel
theorem dX2_yearsTold_11 : decode cX2_yearsTold 11 = .ok (.getfield 15, 3) := by decide +kernel
theorem dX2_yearsTold_14 : decode cX2_yearsTold 14 = .ok (.iload_n 2, 1) := by decide +kernel
theorem dX2_yearsTold_15 : decode cX2_yearsTold 15 = .ok (.iaload, 1) := by decide +kernel
theorem dX2_yearsTold_16 : decode cX2_yearsTold 16 = .ok (.iconst (-1), 1) := by decide +kernel
theorem dX2_yearsTold_17 : decode cX2_yearsTold 17 = .ok (.if_icmp .eq 7, 3) := by decide +kernel
theorem dX2_yearsTold_20 : decode cX2_yearsTold 20 = .ok (.iconst 1, 1) := by decide +kernel
theorem dX2_yearsTold_21 : decode cX2_yearsTold 21 = .ok (.goto 4, 3) := by decide +kernel
theorem dX2_yearsTold_24 : decode cX2_yearsTold 24 = .ok (.iconst 0, 1) := by decide +kernel
theorem dX2_yearsTold_25 : decode cX2_yearsTold 25 = .ok (.iadd, 1) := by decide +kernel
theorem dX2_yearsTold_26 : decode cX2_yearsTold 26 = .ok (.istore_n 1, 1) := by decide +kernel
theorem dX2_yearsTold_27 : decode cX2_yearsTold 27 = .ok (.iinc 2 1, 3) := by decide +kernel
theorem dX2_yearsTold_30 : decode cX2_yearsTold 30 = .ok (.goto (-26), 3) := by decide +kernel
theorem dX2_yearsTold_33 : decode cX2_yearsTold 33 = .ok (.iload_n 1, 1) := by decide +kernel
theorem dX2_yearsTold_34 : decode cX2_yearsTold 34 = .ok (.ireturn, 1) := by decide +kernel
theorem dX2_indicated_0 : decode cX2_indicated 0 = .ok (.iconst 0, 1) := by decide +kernel
theorem dX2_indicated_1 : decode cX2_indicated 1 = .ok (.istore_n 2, 1) := by decide +kernel
theorem dX2_indicated_2 : decode cX2_indicated 2 = .ok (.iconst 4, 1) := by decide +kernel
theorem dX2_indicated_3 : decode cX2_indicated 3 = .ok (.iload_n 1, 1) := by decide +kernel
theorem dX2_indicated_4 : decode cX2_indicated 4 = .ok (.imul, 1) := by decide +kernel
theorem dX2_indicated_5 : decode cX2_indicated 5 = .ok (.istore_n 3, 1) := by decide +kernel
theorem dX2_indicated_6 : decode cX2_indicated 6 = .ok (.iload_n 3, 1) := by decide +kernel
theorem dX2_indicated_7 : decode cX2_indicated 7 = .ok (.iconst 4, 1) := by decide +kernel
theorem dX2_indicated_8 : decode cX2_indicated 8 = .ok (.iload_n 1, 1) := by decide +kernel
theorem dX2_indicated_9 : decode cX2_indicated 9 = .ok (.iconst 1, 1) := by decide +kernel
theorem dX2_indicated_10 : decode cX2_indicated 10 = .ok (.iadd, 1) := by decide +kernel
theorem dX2_indicated_11 : decode cX2_indicated 11 = .ok (.imul, 1) := by decide +kernel
theorem dX2_indicated_12 : decode cX2_indicated 12 = .ok (.if_icmp .ge 26, 3) := by decide +kernel
theorem dX2_indicated_15 : decode cX2_indicated 15 = .ok (.iload_n 3, 1) := by decide +kernel
theorem dX2_indicated_16 : decode cX2_indicated 16 = .ok (.aload_n 0, 1) := by decide +kernel
theorem dX2_indicated_17 : decode cX2_indicated 17 = .ok (.getfield 21, 3) := by decide +kernel
theorem dX2_indicated_20 : decode cX2_indicated 20 = .ok (.if_icmp .ge 18, 3) := by decide +kernel
theorem dX2_indicated_23 : decode cX2_indicated 23 = .ok (.iload_n 2, 1) := by decide +kernel
theorem dX2_indicated_24 : decode cX2_indicated 24 = .ok (.aload_n 0, 1) := by decide +kernel
theorem dX2_indicated_25 : decode cX2_indicated 25 = .ok (.getfield 9, 3) := by decide +kernel
theorem dX2_indicated_28 : decode cX2_indicated 28 = .ok (.iload_n 3, 1) := by decide +kernel
theorem dX2_indicated_29 : decode cX2_indicated 29 = .ok (.iaload, 1) := by decide +kernel
theorem dX2_indicated_30 : decode cX2_indicated 30 = .ok (.iadd, 1) := by decide +kernel
theorem dX2_indicated_31 : decode cX2_indicated 31 = .ok (.istore_n 2, 1) := by decide +kernel
theorem dX2_indicated_32 : decode cX2_indicated 32 = .ok (.iinc 3 1, 3) := by decide +kernel
theorem dX2_indicated_35 : decode cX2_indicated 35 = .ok (.goto (-29), 3) := by decide +kernel
theorem dX2_indicated_38 : decode cX2_indicated 38 = .ok (.iload_n 2, 1) := by decide +kernel
theorem dX2_indicated_39 : decode cX2_indicated 39 = .ok (.ireturn, 1) := by decide +kernel
theorem dX2_gap_0 : decode cX2_gap 0 = .ok (.aload_n 0, 1) := by decide +kernel
theorem dX2_gap_1 : decode cX2_gap 1 = .ok (.getfield 15, 3) := by decide +kernel
theorem dX2_gap_4 : decode cX2_gap 4 = .ok (.iload_n 1, 1) := by decide +kernel
theorem dX2_gap_5 : decode cX2_gap 5 = .ok (.iaload, 1) := by decide +kernel
theorem dX2_gap_6 : decode cX2_gap 6 = .ok (.aload_n 0, 1) := by decide +kernel
theorem dX2_gap_7 : decode cX2_gap 7 = .ok (.iload_n 1, 1) := by decide +kernel
theorem dX2_gap_8 : decode cX2_gap 8 = .ok (.invokevirtual 70, 3) := by decide +kernel
theorem dX2_gap_11 : decode cX2_gap 11 = .ok (.isub, 1) := by decide +kernel
theorem dX2_gap_12 : decode cX2_gap 12 = .ok (.ireturn, 1) := by decide +kernel
theorem dX2_share_0 : decode cX2_share 0 = .ok (.iload_n 1, 1) := by decide +kernel
theorem dX2_share_1 : decode cX2_share 1 = .ok (.iconst 4, 1) := by decide +kernel
theorem dX2_share_2 : decode cX2_share 2 = .ok (.idiv, 1) := by decide +kernel
theorem dX2_share_3 : decode cX2_share 3 = .ok (.istore_n 2, 1) := by decide +kernel
theorem dX2_share_4 : decode cX2_share 4 = .ok (.aload_n 0, 1) := by decide +kernel
theorem dX2_share_5 : decode cX2_share 5 = .ok (.iload_n 2, 1) := by decide +kernel
theorem dX2_share_6 : decode cX2_share 6 = .ok (.invokevirtual 70, 3) := by decide +kernel
theorem dX2_share_9 : decode cX2_share 9 = .ok (.istore_n 3, 1) := by decide +kernel
theorem dX2_share_10 : decode cX2_share 10 = .ok (.aload_n 0, 1) := by decide +kernel
theorem dX2_share_11 : decode cX2_share 11 = .ok (.getfield 15, 3) := by decide +kernel
theorem dX2_share_14 : decode cX2_share 14 = .ok (.iload_n 2, 1) := by decide +kernel
theorem dX2_share_15 : decode cX2_share 15 = .ok (.iaload, 1) := by decide +kernel
theorem dX2_share_16 : decode cX2_share 16 = .ok (.iconst (-1), 1) := by decide +kernel
theorem dX2_share_17 : decode cX2_share 17 = .ok (.if_icmp .eq 7, 3) := by decide +kernel
theorem dX2_share_20 : decode cX2_share 20 = .ok (.iload_n 3, 1) := by decide +kernel
theorem dX2_share_21 : decode cX2_share 21 = .ok (.ifCond .gt 10, 3) := by decide +kernel
theorem dX2_share_24 : decode cX2_share 24 = .ok (.aload_n 0, 1) := by decide +kernel
theorem dX2_share_25 : decode cX2_share 25 = .ok (.getfield 9, 3) := by decide +kernel
theorem dX2_share_28 : decode cX2_share 28 = .ok (.iload_n 1, 1) := by decide +kernel
theorem dX2_share_29 : decode cX2_share 29 = .ok (.iaload, 1) := by decide +kernel
theorem dX2_share_30 : decode cX2_share 30 = .ok (.ireturn, 1) := by decide +kernel
theorem dX2_share_31 : decode cX2_share 31 = .ok (.aload_n 0, 1) := by decide +kernel
theorem dX2_share_32 : decode cX2_share 32 = .ok (.getfield 15, 3) := by decide +kernel
theorem dX2_share_35 : decode cX2_share 35 = .ok (.iload_n 2, 1) := by decide +kernel
theorem dX2_share_36 : decode cX2_share 36 = .ok (.iaload, 1) := by decide +kernel
theorem dX2_share_37 : decode cX2_share 37 = .ok (.aload_n 0, 1) := by decide +kernel
theorem dX2_share_38 : decode cX2_share 38 = .ok (.getfield 9, 3) := by decide +kernel
theorem dX2_share_41 : decode cX2_share 41 = .ok (.iload_n 1, 1) := by decide +kernel
theorem dX2_share_42 : decode cX2_share 42 = .ok (.iaload, 1) := by decide +kernel
theorem dX2_share_43 : decode cX2_share 43 = .ok (.imul, 1) := by decide +kernel
theorem dX2_share_44 : decode cX2_share 44 = .ok (.iload_n 3, 1) := by decide +kernel
theorem dX2_share_45 : decode cX2_share 45 = .ok (.irem, 1) := by decide +kernel
theorem dX2_share_46 : decode cX2_share 46 = .ok (.istore 4, 2) := by decide +kernel
theorem dX2_share_48 : decode cX2_share 48 = .ok (.aload_n 0, 1) := by decide +kernel
theorem dX2_share_49 : decode cX2_share 49 = .ok (.getfield 15, 3) := by decide +kernel
theorem dX2_share_52 : decode cX2_share 52 = .ok (.iload_n 2, 1) := by decide +kernel
theorem dX2_share_53 : decode cX2_share 53 = .ok (.iaload, 1) := by decide +kernel
theorem dX2_share_54 : decode cX2_share 54 = .ok (.istore 5, 2) := by decide +kernel
theorem dX2_share_56 : decode cX2_share 56 = .ok (.iconst 0, 1) := by decide +kernel
theorem dX2_share_57 : decode cX2_share 57 = .ok (.istore 6, 2) := by decide +kernel
theorem dX2_share_59 : decode cX2_share 59 = .ok (.iconst 4, 1) := by decide +kernel
theorem dX2_share_60 : decode cX2_share 60 = .ok (.iload_n 2, 1) := by decide +kernel
theorem dX2_share_61 : decode cX2_share 61 = .ok (.imul, 1) := by decide +kernel
theorem dX2_share_62 : decode cX2_share 62 = .ok (.istore 7, 2) := by decide +kernel
theorem dX2_share_64 : decode cX2_share 64 = .ok (.iload 7, 2) := by decide +kernel
theorem dX2_share_66 : decode cX2_share 66 = .ok (.iconst 4, 1) := by decide +kernel
theorem dX2_share_67 : decode cX2_share 67 = .ok (.iload_n 2, 1) := by decide +kernel
theorem dX2_share_68 : decode cX2_share 68 = .ok (.iconst 1, 1) := by decide +kernel
theorem dX2_share_69 : decode cX2_share 69 = .ok (.iadd, 1) := by decide +kernel
theorem dX2_share_70 : decode cX2_share 70 = .ok (.imul, 1) := by decide +kernel
theorem dX2_share_71 : decode cX2_share 71 = .ok (.if_icmp .ge 87, 3) := by decide +kernel
theorem dX2_share_74 : decode cX2_share 74 = .ok (.iload 7, 2) := by decide +kernel
theorem dX2_share_76 : decode cX2_share 76 = .ok (.aload_n 0, 1) := by decide +kernel
theorem dX2_share_77 : decode cX2_share 77 = .ok (.getfield 21, 3) := by decide +kernel
theorem dX2_share_80 : decode cX2_share 80 = .ok (.if_icmp .ge 78, 3) := by decide +kernel
theorem dX2_share_83 : decode cX2_share 83 = .ok (.aload_n 0, 1) := by decide +kernel
theorem dX2_share_84 : decode cX2_share 84 = .ok (.getfield 15, 3) := by decide +kernel
theorem dX2_share_87 : decode cX2_share 87 = .ok (.iload_n 2, 1) := by decide +kernel
theorem dX2_share_88 : decode cX2_share 88 = .ok (.iaload, 1) := by decide +kernel
theorem dX2_share_89 : decode cX2_share 89 = .ok (.aload_n 0, 1) := by decide +kernel
theorem dX2_share_90 : decode cX2_share 90 = .ok (.getfield 9, 3) := by decide +kernel
theorem dX2_share_93 : decode cX2_share 93 = .ok (.iload 7, 2) := by decide +kernel
theorem dX2_share_95 : decode cX2_share 95 = .ok (.iaload, 1) := by decide +kernel
theorem dX2_share_96 : decode cX2_share 96 = .ok (.imul, 1) := by decide +kernel
theorem dX2_share_97 : decode cX2_share 97 = .ok (.iload_n 3, 1) := by decide +kernel
theorem dX2_share_98 : decode cX2_share 98 = .ok (.irem, 1) := by decide +kernel
theorem dX2_share_99 : decode cX2_share 99 = .ok (.istore 8, 2) := by decide +kernel
theorem dX2_share_101 : decode cX2_share 101 = .ok (.iload 5, 2) := by decide +kernel
theorem dX2_share_103 : decode cX2_share 103 = .ok (.aload_n 0, 1) := by decide +kernel
theorem dX2_share_104 : decode cX2_share 104 = .ok (.getfield 15, 3) := by decide +kernel
theorem dX2_share_107 : decode cX2_share 107 = .ok (.iload_n 2, 1) := by decide +kernel
theorem dX2_share_108 : decode cX2_share 108 = .ok (.iaload, 1) := by decide +kernel
theorem dX2_share_109 : decode cX2_share 109 = .ok (.aload_n 0, 1) := by decide +kernel
theorem dX2_share_110 : decode cX2_share 110 = .ok (.getfield 9, 3) := by decide +kernel
theorem dX2_share_113 : decode cX2_share 113 = .ok (.iload 7, 2) := by decide +kernel
theorem dX2_share_115 : decode cX2_share 115 = .ok (.iaload, 1) := by decide +kernel
theorem dX2_share_116 : decode cX2_share 116 = .ok (.imul, 1) := by decide +kernel
theorem dX2_share_117 : decode cX2_share 117 = .ok (.iload_n 3, 1) := by decide +kernel
theorem dX2_share_118 : decode cX2_share 118 = .ok (.idiv, 1) := by decide +kernel
theorem dX2_share_119 : decode cX2_share 119 = .ok (.isub, 1) := by decide +kernel
theorem dX2_share_120 : decode cX2_share 120 = .ok (.istore 5, 2) := by decide +kernel
theorem dX2_share_122 : decode cX2_share 122 = .ok (.iload 6, 2) := by decide +kernel
theorem dX2_share_124 : decode cX2_share 124 = .ok (.iload 8, 2) := by decide +kernel
theorem dX2_share_126 : decode cX2_share 126 = .ok (.iload 4, 2) := by decide +kernel
theorem dX2_share_128 : decode cX2_share 128 = .ok (.if_icmp .gt 16, 3) := by decide +kernel
theorem dX2_share_131 : decode cX2_share 131 = .ok (.iload 8, 2) := by decide +kernel
theorem dX2_share_133 : decode cX2_share 133 = .ok (.iload 4, 2) := by decide +kernel
theorem dX2_share_135 : decode cX2_share 135 = .ok (.if_icmp .ne 13, 3) := by decide +kernel
theorem dX2_share_138 : decode cX2_share 138 = .ok (.iload 7, 2) := by decide +kernel
theorem dX2_share_140 : decode cX2_share 140 = .ok (.iload_n 1, 1) := by decide +kernel
theorem dX2_share_141 : decode cX2_share 141 = .ok (.if_icmp .ge 7, 3) := by decide +kernel
theorem dX2_share_144 : decode cX2_share 144 = .ok (.iconst 1, 1) := by decide +kernel
theorem dX2_share_145 : decode cX2_share 145 = .ok (.goto 4, 3) := by decide +kernel
theorem dX2_share_148 : decode cX2_share 148 = .ok (.iconst 0, 1) := by decide +kernel
theorem dX2_share_149 : decode cX2_share 149 = .ok (.iadd, 1) := by decide +kernel
theorem dX2_share_150 : decode cX2_share 150 = .ok (.istore 6, 2) := by decide +kernel
theorem dX2_share_152 : decode cX2_share 152 = .ok (.iinc 7 1, 3) := by decide +kernel
theorem dX2_share_155 : decode cX2_share 155 = .ok (.goto (-91), 3) := by decide +kernel
theorem dX2_share_158 : decode cX2_share 158 = .ok (.aload_n 0, 1) := by decide +kernel
theorem dX2_share_159 : decode cX2_share 159 = .ok (.getfield 15, 3) := by decide +kernel
theorem dX2_share_162 : decode cX2_share 162 = .ok (.iload_n 2, 1) := by decide +kernel
theorem dX2_share_163 : decode cX2_share 163 = .ok (.iaload, 1) := by decide +kernel
theorem dX2_share_164 : decode cX2_share 164 = .ok (.aload_n 0, 1) := by decide +kernel
theorem dX2_share_165 : decode cX2_share 165 = .ok (.getfield 9, 3) := by decide +kernel
theorem dX2_share_168 : decode cX2_share 168 = .ok (.iload_n 1, 1) := by decide +kernel
theorem dX2_share_169 : decode cX2_share 169 = .ok (.iaload, 1) := by decide +kernel
theorem dX2_share_170 : decode cX2_share 170 = .ok (.imul, 1) := by decide +kernel
theorem dX2_share_171 : decode cX2_share 171 = .ok (.iload_n 3, 1) := by decide +kernel
theorem dX2_share_172 : decode cX2_share 172 = .ok (.idiv, 1) := by decide +kernel
theorem dX2_share_173 : decode cX2_share 173 = .ok (.iload 6, 2) := by decide +kernel
theorem dX2_share_175 : decode cX2_share 175 = .ok (.iload 5, 2) := by decide +kernel
theorem dX2_share_177 : decode cX2_share 177 = .ok (.if_icmp .ge 7, 3) := by decide +kernel
theorem dX2_share_180 : decode cX2_share 180 = .ok (.iconst 1, 1) := by decide +kernel
theorem dX2_share_181 : decode cX2_share 181 = .ok (.goto 4, 3) := by decide +kernel
theorem dX2_share_184 : decode cX2_share 184 = .ok (.iconst 0, 1) := by decide +kernel
theorem dX2_share_185 : decode cX2_share 185 = .ok (.iadd, 1) := by decide +kernel
theorem dX2_share_186 : decode cX2_share 186 = .ok (.ireturn, 1) := by decide +kernel
theorem dX2_movement_0 : decode cX2_movement 0 = .ok (.lconst 0, 1) := by decide +kernel
theorem dX2_movement_1 : decode cX2_movement 1 = .ok (.lstore_n 3, 1) := by decide +kernel
theorem dX2_movement_2 : decode cX2_movement 2 = .ok (.iconst 1, 1) := by decide +kernel
theorem dX2_movement_3 : decode cX2_movement 3 = .ok (.istore 5, 2) := by decide +kernel
theorem dX2_movement_5 : decode cX2_movement 5 = .ok (.iload 5, 2) := by decide +kernel
theorem dX2_movement_7 : decode cX2_movement 7 = .ok (.aload_n 0, 1) := by decide +kernel
theorem dX2_movement_8 : decode cX2_movement 8 = .ok (.getfield 21, 3) := by decide +kernel
theorem dX2_movement_11 : decode cX2_movement 11 = .ok (.if_icmp .ge 93, 3) := by decide +kernel
theorem dX2_movement_14 : decode cX2_movement 14 = .ok (.iload 5, 2) := by decide +kernel
theorem dX2_movement_16 : decode cX2_movement 16 = .ok (.aload_n 1, 1) := by decide +kernel
theorem dX2_movement_17 : decode cX2_movement 17 = .ok (.arraylength, 1) := by decide +kernel
theorem dX2_movement_18 : decode cX2_movement 18 = .ok (.if_icmp .ge 86, 3) := by decide +kernel
theorem dX2_movement_21 : decode cX2_movement 21 = .ok (.iload_n 2, 1) := by decide +kernel
theorem dX2_movement_22 : decode cX2_movement 22 = .ok (.ifCond .ne 36, 3) := by decide +kernel
theorem dX2_movement_25 : decode cX2_movement 25 = .ok (.aload_n 1, 1) := by decide +kernel
theorem dX2_movement_26 : decode cX2_movement 26 = .ok (.iload 5, 2) := by decide +kernel
theorem dX2_movement_28 : decode cX2_movement 28 = .ok (.iaload, 1) := by decide +kernel
theorem dX2_movement_29 : decode cX2_movement 29 = .ok (.aload_n 0, 1) := by decide +kernel
theorem dX2_movement_30 : decode cX2_movement 30 = .ok (.getfield 9, 3) := by decide +kernel
theorem dX2_movement_33 : decode cX2_movement 33 = .ok (.iload 5, 2) := by decide +kernel
theorem dX2_movement_35 : decode cX2_movement 35 = .ok (.iaload, 1) := by decide +kernel
theorem dX2_movement_36 : decode cX2_movement 36 = .ok (.isub, 1) := by decide +kernel
theorem dX2_movement_37 : decode cX2_movement 37 = .ok (.aload_n 1, 1) := by decide +kernel
theorem dX2_movement_38 : decode cX2_movement 38 = .ok (.iload 5, 2) := by decide +kernel
theorem dX2_movement_40 : decode cX2_movement 40 = .ok (.iconst 1, 1) := by decide +kernel
theorem dX2_movement_41 : decode cX2_movement 41 = .ok (.isub, 1) := by decide +kernel
theorem dX2_movement_42 : decode cX2_movement 42 = .ok (.iaload, 1) := by decide +kernel
theorem dX2_movement_43 : decode cX2_movement 43 = .ok (.aload_n 0, 1) := by decide +kernel
theorem dX2_movement_44 : decode cX2_movement 44 = .ok (.getfield 9, 3) := by decide +kernel
theorem dX2_movement_47 : decode cX2_movement 47 = .ok (.iload 5, 2) := by decide +kernel
theorem dX2_movement_49 : decode cX2_movement 49 = .ok (.iconst 1, 1) := by decide +kernel
theorem dX2_movement_50 : decode cX2_movement 50 = .ok (.isub, 1) := by decide +kernel
theorem dX2_movement_51 : decode cX2_movement 51 = .ok (.iaload, 1) := by decide +kernel
theorem dX2_movement_52 : decode cX2_movement 52 = .ok (.isub, 1) := by decide +kernel
theorem dX2_movement_53 : decode cX2_movement 53 = .ok (.isub, 1) := by decide +kernel
theorem dX2_movement_54 : decode cX2_movement 54 = .ok (.i2l, 1) := by decide +kernel
theorem dX2_movement_55 : decode cX2_movement 55 = .ok (.goto 33, 3) := by decide +kernel
theorem dX2_movement_58 : decode cX2_movement 58 = .ok (.aload_n 1, 1) := by decide +kernel
theorem dX2_movement_59 : decode cX2_movement 59 = .ok (.iload 5, 2) := by decide +kernel
theorem dX2_movement_61 : decode cX2_movement 61 = .ok (.iaload, 1) := by decide +kernel
theorem dX2_movement_62 : decode cX2_movement 62 = .ok (.aload_n 0, 1) := by decide +kernel
theorem dX2_movement_63 : decode cX2_movement 63 = .ok (.getfield 9, 3) := by decide +kernel
theorem dX2_movement_66 : decode cX2_movement 66 = .ok (.iload 5, 2) := by decide +kernel
theorem dX2_movement_68 : decode cX2_movement 68 = .ok (.iconst 1, 1) := by decide +kernel
theorem dX2_movement_69 : decode cX2_movement 69 = .ok (.isub, 1) := by decide +kernel
theorem dX2_movement_70 : decode cX2_movement 70 = .ok (.iaload, 1) := by decide +kernel
theorem dX2_movement_71 : decode cX2_movement 71 = .ok (.imul, 1) := by decide +kernel
theorem dX2_movement_72 : decode cX2_movement 72 = .ok (.aload_n 1, 1) := by decide +kernel
theorem dX2_movement_73 : decode cX2_movement 73 = .ok (.iload 5, 2) := by decide +kernel
theorem dX2_movement_75 : decode cX2_movement 75 = .ok (.iconst 1, 1) := by decide +kernel
theorem dX2_movement_76 : decode cX2_movement 76 = .ok (.isub, 1) := by decide +kernel
theorem dX2_movement_77 : decode cX2_movement 77 = .ok (.iaload, 1) := by decide +kernel
theorem dX2_movement_78 : decode cX2_movement 78 = .ok (.aload_n 0, 1) := by decide +kernel
theorem dX2_movement_79 : decode cX2_movement 79 = .ok (.getfield 9, 3) := by decide +kernel
theorem dX2_movement_82 : decode cX2_movement 82 = .ok (.iload 5, 2) := by decide +kernel
theorem dX2_movement_84 : decode cX2_movement 84 = .ok (.iaload, 1) := by decide +kernel
theorem dX2_movement_85 : decode cX2_movement 85 = .ok (.imul, 1) := by decide +kernel
theorem dX2_movement_86 : decode cX2_movement 86 = .ok (.isub, 1) := by decide +kernel
theorem dX2_movement_87 : decode cX2_movement 87 = .ok (.i2l, 1) := by decide +kernel
theorem dX2_movement_88 : decode cX2_movement 88 = .ok (.lstore 6, 2) := by decide +kernel
theorem dX2_movement_90 : decode cX2_movement 90 = .ok (.lload_n 3, 1) := by decide +kernel
theorem dX2_movement_91 : decode cX2_movement 91 = .ok (.lload 6, 2) := by decide +kernel
theorem dX2_movement_93 : decode cX2_movement 93 = .ok (.lload 6, 2) := by decide +kernel
theorem dX2_movement_95 : decode cX2_movement 95 = .ok (.lmul, 1) := by decide +kernel
theorem dX2_movement_96 : decode cX2_movement 96 = .ok (.ladd, 1) := by decide +kernel
theorem dX2_movement_97 : decode cX2_movement 97 = .ok (.lstore_n 3, 1) := by decide +kernel
theorem dX2_movement_98 : decode cX2_movement 98 = .ok (.iinc 5 1, 3) := by decide +kernel
theorem dX2_movement_101 : decode cX2_movement 101 = .ok (.goto (-96), 3) := by decide +kernel
theorem dX2_movement_104 : decode cX2_movement 104 = .ok (.lload_n 3, 1) := by decide +kernel
theorem dX2_movement_105 : decode cX2_movement 105 = .ok (.lreturn, 1) := by decide +kernel
theorem dX3_init_0 : decode cX3_init 0 = .ok (.aload_n 0, 1) := by decide +kernel
theorem dX3_init_1 : decode cX3_init 1 = .ok (.invokespecial 3, 3) := by decide +kernel
theorem dX3_init_4 : decode cX3_init 4 = .ok (.aload_n 0, 1) := by decide +kernel
theorem dX3_init_5 : decode cX3_init 5 = .ok (.bipush 6, 2) := by decide +kernel
theorem dX3_init_7 : decode cX3_init 7 = .ok (.anewarray 9, 3) := by decide +kernel
theorem dX3_init_10 : decode cX3_init 10 = .ok (.putfield 11, 3) := by decide +kernel
theorem dX3_init_13 : decode cX3_init 13 = .ok (.aload_n 0, 1) := by decide +kernel
theorem dX3_init_14 : decode cX3_init 14 = .ok (.iconst 0, 1) := by decide +kernel
theorem dX3_init_15 : decode cX3_init 15 = .ok (.putfield 17, 3) := by decide +kernel
theorem dX3_init_18 : decode cX3_init 18 = .ok (.aload_n 0, 1) := by decide +kernel
theorem dX3_init_19 : decode cX3_init 19 = .ok (.iconst 0, 1) := by decide +kernel
theorem dX3_init_20 : decode cX3_init 20 = .ok (.putfield 21, 3) := by decide +kernel
theorem dX3_init_23 : decode cX3_init 23 = .ok (.iconst 0, 1) := by decide +kernel
theorem dX3_init_24 : decode cX3_init 24 = .ok (.istore_n 1, 1) := by decide +kernel
theorem dX3_init_25 : decode cX3_init 25 = .ok (.iload_n 1, 1) := by decide +kernel
theorem dX3_init_26 : decode cX3_init 26 = .ok (.iconst 5, 1) := by decide +kernel
theorem dX3_init_27 : decode cX3_init 27 = .ok (.if_icmp .gt 22, 3) := by decide +kernel
theorem dX3_init_30 : decode cX3_init 30 = .ok (.aload_n 0, 1) := by decide +kernel
theorem dX3_init_31 : decode cX3_init 31 = .ok (.getfield 11, 3) := by decide +kernel
theorem dX3_init_34 : decode cX3_init 34 = .ok (.iload_n 1, 1) := by decide +kernel
theorem dX3_init_35 : decode cX3_init 35 = .ok (.new 9, 3) := by decide +kernel
theorem dX3_init_38 : decode cX3_init 38 = .ok (.dup, 1) := by decide +kernel
theorem dX3_init_39 : decode cX3_init 39 = .ok (.invokespecial 24, 3) := by decide +kernel
theorem dX3_init_42 : decode cX3_init 42 = .ok (.aastore, 1) := by decide +kernel
theorem dX3_init_43 : decode cX3_init 43 = .ok (.iinc 1 1, 3) := by decide +kernel
theorem dX3_init_46 : decode cX3_init 46 = .ok (.goto (-21), 3) := by decide +kernel
theorem dX3_init_49 : decode cX3_init 49 = .ok (.return_, 1) := by decide +kernel
theorem dX3_holds_0 : decode cX3_holds 0 = .ok (.aload_n 0, 1) := by decide +kernel
theorem dX3_holds_1 : decode cX3_holds 1 = .ok (.getfield 11, 3) := by decide +kernel
theorem dX3_holds_4 : decode cX3_holds 4 = .ok (.aload_n 0, 1) := by decide +kernel
theorem dX3_holds_5 : decode cX3_holds 5 = .ok (.getfield 17, 3) := by decide +kernel
theorem dX3_holds_8 : decode cX3_holds 8 = .ok (.aaload, 1) := by decide +kernel
theorem dX3_holds_9 : decode cX3_holds 9 = .ok (.aload_n 1, 1) := by decide +kernel
theorem dX3_holds_10 : decode cX3_holds 10 = .ok (.invokevirtual 25, 3) := by decide +kernel
theorem dX3_holds_13 : decode cX3_holds 13 = .ok (.return_, 1) := by decide +kernel
theorem dX3_restores_0 : decode cX3_restores 0 = .ok (.aload_n 1, 1) := by decide +kernel
theorem dX3_restores_1 : decode cX3_restores 1 = .ok (.aload_n 0, 1) := by decide +kernel
theorem dX3_restores_2 : decode cX3_restores 2 = .ok (.getfield 11, 3) := by decide +kernel
theorem dX3_restores_5 : decode cX3_restores 5 = .ok (.aload_n 0, 1) := by decide +kernel
theorem dX3_restores_6 : decode cX3_restores 6 = .ok (.getfield 17, 3) := by decide +kernel
theorem dX3_restores_9 : decode cX3_restores 9 = .ok (.aaload, 1) := by decide +kernel
theorem dX3_restores_10 : decode cX3_restores 10 = .ok (.invokevirtual 25, 3) := by decide +kernel
theorem dX3_restores_13 : decode cX3_restores 13 = .ok (.return_, 1) := by decide +kernel
theorem dX3_keeps_0 : decode cX3_keeps 0 = .ok (.aload_n 0, 1) := by decide +kernel
theorem dX3_keeps_1 : decode cX3_keeps 1 = .ok (.aload_n 0, 1) := by decide +kernel
theorem dX3_keeps_2 : decode cX3_keeps 2 = .ok (.getfield 17, 3) := by decide +kernel
theorem dX3_keeps_5 : decode cX3_keeps 5 = .ok (.iconst 5, 1) := by decide +kernel
theorem dX3_keeps_6 : decode cX3_keeps 6 = .ok (.if_icmp .ne 7, 3) := by decide +kernel
theorem dX3_keeps_9 : decode cX3_keeps 9 = .ok (.iconst 0, 1) := by decide +kernel
theorem dX3_keeps_10 : decode cX3_keeps 10 = .ok (.goto 9, 3) := by decide +kernel
theorem dX3_keeps_13 : decode cX3_keeps 13 = .ok (.aload_n 0, 1) := by decide +kernel
theorem dX3_keeps_14 : decode cX3_keeps 14 = .ok (.getfield 17, 3) := by decide +kernel
theorem dX3_keeps_17 : decode cX3_keeps 17 = .ok (.iconst 1, 1) := by decide +kernel
theorem dX3_keeps_18 : decode cX3_keeps 18 = .ok (.iadd, 1) := by decide +kernel
theorem dX3_keeps_19 : decode cX3_keeps 19 = .ok (.putfield 17, 3) := by decide +kernel
theorem dX3_keeps_22 : decode cX3_keeps 22 = .ok (.aload_n 0, 1) := by decide +kernel
theorem dX3_keeps_23 : decode cX3_keeps 23 = .ok (.iconst 5, 1) := by decide +kernel
theorem dX3_keeps_24 : decode cX3_keeps 24 = .ok (.aload_n 0, 1) := by decide +kernel
theorem dX3_keeps_25 : decode cX3_keeps 25 = .ok (.getfield 21, 3) := by decide +kernel
theorem dX3_keeps_28 : decode cX3_keeps 28 = .ok (.iconst 1, 1) := by decide +kernel
theorem dX3_keeps_29 : decode cX3_keeps 29 = .ok (.iadd, 1) := by decide +kernel
theorem dX3_keeps_30 : decode cX3_keeps 30 = .ok (.invokestatic 29, 3) := by decide +kernel
theorem dX3_keeps_33 : decode cX3_keeps 33 = .ok (.putfield 21, 3) := by decide +kernel
theorem dX3_keeps_36 : decode cX3_keeps 36 = .ok (.return_, 1) := by decide +kernel
theorem dX3_returns_0 : decode cX3_returns 0 = .ok (.aload_n 0, 1) := by decide +kernel
theorem dX3_returns_1 : decode cX3_returns 1 = .ok (.getfield 21, 3) := by decide +kernel
theorem dX3_returns_4 : decode cX3_returns 4 = .ok (.ifCond .le 47, 3) := by decide +kernel
theorem dX3_returns_7 : decode cX3_returns 7 = .ok (.aload_n 0, 1) := by decide +kernel
theorem dX3_returns_8 : decode cX3_returns 8 = .ok (.aload_n 0, 1) := by decide +kernel
theorem dX3_returns_9 : decode cX3_returns 9 = .ok (.getfield 17, 3) := by decide +kernel
theorem dX3_returns_12 : decode cX3_returns 12 = .ok (.ifCond .ne 7, 3) := by decide +kernel
theorem dX3_returns_15 : decode cX3_returns 15 = .ok (.iconst 5, 1) := by decide +kernel
theorem dX3_returns_16 : decode cX3_returns 16 = .ok (.goto 9, 3) := by decide +kernel
theorem dX3_returns_19 : decode cX3_returns 19 = .ok (.aload_n 0, 1) := by decide +kernel
theorem dX3_returns_20 : decode cX3_returns 20 = .ok (.getfield 17, 3) := by decide +kernel
theorem dX3_returns_23 : decode cX3_returns 23 = .ok (.iconst 1, 1) := by decide +kernel
theorem dX3_returns_24 : decode cX3_returns 24 = .ok (.isub, 1) := by decide +kernel
theorem dX3_returns_25 : decode cX3_returns 25 = .ok (.putfield 17, 3) := by decide +kernel
theorem dX3_returns_28 : decode cX3_returns 28 = .ok (.aload_n 0, 1) := by decide +kernel
theorem dX3_returns_29 : decode cX3_returns 29 = .ok (.dup, 1) := by decide +kernel
theorem dX3_returns_30 : decode cX3_returns 30 = .ok (.getfield 21, 3) := by decide +kernel
theorem dX3_returns_33 : decode cX3_returns 33 = .ok (.iconst 1, 1) := by decide +kernel
theorem dX3_returns_34 : decode cX3_returns 34 = .ok (.isub, 1) := by decide +kernel
theorem dX3_returns_35 : decode cX3_returns 35 = .ok (.putfield 21, 3) := by decide +kernel
theorem dX3_returns_38 : decode cX3_returns 38 = .ok (.aload_n 1, 1) := by decide +kernel
theorem dX3_returns_39 : decode cX3_returns 39 = .ok (.aload_n 0, 1) := by decide +kernel
theorem dX3_returns_40 : decode cX3_returns 40 = .ok (.getfield 11, 3) := by decide +kernel
theorem dX3_returns_43 : decode cX3_returns 43 = .ok (.aload_n 0, 1) := by decide +kernel
theorem dX3_returns_44 : decode cX3_returns 44 = .ok (.getfield 17, 3) := by decide +kernel
theorem dX3_returns_47 : decode cX3_returns 47 = .ok (.aaload, 1) := by decide +kernel
theorem dX3_returns_48 : decode cX3_returns 48 = .ok (.invokevirtual 25, 3) := by decide +kernel
theorem dX3_returns_51 : decode cX3_returns 51 = .ok (.return_, 1) := by decide +kernel
theorem dX4_init_0 : decode cX4_init 0 = .ok (.aload_n 0, 1) := by decide +kernel
theorem dX4_init_1 : decode cX4_init 1 = .ok (.invokespecial 3, 3) := by decide +kernel
theorem dX4_init_4 : decode cX4_init 4 = .ok (.aload_n 0, 1) := by decide +kernel
theorem dX4_init_5 : decode cX4_init 5 = .ok (.bipush 120, 2) := by decide +kernel
theorem dX4_init_7 : decode cX4_init 7 = .ok (.newarray .int, 2) := by decide +kernel
theorem dX4_init_9 : decode cX4_init 9 = .ok (.putfield 9, 3) := by decide +kernel
theorem dX4_init_12 : decode cX4_init 12 = .ok (.aload_n 0, 1) := by decide +kernel
theorem dX4_init_13 : decode cX4_init 13 = .ok (.iconst 0, 1) := by decide +kernel
theorem dX4_init_14 : decode cX4_init 14 = .ok (.putfield 15, 3) := by decide +kernel
theorem dX4_init_17 : decode cX4_init 17 = .ok (.aload_n 0, 1) := by decide +kernel
theorem dX4_init_18 : decode cX4_init 18 = .ok (.bipush 60, 2) := by decide +kernel
theorem dX4_init_20 : decode cX4_init 20 = .ok (.newarray .int, 2) := by decide +kernel
theorem dX4_init_22 : decode cX4_init 22 = .ok (.putfield 19, 3) := by decide +kernel
theorem dX4_init_25 : decode cX4_init 25 = .ok (.aload_n 0, 1) := by decide +kernel
theorem dX4_init_26 : decode cX4_init 26 = .ok (.bipush 60, 2) := by decide +kernel
theorem dX4_init_28 : decode cX4_init 28 = .ok (.newarray .int, 2) := by decide +kernel
theorem dX4_init_30 : decode cX4_init 30 = .ok (.putfield 22, 3) := by decide +kernel
theorem dX4_init_33 : decode cX4_init 33 = .ok (.aload_n 0, 1) := by decide +kernel
theorem dX4_init_34 : decode cX4_init 34 = .ok (.bipush 60, 2) := by decide +kernel
theorem dX4_init_36 : decode cX4_init 36 = .ok (.newarray .int, 2) := by decide +kernel
theorem dX4_init_38 : decode cX4_init 38 = .ok (.putfield 25, 3) := by decide +kernel
theorem dX4_init_41 : decode cX4_init 41 = .ok (.aload_n 0, 1) := by decide +kernel
theorem dX4_init_42 : decode cX4_init 42 = .ok (.iconst 0, 1) := by decide +kernel
theorem dX4_init_43 : decode cX4_init 43 = .ok (.putfield 28, 3) := by decide +kernel
theorem dX4_init_46 : decode cX4_init 46 = .ok (.aload_n 0, 1) := by decide +kernel
theorem dX4_init_47 : decode cX4_init 47 = .ok (.iconst 0, 1) := by decide +kernel
theorem dX4_init_48 : decode cX4_init 48 = .ok (.putfield 31, 3) := by decide +kernel
theorem dX4_init_51 : decode cX4_init 51 = .ok (.aload_n 0, 1) := by decide +kernel
theorem dX4_init_52 : decode cX4_init 52 = .ok (.iconst 0, 1) := by decide +kernel
theorem dX4_init_53 : decode cX4_init 53 = .ok (.putfield 35, 3) := by decide +kernel
theorem dX4_init_56 : decode cX4_init 56 = .ok (.aload_n 0, 1) := by decide +kernel
theorem dX4_init_57 : decode cX4_init 57 = .ok (.iconst 0, 1) := by decide +kernel
theorem dX4_init_58 : decode cX4_init 58 = .ok (.putfield 38, 3) := by decide +kernel
theorem dX4_init_61 : decode cX4_init 61 = .ok (.return_, 1) := by decide +kernel
theorem dX4_takes_0 : decode cX4_takes 0 = .ok (.aload_n 0, 1) := by decide +kernel
theorem dX4_takes_1 : decode cX4_takes 1 = .ok (.getfield 15, 3) := by decide +kernel
theorem dX4_takes_4 : decode cX4_takes 4 = .ok (.bipush 120, 2) := by decide +kernel
theorem dX4_takes_6 : decode cX4_takes 6 = .ok (.if_icmp .ge 23, 3) := by decide +kernel
theorem dX4_takes_9 : decode cX4_takes 9 = .ok (.aload_n 0, 1) := by decide +kernel
theorem dX4_takes_10 : decode cX4_takes 10 = .ok (.getfield 9, 3) := by decide +kernel
theorem dX4_takes_13 : decode cX4_takes 13 = .ok (.aload_n 0, 1) := by decide +kernel
theorem dX4_takes_14 : decode cX4_takes 14 = .ok (.getfield 15, 3) := by decide +kernel
theorem dX4_takes_17 : decode cX4_takes 17 = .ok (.iload_n 1, 1) := by decide +kernel
theorem dX4_takes_18 : decode cX4_takes 18 = .ok (.iastore, 1) := by decide +kernel
theorem dX4_takes_19 : decode cX4_takes 19 = .ok (.aload_n 0, 1) := by decide +kernel
theorem dX4_takes_20 : decode cX4_takes 20 = .ok (.dup, 1) := by decide +kernel
theorem dX4_takes_21 : decode cX4_takes 21 = .ok (.getfield 15, 3) := by decide +kernel
theorem dX4_takes_24 : decode cX4_takes 24 = .ok (.iconst 1, 1) := by decide +kernel
theorem dX4_takes_25 : decode cX4_takes 25 = .ok (.iadd, 1) := by decide +kernel
theorem dX4_takes_26 : decode cX4_takes 26 = .ok (.putfield 15, 3) := by decide +kernel
theorem dX4_takes_29 : decode cX4_takes 29 = .ok (.aload_n 0, 1) := by decide +kernel
theorem dX4_takes_30 : decode cX4_takes 30 = .ok (.getfield 15, 3) := by decide +kernel
theorem dX4_takes_33 : decode cX4_takes 33 = .ok (.ireturn, 1) := by decide +kernel
theorem dX4_reads_0 : decode cX4_reads 0 = .ok (.aload_n 0, 1) := by decide +kernel
theorem dX4_reads_1 : decode cX4_reads 1 = .ok (.iconst 0, 1) := by decide +kernel
theorem dX4_reads_2 : decode cX4_reads 2 = .ok (.putfield 28, 3) := by decide +kernel
theorem dX4_reads_5 : decode cX4_reads 5 = .ok (.aload_n 0, 1) := by decide +kernel
theorem dX4_reads_6 : decode cX4_reads 6 = .ok (.iconst 0, 1) := by decide +kernel
theorem dX4_reads_7 : decode cX4_reads 7 = .ok (.putfield 31, 3) := by decide +kernel
theorem dX4_reads_10 : decode cX4_reads 10 = .ok (.iconst 0, 1) := by decide +kernel
theorem dX4_reads_11 : decode cX4_reads 11 = .ok (.istore_n 1, 1) := by decide +kernel
theorem dX4_reads_12 : decode cX4_reads 12 = .ok (.iload_n 1, 1) := by decide +kernel
theorem dX4_reads_13 : decode cX4_reads 13 = .ok (.aload_n 0, 1) := by decide +kernel
theorem dX4_reads_14 : decode cX4_reads 14 = .ok (.getfield 15, 3) := by decide +kernel
theorem dX4_reads_17 : decode cX4_reads 17 = .ok (.if_icmp .ge 24, 3) := by decide +kernel
theorem dX4_reads_20 : decode cX4_reads 20 = .ok (.aload_n 0, 1) := by decide +kernel
theorem dX4_reads_21 : decode cX4_reads 21 = .ok (.aload_n 0, 1) := by decide +kernel
theorem dX4_reads_22 : decode cX4_reads 22 = .ok (.getfield 9, 3) := by decide +kernel
theorem dX4_reads_25 : decode cX4_reads 25 = .ok (.iload_n 1, 1) := by decide +kernel
theorem dX4_reads_26 : decode cX4_reads 26 = .ok (.iaload, 1) := by decide +kernel
theorem dX4_reads_27 : decode cX4_reads 27 = .ok (.invokevirtual 41, 3) := by decide +kernel
theorem dX4_reads_30 : decode cX4_reads 30 = .ok (.ifCond .ne 5, 3) := by decide +kernel
theorem dX4_reads_33 : decode cX4_reads 33 = .ok (.iload_n 1, 1) := by decide +kernel
theorem dX4_reads_34 : decode cX4_reads 34 = .ok (.ireturn, 1) := by decide +kernel
theorem dX4_reads_35 : decode cX4_reads 35 = .ok (.iinc 1 1, 3) := by decide +kernel
theorem dX4_reads_38 : decode cX4_reads 38 = .ok (.goto (-26), 3) := by decide +kernel
theorem dX4_reads_41 : decode cX4_reads 41 = .ok (.aload_n 0, 1) := by decide +kernel
theorem dX4_reads_42 : decode cX4_reads 42 = .ok (.getfield 31, 3) := by decide +kernel
theorem dX4_reads_45 : decode cX4_reads 45 = .ok (.ifCond .ne 10, 3) := by decide +kernel
theorem dX4_reads_48 : decode cX4_reads 48 = .ok (.aload_n 0, 1) := by decide +kernel
theorem dX4_reads_49 : decode cX4_reads 49 = .ok (.getfield 28, 3) := by decide +kernel
theorem dX4_reads_52 : decode cX4_reads 52 = .ok (.ifCond .ne 10, 3) := by decide +kernel
theorem dX4_reads_55 : decode cX4_reads 55 = .ok (.aload_n 0, 1) := by decide +kernel
theorem dX4_reads_56 : decode cX4_reads 56 = .ok (.getfield 15, 3) := by decide +kernel
theorem dX4_reads_59 : decode cX4_reads 59 = .ok (.goto 4, 3) := by decide +kernel
theorem dX4_reads_62 : decode cX4_reads 62 = .ok (.iconst (-1), 1) := by decide +kernel
theorem dX4_reads_63 : decode cX4_reads 63 = .ok (.ireturn, 1) := by decide +kernel
theorem dX4_readsByte_0 : decode cX4_readsByte 0 = .ok (.iload_n 1, 1) := by decide +kernel
theorem dX4_readsByte_1 : decode cX4_readsByte 1 = .ok (.bipush 32, 2) := by decide +kernel
theorem dX4_readsByte_3 : decode cX4_readsByte 3 = .ok (.if_icmp .ne 10, 3) := by decide +kernel
theorem dX4_readsByte_6 : decode cX4_readsByte 6 = .ok (.aload_n 0, 1) := by decide +kernel
theorem dX4_readsByte_7 : decode cX4_readsByte 7 = .ok (.iconst 0, 1) := by decide +kernel
theorem dX4_readsByte_8 : decode cX4_readsByte 8 = .ok (.putfield 38, 3) := by decide +kernel
theorem dX4_readsByte_11 : decode cX4_readsByte 11 = .ok (.iconst 1, 1) := by decide +kernel
theorem dX4_readsByte_12 : decode cX4_readsByte 12 = .ok (.ireturn, 1) := by decide +kernel
theorem dX4_readsByte_13 : decode cX4_readsByte 13 = .ok (.aload_n 0, 1) := by decide +kernel
theorem dX4_readsByte_14 : decode cX4_readsByte 14 = .ok (.getfield 31, 3) := by decide +kernel
theorem dX4_readsByte_17 : decode cX4_readsByte 17 = .ok (.ifCond .ne 9, 3) := by decide +kernel
theorem dX4_readsByte_20 : decode cX4_readsByte 20 = .ok (.aload_n 0, 1) := by decide +kernel
theorem dX4_readsByte_21 : decode cX4_readsByte 21 = .ok (.iload_n 1, 1) := by decide +kernel
theorem dX4_readsByte_22 : decode cX4_readsByte 22 = .ok (.invokevirtual 45, 3) := by decide +kernel
theorem dX4_readsByte_25 : decode cX4_readsByte 25 = .ok (.ireturn, 1) := by decide +kernel
theorem dX4_readsByte_26 : decode cX4_readsByte 26 = .ok (.iload_n 1, 1) := by decide +kernel
theorem dX4_readsByte_27 : decode cX4_readsByte 27 = .ok (.bipush 59, 2) := by decide +kernel
theorem dX4_readsByte_29 : decode cX4_readsByte 29 = .ok (.if_icmp .ne 8, 3) := by decide +kernel
theorem dX4_readsByte_32 : decode cX4_readsByte 32 = .ok (.aload_n 0, 1) := by decide +kernel
theorem dX4_readsByte_33 : decode cX4_readsByte 33 = .ok (.invokevirtual 48, 3) := by decide +kernel
theorem dX4_readsByte_36 : decode cX4_readsByte 36 = .ok (.ireturn, 1) := by decide +kernel
theorem dX4_readsByte_37 : decode cX4_readsByte 37 = .ok (.iload_n 1, 1) := by decide +kernel
theorem dX4_readsByte_38 : decode cX4_readsByte 38 = .ok (.bipush 48, 2) := by decide +kernel
theorem dX4_readsByte_40 : decode cX4_readsByte 40 = .ok (.bipush 57, 2) := by decide +kernel
theorem dX4_readsByte_42 : decode cX4_readsByte 42 = .ok (.invokestatic 52, 3) := by decide +kernel
theorem dX4_readsByte_45 : decode cX4_readsByte 45 = .ok (.ifCond .eq 18, 3) := by decide +kernel
theorem dX4_readsByte_48 : decode cX4_readsByte 48 = .ok (.aload_n 0, 1) := by decide +kernel
theorem dX4_readsByte_49 : decode cX4_readsByte 49 = .ok (.iload_n 1, 1) := by decide +kernel
theorem dX4_readsByte_50 : decode cX4_readsByte 50 = .ok (.bipush 48, 2) := by decide +kernel
theorem dX4_readsByte_52 : decode cX4_readsByte 52 = .ok (.isub, 1) := by decide +kernel
theorem dX4_readsByte_53 : decode cX4_readsByte 53 = .ok (.invokevirtual 56, 3) := by decide +kernel
theorem dX4_readsByte_56 : decode cX4_readsByte 56 = .ok (.ifCond .eq 7, 3) := by decide +kernel
theorem dX4_readsByte_59 : decode cX4_readsByte 59 = .ok (.iconst 1, 1) := by decide +kernel
theorem dX4_readsByte_60 : decode cX4_readsByte 60 = .ok (.goto 4, 3) := by decide +kernel
theorem dX4_readsByte_63 : decode cX4_readsByte 63 = .ok (.iconst 0, 1) := by decide +kernel
theorem dX4_readsByte_64 : decode cX4_readsByte 64 = .ok (.ireturn, 1) := by decide +kernel
theorem dX4_opens_0 : decode cX4_opens 0 = .ok (.iload_n 1, 1) := by decide +kernel
theorem dX4_opens_1 : decode cX4_opens 1 = .ok (.invokestatic 59, 3) := by decide +kernel
theorem dX4_opens_4 : decode cX4_opens 4 = .ok (.iconst (-1), 1) := by decide +kernel
theorem dX4_opens_5 : decode cX4_opens 5 = .ok (.if_icmp .eq 15, 3) := by decide +kernel
theorem dX4_opens_8 : decode cX4_opens 8 = .ok (.aload_n 0, 1) := by decide +kernel
theorem dX4_opens_9 : decode cX4_opens 9 = .ok (.getfield 28, 3) := by decide +kernel
theorem dX4_opens_12 : decode cX4_opens 12 = .ok (.aload_n 0, 1) := by decide +kernel
theorem dX4_opens_13 : decode cX4_opens 13 = .ok (.getfield 19, 3) := by decide +kernel
theorem dX4_opens_16 : decode cX4_opens 16 = .ok (.arraylength, 1) := by decide +kernel
theorem dX4_opens_17 : decode cX4_opens 17 = .ok (.if_icmp .lt 5, 3) := by decide +kernel
theorem dX4_opens_20 : decode cX4_opens 20 = .ok (.iconst 0, 1) := by decide +kernel
theorem dX4_opens_21 : decode cX4_opens 21 = .ok (.ireturn, 1) := by decide +kernel
theorem dX4_opens_22 : decode cX4_opens 22 = .ok (.aload_n 0, 1) := by decide +kernel
theorem dX4_opens_23 : decode cX4_opens 23 = .ok (.getfield 19, 3) := by decide +kernel
theorem dX4_opens_26 : decode cX4_opens 26 = .ok (.aload_n 0, 1) := by decide +kernel
theorem dX4_opens_27 : decode cX4_opens 27 = .ok (.getfield 28, 3) := by decide +kernel
theorem dX4_opens_30 : decode cX4_opens 30 = .ok (.iload_n 1, 1) := by decide +kernel
theorem dX4_opens_31 : decode cX4_opens 31 = .ok (.iastore, 1) := by decide +kernel
theorem dX4_opens_32 : decode cX4_opens 32 = .ok (.aload_n 0, 1) := by decide +kernel
theorem dX4_opens_33 : decode cX4_opens 33 = .ok (.getfield 22, 3) := by decide +kernel
theorem dX4_opens_36 : decode cX4_opens 36 = .ok (.aload_n 0, 1) := by decide +kernel
theorem dX4_opens_37 : decode cX4_opens 37 = .ok (.getfield 28, 3) := by decide +kernel
theorem dX4_opens_40 : decode cX4_opens 40 = .ok (.iconst 0, 1) := by decide +kernel
theorem dX4_opens_41 : decode cX4_opens 41 = .ok (.iastore, 1) := by decide +kernel
theorem dX4_opens_42 : decode cX4_opens 42 = .ok (.aload_n 0, 1) := by decide +kernel
theorem dX4_opens_43 : decode cX4_opens 43 = .ok (.getfield 25, 3) := by decide +kernel
theorem dX4_opens_46 : decode cX4_opens 46 = .ok (.aload_n 0, 1) := by decide +kernel
theorem dX4_opens_47 : decode cX4_opens 47 = .ok (.getfield 28, 3) := by decide +kernel
theorem dX4_opens_50 : decode cX4_opens 50 = .ok (.iconst 0, 1) := by decide +kernel
theorem dX4_opens_51 : decode cX4_opens 51 = .ok (.iastore, 1) := by decide +kernel
theorem dX4_opens_52 : decode cX4_opens 52 = .ok (.aload_n 0, 1) := by decide +kernel
theorem dX4_opens_53 : decode cX4_opens 53 = .ok (.iconst 1, 1) := by decide +kernel
theorem dX4_opens_54 : decode cX4_opens 54 = .ok (.putfield 31, 3) := by decide +kernel
theorem dX4_opens_57 : decode cX4_opens 57 = .ok (.aload_n 0, 1) := by decide +kernel
theorem dX4_opens_58 : decode cX4_opens 58 = .ok (.iconst 0, 1) := by decide +kernel
theorem dX4_opens_59 : decode cX4_opens 59 = .ok (.putfield 35, 3) := by decide +kernel
theorem dX4_opens_62 : decode cX4_opens 62 = .ok (.aload_n 0, 1) := by decide +kernel
theorem dX4_opens_63 : decode cX4_opens 63 = .ok (.iconst 0, 1) := by decide +kernel
theorem dX4_opens_64 : decode cX4_opens 64 = .ok (.putfield 38, 3) := by decide +kernel
theorem dX4_opens_67 : decode cX4_opens 67 = .ok (.iconst 1, 1) := by decide +kernel
theorem dX4_opens_68 : decode cX4_opens 68 = .ok (.ireturn, 1) := by decide +kernel
theorem dX4_closes_0 : decode cX4_closes 0 = .ok (.aload_n 0, 1) := by decide +kernel
theorem dX4_closes_1 : decode cX4_closes 1 = .ok (.getfield 35, 3) := by decide +kernel
theorem dX4_closes_4 : decode cX4_closes 4 = .ok (.aload_n 0, 1) := by decide +kernel
theorem dX4_closes_5 : decode cX4_closes 5 = .ok (.getfield 19, 3) := by decide +kernel
theorem dX4_closes_8 : decode cX4_closes 8 = .ok (.aload_n 0, 1) := by decide +kernel
theorem dX4_closes_9 : decode cX4_closes 9 = .ok (.getfield 28, 3) := by decide +kernel
theorem dX4_closes_12 : decode cX4_closes 12 = .ok (.iaload, 1) := by decide +kernel
theorem dX4_closes_13 : decode cX4_closes 13 = .ok (.invokestatic 59, 3) := by decide +kernel
theorem dX4_closes_16 : decode cX4_closes 16 = .ok (.if_icmp .ge 5, 3) := by decide +kernel
theorem dX4_closes_19 : decode cX4_closes 19 = .ok (.iconst 0, 1) := by decide +kernel
theorem dX4_closes_20 : decode cX4_closes 20 = .ok (.ireturn, 1) := by decide +kernel
theorem dX4_closes_21 : decode cX4_closes 21 = .ok (.aload_n 0, 1) := by decide +kernel
theorem dX4_closes_22 : decode cX4_closes 22 = .ok (.iconst 0, 1) := by decide +kernel
theorem dX4_closes_23 : decode cX4_closes 23 = .ok (.putfield 31, 3) := by decide +kernel
theorem dX4_closes_26 : decode cX4_closes 26 = .ok (.aload_n 0, 1) := by decide +kernel
theorem dX4_closes_27 : decode cX4_closes 27 = .ok (.dup, 1) := by decide +kernel
theorem dX4_closes_28 : decode cX4_closes 28 = .ok (.getfield 28, 3) := by decide +kernel
theorem dX4_closes_31 : decode cX4_closes 31 = .ok (.iconst 1, 1) := by decide +kernel
theorem dX4_closes_32 : decode cX4_closes 32 = .ok (.iadd, 1) := by decide +kernel
theorem dX4_closes_33 : decode cX4_closes 33 = .ok (.putfield 28, 3) := by decide +kernel
theorem dX4_closes_36 : decode cX4_closes 36 = .ok (.iconst 1, 1) := by decide +kernel
theorem dX4_closes_37 : decode cX4_closes 37 = .ok (.ireturn, 1) := by decide +kernel
theorem dX4_readsFigure_0 : decode cX4_readsFigure 0 = .ok (.aload_n 0, 1) := by decide +kernel
theorem dX4_readsFigure_1 : decode cX4_readsFigure 1 = .ok (.getfield 38, 3) := by decide +kernel
theorem dX4_readsFigure_4 : decode cX4_readsFigure 4 = .ok (.ifCond .ne 7, 3) := by decide +kernel
theorem dX4_readsFigure_7 : decode cX4_readsFigure 7 = .ok (.iconst 1, 1) := by decide +kernel
theorem dX4_readsFigure_8 : decode cX4_readsFigure 8 = .ok (.goto 4, 3) := by decide +kernel
theorem dX4_readsFigure_11 : decode cX4_readsFigure 11 = .ok (.iconst 0, 1) := by decide +kernel
theorem dX4_readsFigure_12 : decode cX4_readsFigure 12 = .ok (.istore_n 2, 1) := by decide +kernel
theorem dX4_readsFigure_13 : decode cX4_readsFigure 13 = .ok (.iload_n 2, 1) := by decide +kernel
theorem dX4_readsFigure_14 : decode cX4_readsFigure 14 = .ok (.ifCond .eq 22, 3) := by decide +kernel
theorem dX4_readsFigure_17 : decode cX4_readsFigure 17 = .ok (.aload_n 0, 1) := by decide +kernel
theorem dX4_readsFigure_18 : decode cX4_readsFigure 18 = .ok (.getfield 35, 3) := by decide +kernel
theorem dX4_readsFigure_21 : decode cX4_readsFigure 21 = .ok (.aload_n 0, 1) := by decide +kernel
theorem dX4_readsFigure_22 : decode cX4_readsFigure 22 = .ok (.getfield 19, 3) := by decide +kernel
theorem dX4_readsFigure_25 : decode cX4_readsFigure 25 = .ok (.aload_n 0, 1) := by decide +kernel
theorem dX4_readsFigure_26 : decode cX4_readsFigure 26 = .ok (.getfield 28, 3) := by decide +kernel
theorem dX4_readsFigure_29 : decode cX4_readsFigure 29 = .ok (.iaload, 1) := by decide +kernel
theorem dX4_readsFigure_30 : decode cX4_readsFigure 30 = .ok (.invokestatic 59, 3) := by decide +kernel
theorem dX4_readsFigure_33 : decode cX4_readsFigure 33 = .ok (.if_icmp .ge 11, 3) := by decide +kernel
theorem dX4_readsFigure_36 : decode cX4_readsFigure 36 = .ok (.aload_n 0, 1) := by decide +kernel
theorem dX4_readsFigure_37 : decode cX4_readsFigure 37 = .ok (.getfield 38, 3) := by decide +kernel
theorem dX4_readsFigure_40 : decode cX4_readsFigure 40 = .ok (.iconst 3, 1) := by decide +kernel
theorem dX4_readsFigure_41 : decode cX4_readsFigure 41 = .ok (.if_icmp .lt 5, 3) := by decide +kernel
theorem dX4_readsFigure_44 : decode cX4_readsFigure 44 = .ok (.iconst 0, 1) := by decide +kernel
theorem dX4_readsFigure_45 : decode cX4_readsFigure 45 = .ok (.ireturn, 1) := by decide +kernel
theorem dX4_readsFigure_46 : decode cX4_readsFigure 46 = .ok (.aload_n 0, 1) := by decide +kernel
theorem dX4_readsFigure_47 : decode cX4_readsFigure 47 = .ok (.dup, 1) := by decide +kernel
theorem dX4_readsFigure_48 : decode cX4_readsFigure 48 = .ok (.getfield 35, 3) := by decide +kernel
theorem dX4_readsFigure_51 : decode cX4_readsFigure 51 = .ok (.iload_n 2, 1) := by decide +kernel
theorem dX4_readsFigure_52 : decode cX4_readsFigure 52 = .ok (.ifCond .eq 7, 3) := by decide +kernel
theorem dX4_readsFigure_55 : decode cX4_readsFigure 55 = .ok (.iconst 1, 1) := by decide +kernel
theorem dX4_readsFigure_56 : decode cX4_readsFigure 56 = .ok (.goto 4, 3) := by decide +kernel
theorem dX4_readsFigure_59 : decode cX4_readsFigure 59 = .ok (.iconst 0, 1) := by decide +kernel
theorem dX4_readsFigure_60 : decode cX4_readsFigure 60 = .ok (.iadd, 1) := by decide +kernel
theorem dX4_readsFigure_61 : decode cX4_readsFigure 61 = .ok (.putfield 35, 3) := by decide +kernel
theorem dX4_readsFigure_64 : decode cX4_readsFigure 64 = .ok (.aload_n 0, 1) := by decide +kernel
theorem dX4_readsFigure_65 : decode cX4_readsFigure 65 = .ok (.dup, 1) := by decide +kernel
theorem dX4_readsFigure_66 : decode cX4_readsFigure 66 = .ok (.getfield 38, 3) := by decide +kernel
theorem dX4_readsFigure_69 : decode cX4_readsFigure 69 = .ok (.iconst 1, 1) := by decide +kernel
theorem dX4_readsFigure_70 : decode cX4_readsFigure 70 = .ok (.iadd, 1) := by decide +kernel
theorem dX4_readsFigure_71 : decode cX4_readsFigure 71 = .ok (.putfield 38, 3) := by decide +kernel
theorem dX4_readsFigure_74 : decode cX4_readsFigure 74 = .ok (.aload_n 0, 1) := by decide +kernel
theorem dX4_readsFigure_75 : decode cX4_readsFigure 75 = .ok (.getfield 35, 3) := by decide +kernel
theorem dX4_readsFigure_78 : decode cX4_readsFigure 78 = .ok (.iconst 1, 1) := by decide +kernel
theorem dX4_readsFigure_79 : decode cX4_readsFigure 79 = .ok (.if_icmp .ne 29, 3) := by decide +kernel
theorem dX4_readsFigure_82 : decode cX4_readsFigure 82 = .ok (.aload_n 0, 1) := by decide +kernel
theorem dX4_readsFigure_83 : decode cX4_readsFigure 83 = .ok (.getfield 22, 3) := by decide +kernel
theorem dX4_readsFigure_86 : decode cX4_readsFigure 86 = .ok (.aload_n 0, 1) := by decide +kernel
theorem dX4_readsFigure_87 : decode cX4_readsFigure 87 = .ok (.getfield 28, 3) := by decide +kernel
theorem dX4_readsFigure_90 : decode cX4_readsFigure 90 = .ok (.bipush 10, 2) := by decide +kernel
theorem dX4_readsFigure_92 : decode cX4_readsFigure 92 = .ok (.aload_n 0, 1) := by decide +kernel
theorem dX4_readsFigure_93 : decode cX4_readsFigure 93 = .ok (.getfield 22, 3) := by decide +kernel
theorem dX4_readsFigure_96 : decode cX4_readsFigure 96 = .ok (.aload_n 0, 1) := by decide +kernel
theorem dX4_readsFigure_97 : decode cX4_readsFigure 97 = .ok (.getfield 28, 3) := by decide +kernel
theorem dX4_readsFigure_100 : decode cX4_readsFigure 100 = .ok (.iaload, 1) := by decide +kernel
theorem dX4_readsFigure_101 : decode cX4_readsFigure 101 = .ok (.imul, 1) := by decide +kernel
theorem dX4_readsFigure_102 : decode cX4_readsFigure 102 = .ok (.iload_n 1, 1) := by decide +kernel
theorem dX4_readsFigure_103 : decode cX4_readsFigure 103 = .ok (.iadd, 1) := by decide +kernel
theorem dX4_readsFigure_104 : decode cX4_readsFigure 104 = .ok (.iastore, 1) := by decide +kernel
theorem dX4_readsFigure_105 : decode cX4_readsFigure 105 = .ok (.goto 26, 3) := by decide +kernel
theorem dX4_readsFigure_108 : decode cX4_readsFigure 108 = .ok (.aload_n 0, 1) := by decide +kernel
theorem dX4_readsFigure_109 : decode cX4_readsFigure 109 = .ok (.getfield 25, 3) := by decide +kernel
theorem dX4_readsFigure_112 : decode cX4_readsFigure 112 = .ok (.aload_n 0, 1) := by decide +kernel
theorem dX4_readsFigure_113 : decode cX4_readsFigure 113 = .ok (.getfield 28, 3) := by decide +kernel
theorem dX4_readsFigure_116 : decode cX4_readsFigure 116 = .ok (.bipush 10, 2) := by decide +kernel
theorem dX4_readsFigure_118 : decode cX4_readsFigure 118 = .ok (.aload_n 0, 1) := by decide +kernel
theorem dX4_readsFigure_119 : decode cX4_readsFigure 119 = .ok (.getfield 25, 3) := by decide +kernel
theorem dX4_readsFigure_122 : decode cX4_readsFigure 122 = .ok (.aload_n 0, 1) := by decide +kernel
theorem dX4_readsFigure_123 : decode cX4_readsFigure 123 = .ok (.getfield 28, 3) := by decide +kernel
theorem dX4_readsFigure_126 : decode cX4_readsFigure 126 = .ok (.iaload, 1) := by decide +kernel
theorem dX4_readsFigure_127 : decode cX4_readsFigure 127 = .ok (.imul, 1) := by decide +kernel
theorem dX4_readsFigure_128 : decode cX4_readsFigure 128 = .ok (.iload_n 1, 1) := by decide +kernel
theorem dX4_readsFigure_129 : decode cX4_readsFigure 129 = .ok (.iadd, 1) := by decide +kernel
theorem dX4_readsFigure_130 : decode cX4_readsFigure 130 = .ok (.iastore, 1) := by decide +kernel
theorem dX4_readsFigure_131 : decode cX4_readsFigure 131 = .ok (.iconst 1, 1) := by decide +kernel
theorem dX4_readsFigure_132 : decode cX4_readsFigure 132 = .ok (.ireturn, 1) := by decide +kernel
theorem dX4_numbersOf_0 : decode cX4_numbersOf 0 = .ok (.iload_n 0, 1) := by decide +kernel
theorem dX4_numbersOf_1 : decode cX4_numbersOf 1 = .ok (.tableswitch 105 102 122 #[101, 105, 105, 105, 105, 105, 101, 105, 101, 99, 99, 101, 105, 105, 103, 105, 105, 105, 105, 105, 103], 99) := by decide +kernel
theorem dX4_numbersOf_100 : decode cX4_numbersOf 100 = .ok (.iconst 0, 1) := by decide +kernel
theorem dX4_numbersOf_101 : decode cX4_numbersOf 101 = .ok (.ireturn, 1) := by decide +kernel
theorem dX4_numbersOf_102 : decode cX4_numbersOf 102 = .ok (.iconst 1, 1) := by decide +kernel
theorem dX4_numbersOf_103 : decode cX4_numbersOf 103 = .ok (.ireturn, 1) := by decide +kernel
theorem dX4_numbersOf_104 : decode cX4_numbersOf 104 = .ok (.iconst 2, 1) := by decide +kernel
theorem dX4_numbersOf_105 : decode cX4_numbersOf 105 = .ok (.ireturn, 1) := by decide +kernel
theorem dX4_numbersOf_106 : decode cX4_numbersOf 106 = .ok (.iconst (-1), 1) := by decide +kernel
theorem dX4_numbersOf_107 : decode cX4_numbersOf 107 = .ok (.ireturn, 1) := by decide +kernel
theorem dX5_init_0 : decode cX5_init 0 = .ok (.aload_n 0, 1) := by decide +kernel
theorem dX5_init_1 : decode cX5_init 1 = .ok (.invokespecial 3, 3) := by decide +kernel
theorem dX5_init_4 : decode cX5_init 4 = .ok (.aload_n 0, 1) := by decide +kernel
theorem dX5_init_5 : decode cX5_init 5 = .ok (.new 9, 3) := by decide +kernel
theorem dX5_init_8 : decode cX5_init 8 = .ok (.dup, 1) := by decide +kernel
theorem dX5_init_9 : decode cX5_init 9 = .ok (.invokespecial 11, 3) := by decide +kernel
theorem dX5_init_12 : decode cX5_init 12 = .ok (.putfield 12, 3) := by decide +kernel
theorem dX5_init_15 : decode cX5_init 15 = .ok (.aload_n 0, 1) := by decide +kernel
theorem dX5_init_16 : decode cX5_init 16 = .ok (.new 16, 3) := by decide +kernel
theorem dX5_init_19 : decode cX5_init 19 = .ok (.dup, 1) := by decide +kernel
theorem dX5_init_20 : decode cX5_init 20 = .ok (.invokespecial 18, 3) := by decide +kernel
theorem dX5_init_23 : decode cX5_init 23 = .ok (.putfield 19, 3) := by decide +kernel
theorem dX5_init_26 : decode cX5_init 26 = .ok (.aload_n 0, 1) := by decide +kernel
theorem dX5_init_27 : decode cX5_init 27 = .ok (.new 23, 3) := by decide +kernel
theorem dX5_init_30 : decode cX5_init 30 = .ok (.dup, 1) := by decide +kernel
theorem dX5_init_31 : decode cX5_init 31 = .ok (.invokespecial 25, 3) := by decide +kernel
theorem dX5_init_34 : decode cX5_init 34 = .ok (.putfield 26, 3) := by decide +kernel
theorem dX5_init_37 : decode cX5_init 37 = .ok (.aload_n 0, 1) := by decide +kernel
theorem dX5_init_38 : decode cX5_init 38 = .ok (.new 30, 3) := by decide +kernel
theorem dX5_init_41 : decode cX5_init 41 = .ok (.dup, 1) := by decide +kernel
theorem dX5_init_42 : decode cX5_init 42 = .ok (.invokespecial 32, 3) := by decide +kernel
theorem dX5_init_45 : decode cX5_init 45 = .ok (.putfield 33, 3) := by decide +kernel
theorem dX5_init_48 : decode cX5_init 48 = .ok (.aload_n 0, 1) := by decide +kernel
theorem dX5_init_49 : decode cX5_init 49 = .ok (.iconst 3, 1) := by decide +kernel
theorem dX5_init_50 : decode cX5_init 50 = .ok (.newarray .int, 2) := by decide +kernel
theorem dX5_init_52 : decode cX5_init 52 = .ok (.putfield 37, 3) := by decide +kernel
theorem dX5_init_55 : decode cX5_init 55 = .ok (.aload_n 0, 1) := by decide +kernel
theorem dX5_init_56 : decode cX5_init 56 = .ok (.bipush 12, 2) := by decide +kernel
theorem dX5_init_58 : decode cX5_init 58 = .ok (.newarray .int, 2) := by decide +kernel
theorem dX5_init_60 : decode cX5_init 60 = .ok (.putfield 41, 3) := by decide +kernel
theorem dX5_init_63 : decode cX5_init 63 = .ok (.return_, 1) := by decide +kernel
theorem dX5_quarter_0 : decode cX5_quarter 0 = .ok (.aload_n 0, 1) := by decide +kernel
theorem dX5_quarter_1 : decode cX5_quarter 1 = .ok (.getfield 26, 3) := by decide +kernel
theorem dX5_quarter_4 : decode cX5_quarter 4 = .ok (.aload_n 0, 1) := by decide +kernel
theorem dX5_quarter_5 : decode cX5_quarter 5 = .ok (.getfield 12, 3) := by decide +kernel
theorem dX5_quarter_8 : decode cX5_quarter 8 = .ok (.invokevirtual 44, 3) := by decide +kernel
theorem dX5_quarter_11 : decode cX5_quarter 11 = .ok (.aload_n 0, 1) := by decide +kernel
theorem dX5_quarter_12 : decode cX5_quarter 12 = .ok (.aload_n 0, 1) := by decide +kernel
theorem dX5_quarter_13 : decode cX5_quarter 13 = .ok (.getfield 12, 3) := by decide +kernel
theorem dX5_quarter_16 : decode cX5_quarter 16 = .ok (.iload_n 1, 1) := by decide +kernel
theorem dX5_quarter_17 : decode cX5_quarter 17 = .ok (.invokevirtual 48, 3) := by decide +kernel
theorem dX5_quarter_20 : decode cX5_quarter 20 = .ok (.invokevirtual 52, 3) := by decide +kernel
theorem dX5_quarter_23 : decode cX5_quarter 23 = .ok (.ireturn, 1) := by decide +kernel
theorem dX5_indicates_0 : decode cX5_indicates 0 = .ok (.aload_n 0, 1) := by decide +kernel
theorem dX5_indicates_1 : decode cX5_indicates 1 = .ok (.getfield 26, 3) := by decide +kernel
theorem dX5_indicates_4 : decode cX5_indicates 4 = .ok (.aload_n 0, 1) := by decide +kernel
theorem dX5_indicates_5 : decode cX5_indicates 5 = .ok (.getfield 12, 3) := by decide +kernel
theorem dX5_indicates_8 : decode cX5_indicates 8 = .ok (.invokevirtual 44, 3) := by decide +kernel
theorem dX5_indicates_11 : decode cX5_indicates 11 = .ok (.aload_n 0, 1) := by decide +kernel
theorem dX5_indicates_12 : decode cX5_indicates 12 = .ok (.aload_n 0, 1) := by decide +kernel
theorem dX5_indicates_13 : decode cX5_indicates 13 = .ok (.getfield 12, 3) := by decide +kernel
theorem dX5_indicates_16 : decode cX5_indicates 16 = .ok (.iload_n 1, 1) := by decide +kernel
theorem dX5_indicates_17 : decode cX5_indicates 17 = .ok (.iload_n 2, 1) := by decide +kernel
theorem dX5_indicates_18 : decode cX5_indicates 18 = .ok (.invokevirtual 55, 3) := by decide +kernel
theorem dX5_indicates_21 : decode cX5_indicates 21 = .ok (.invokevirtual 52, 3) := by decide +kernel
theorem dX5_indicates_24 : decode cX5_indicates 24 = .ok (.ireturn, 1) := by decide +kernel
theorem dX5_total_0 : decode cX5_total 0 = .ok (.aload_n 0, 1) := by decide +kernel
theorem dX5_total_1 : decode cX5_total 1 = .ok (.getfield 26, 3) := by decide +kernel
theorem dX5_total_4 : decode cX5_total 4 = .ok (.aload_n 0, 1) := by decide +kernel
theorem dX5_total_5 : decode cX5_total 5 = .ok (.getfield 12, 3) := by decide +kernel
theorem dX5_total_8 : decode cX5_total 8 = .ok (.invokevirtual 44, 3) := by decide +kernel
theorem dX5_total_11 : decode cX5_total 11 = .ok (.aload_n 0, 1) := by decide +kernel
theorem dX5_total_12 : decode cX5_total 12 = .ok (.aload_n 0, 1) := by decide +kernel
theorem dX5_total_13 : decode cX5_total 13 = .ok (.getfield 12, 3) := by decide +kernel
theorem dX5_total_16 : decode cX5_total 16 = .ok (.iload_n 1, 1) := by decide +kernel
theorem dX5_total_17 : decode cX5_total 17 = .ok (.iload_n 2, 1) := by decide +kernel
theorem dX5_total_18 : decode cX5_total 18 = .ok (.invokevirtual 59, 3) := by decide +kernel
theorem dX5_total_21 : decode cX5_total 21 = .ok (.invokevirtual 52, 3) := by decide +kernel
theorem dX5_total_24 : decode cX5_total 24 = .ok (.ireturn, 1) := by decide +kernel
theorem dX5_untold_0 : decode cX5_untold 0 = .ok (.aload_n 0, 1) := by decide +kernel
theorem dX5_untold_1 : decode cX5_untold 1 = .ok (.getfield 26, 3) := by decide +kernel
theorem dX5_untold_4 : decode cX5_untold 4 = .ok (.aload_n 0, 1) := by decide +kernel
theorem dX5_untold_5 : decode cX5_untold 5 = .ok (.getfield 12, 3) := by decide +kernel
theorem dX5_untold_8 : decode cX5_untold 8 = .ok (.invokevirtual 44, 3) := by decide +kernel
theorem dX5_untold_11 : decode cX5_untold 11 = .ok (.aload_n 0, 1) := by decide +kernel
theorem dX5_untold_12 : decode cX5_untold 12 = .ok (.aload_n 0, 1) := by decide +kernel
theorem dX5_untold_13 : decode cX5_untold 13 = .ok (.getfield 12, 3) := by decide +kernel
theorem dX5_untold_16 : decode cX5_untold 16 = .ok (.iload_n 1, 1) := by decide +kernel
theorem dX5_untold_17 : decode cX5_untold 17 = .ok (.invokevirtual 62, 3) := by decide +kernel
theorem dX5_untold_20 : decode cX5_untold 20 = .ok (.invokevirtual 52, 3) := by decide +kernel
theorem dX5_untold_23 : decode cX5_untold 23 = .ok (.ireturn, 1) := by decide +kernel
theorem dX5_freezes_0 : decode cX5_freezes 0 = .ok (.aload_n 0, 1) := by decide +kernel
theorem dX5_freezes_1 : decode cX5_freezes 1 = .ok (.getfield 26, 3) := by decide +kernel
theorem dX5_freezes_4 : decode cX5_freezes 4 = .ok (.aload_n 0, 1) := by decide +kernel
theorem dX5_freezes_5 : decode cX5_freezes 5 = .ok (.getfield 12, 3) := by decide +kernel
theorem dX5_freezes_8 : decode cX5_freezes 8 = .ok (.invokevirtual 44, 3) := by decide +kernel
theorem dX5_freezes_11 : decode cX5_freezes 11 = .ok (.aload_n 0, 1) := by decide +kernel
theorem dX5_freezes_12 : decode cX5_freezes 12 = .ok (.aload_n 0, 1) := by decide +kernel
theorem dX5_freezes_13 : decode cX5_freezes 13 = .ok (.getfield 12, 3) := by decide +kernel
theorem dX5_freezes_16 : decode cX5_freezes 16 = .ok (.iload_n 1, 1) := by decide +kernel
theorem dX5_freezes_17 : decode cX5_freezes 17 = .ok (.iload_n 2, 1) := by decide +kernel
theorem dX5_freezes_18 : decode cX5_freezes 18 = .ok (.invokevirtual 65, 3) := by decide +kernel
theorem dX5_freezes_21 : decode cX5_freezes 21 = .ok (.invokevirtual 52, 3) := by decide +kernel
theorem dX5_freezes_24 : decode cX5_freezes 24 = .ok (.ireturn, 1) := by decide +kernel
theorem dX5_limits_0 : decode cX5_limits 0 = .ok (.aload_n 0, 1) := by decide +kernel
theorem dX5_limits_1 : decode cX5_limits 1 = .ok (.getfield 26, 3) := by decide +kernel
theorem dX5_limits_4 : decode cX5_limits 4 = .ok (.aload_n 0, 1) := by decide +kernel
theorem dX5_limits_5 : decode cX5_limits 5 = .ok (.getfield 12, 3) := by decide +kernel
theorem dX5_limits_8 : decode cX5_limits 8 = .ok (.invokevirtual 44, 3) := by decide +kernel
theorem dX5_limits_11 : decode cX5_limits 11 = .ok (.aload_n 0, 1) := by decide +kernel
theorem dX5_limits_12 : decode cX5_limits 12 = .ok (.aload_n 0, 1) := by decide +kernel
theorem dX5_limits_13 : decode cX5_limits 13 = .ok (.getfield 12, 3) := by decide +kernel
theorem dX5_limits_16 : decode cX5_limits 16 = .ok (.iload_n 1, 1) := by decide +kernel
theorem dX5_limits_17 : decode cX5_limits 17 = .ok (.invokevirtual 68, 3) := by decide +kernel
theorem dX5_limits_20 : decode cX5_limits 20 = .ok (.invokevirtual 52, 3) := by decide +kernel
theorem dX5_limits_23 : decode cX5_limits 23 = .ok (.ireturn, 1) := by decide +kernel
theorem dX5_form_0 : decode cX5_form 0 = .ok (.aload_n 0, 1) := by decide +kernel
theorem dX5_form_1 : decode cX5_form 1 = .ok (.getfield 26, 3) := by decide +kernel
theorem dX5_form_4 : decode cX5_form 4 = .ok (.aload_n 0, 1) := by decide +kernel
theorem dX5_form_5 : decode cX5_form 5 = .ok (.getfield 12, 3) := by decide +kernel
theorem dX5_form_8 : decode cX5_form 8 = .ok (.invokevirtual 44, 3) := by decide +kernel
theorem dX5_form_11 : decode cX5_form 11 = .ok (.aload_n 0, 1) := by decide +kernel
theorem dX5_form_12 : decode cX5_form 12 = .ok (.aload_n 0, 1) := by decide +kernel
theorem dX5_form_13 : decode cX5_form 13 = .ok (.getfield 12, 3) := by decide +kernel
theorem dX5_form_16 : decode cX5_form 16 = .ok (.iload_n 1, 1) := by decide +kernel
theorem dX5_form_17 : decode cX5_form 17 = .ok (.invokevirtual 71, 3) := by decide +kernel
theorem dX5_form_20 : decode cX5_form 20 = .ok (.invokevirtual 52, 3) := by decide +kernel
theorem dX5_form_23 : decode cX5_form 23 = .ok (.ireturn, 1) := by decide +kernel
theorem dX5_publishes_0 : decode cX5_publishes 0 = .ok (.aload_n 0, 1) := by decide +kernel
theorem dX5_publishes_1 : decode cX5_publishes 1 = .ok (.getfield 26, 3) := by decide +kernel
theorem dX5_publishes_4 : decode cX5_publishes 4 = .ok (.aload_n 0, 1) := by decide +kernel
theorem dX5_publishes_5 : decode cX5_publishes 5 = .ok (.getfield 12, 3) := by decide +kernel
theorem dX5_publishes_8 : decode cX5_publishes 8 = .ok (.invokevirtual 44, 3) := by decide +kernel
theorem dX5_publishes_11 : decode cX5_publishes 11 = .ok (.aload_n 0, 1) := by decide +kernel
theorem dX5_publishes_12 : decode cX5_publishes 12 = .ok (.aload_n 0, 1) := by decide +kernel
theorem dX5_publishes_13 : decode cX5_publishes 13 = .ok (.invokevirtual 74, 3) := by decide +kernel
theorem dX5_publishes_16 : decode cX5_publishes 16 = .ok (.invokevirtual 52, 3) := by decide +kernel
theorem dX5_publishes_19 : decode cX5_publishes 19 = .ok (.ireturn, 1) := by decide +kernel
theorem dX5_recalls_0 : decode cX5_recalls 0 = .ok (.aload_n 0, 1) := by decide +kernel
theorem dX5_recalls_1 : decode cX5_recalls 1 = .ok (.getfield 26, 3) := by decide +kernel
theorem dX5_recalls_4 : decode cX5_recalls 4 = .ok (.aload_n 0, 1) := by decide +kernel
theorem dX5_recalls_5 : decode cX5_recalls 5 = .ok (.getfield 12, 3) := by decide +kernel
theorem dX5_recalls_8 : decode cX5_recalls 8 = .ok (.invokevirtual 44, 3) := by decide +kernel
theorem dX5_recalls_11 : decode cX5_recalls 11 = .ok (.aload_n 0, 1) := by decide +kernel
theorem dX5_recalls_12 : decode cX5_recalls 12 = .ok (.aload_n 0, 1) := by decide +kernel
theorem dX5_recalls_13 : decode cX5_recalls 13 = .ok (.getfield 12, 3) := by decide +kernel
theorem dX5_recalls_16 : decode cX5_recalls 16 = .ok (.invokevirtual 78, 3) := by decide +kernel
theorem dX5_recalls_19 : decode cX5_recalls 19 = .ok (.invokevirtual 52, 3) := by decide +kernel
theorem dX5_recalls_22 : decode cX5_recalls 22 = .ok (.ireturn, 1) := by decide +kernel
theorem dX5_of_0 : decode cX5_of 0 = .ok (.aload_n 0, 1) := by decide +kernel
theorem dX5_of_1 : decode cX5_of 1 = .ok (.getfield 12, 3) := by decide +kernel
theorem dX5_of_4 : decode cX5_of 4 = .ok (.iload_n 1, 1) := by decide +kernel
theorem dX5_of_5 : decode cX5_of 5 = .ok (.invokevirtual 81, 3) := by decide +kernel
theorem dX5_of_8 : decode cX5_of 8 = .ok (.ifCond .eq 12, 3) := by decide +kernel
theorem dX5_of_11 : decode cX5_of 11 = .ok (.iload_n 2, 1) := by decide +kernel
theorem dX5_of_12 : decode cX5_of 12 = .ok (.iconst 0, 1) := by decide +kernel
theorem dX5_of_13 : decode cX5_of 13 = .ok (.iconst 3, 1) := by decide +kernel
theorem dX5_of_14 : decode cX5_of 14 = .ok (.invokestatic 85, 3) := by decide +kernel
theorem dX5_of_17 : decode cX5_of 17 = .ok (.ifCond .ne 10, 3) := by decide +kernel
theorem dX5_of_20 : decode cX5_of 20 = .ok (.aload_n 0, 1) := by decide +kernel
theorem dX5_of_21 : decode cX5_of 21 = .ok (.bipush (-2), 2) := by decide +kernel
theorem dX5_of_23 : decode cX5_of 23 = .ok (.invokevirtual 89, 3) := by decide +kernel
theorem dX5_of_26 : decode cX5_of 26 = .ok (.ireturn, 1) := by decide +kernel
theorem dX5_of_27 : decode cX5_of 27 = .ok (.aload_n 0, 1) := by decide +kernel
theorem dX5_of_28 : decode cX5_of 28 = .ok (.getfield 12, 3) := by decide +kernel
theorem dX5_of_31 : decode cX5_of 31 = .ok (.iload_n 1, 1) := by decide +kernel
theorem dX5_of_32 : decode cX5_of 32 = .ok (.iload_n 2, 1) := by decide +kernel
theorem dX5_of_33 : decode cX5_of 33 = .ok (.invokevirtual 92, 3) := by decide +kernel
theorem dX5_of_36 : decode cX5_of 36 = .ok (.ireturn, 1) := by decide +kernel
theorem dX5_year_0 : decode cX5_year 0 = .ok (.iload_n 1, 1) := by decide +kernel
theorem dX5_year_1 : decode cX5_year 1 = .ok (.invokestatic 95, 3) := by decide +kernel
theorem dX5_year_4 : decode cX5_year 4 = .ok (.ifCond .eq 12, 3) := by decide +kernel
theorem dX5_year_7 : decode cX5_year 7 = .ok (.iload_n 2, 1) := by decide +kernel
theorem dX5_year_8 : decode cX5_year 8 = .ok (.iconst 0, 1) := by decide +kernel
theorem dX5_year_9 : decode cX5_year 9 = .ok (.iconst 2, 1) := by decide +kernel
theorem dX5_year_10 : decode cX5_year 10 = .ok (.invokestatic 85, 3) := by decide +kernel
theorem dX5_year_13 : decode cX5_year 13 = .ok (.ifCond .ne 10, 3) := by decide +kernel
theorem dX5_year_16 : decode cX5_year 16 = .ok (.aload_n 0, 1) := by decide +kernel
theorem dX5_year_17 : decode cX5_year 17 = .ok (.bipush (-2), 2) := by decide +kernel
theorem dX5_year_19 : decode cX5_year 19 = .ok (.invokevirtual 89, 3) := by decide +kernel
theorem dX5_year_22 : decode cX5_year 22 = .ok (.ireturn, 1) := by decide +kernel
theorem dX5_year_23 : decode cX5_year 23 = .ok (.aload_n 0, 1) := by decide +kernel
theorem dX5_year_24 : decode cX5_year 24 = .ok (.getfield 12, 3) := by decide +kernel
theorem dX5_year_27 : decode cX5_year 27 = .ok (.iload_n 1, 1) := by decide +kernel
theorem dX5_year_28 : decode cX5_year 28 = .ok (.iload_n 2, 1) := by decide +kernel
theorem dX5_year_29 : decode cX5_year 29 = .ok (.invokevirtual 98, 3) := by decide +kernel
theorem dX5_year_32 : decode cX5_year 32 = .ok (.ireturn, 1) := by decide +kernel
theorem dX5_count_0 : decode cX5_count 0 = .ok (.iload_n 1, 1) := by decide +kernel
theorem dX5_count_1 : decode cX5_count 1 = .ok (.iconst 0, 1) := by decide +kernel
theorem dX5_count_2 : decode cX5_count 2 = .ok (.iconst 5, 1) := by decide +kernel
theorem dX5_count_3 : decode cX5_count 3 = .ok (.invokestatic 85, 3) := by decide +kernel
theorem dX5_count_6 : decode cX5_count 6 = .ok (.ifCond .ne 10, 3) := by decide +kernel
theorem dX5_count_9 : decode cX5_count 9 = .ok (.aload_n 0, 1) := by decide +kernel
theorem dX5_count_10 : decode cX5_count 10 = .ok (.bipush (-2), 2) := by decide +kernel
theorem dX5_count_12 : decode cX5_count 12 = .ok (.invokevirtual 89, 3) := by decide +kernel
theorem dX5_count_15 : decode cX5_count 15 = .ok (.ireturn, 1) := by decide +kernel
theorem dX5_count_16 : decode cX5_count 16 = .ok (.aload_n 0, 1) := by decide +kernel
theorem dX5_count_17 : decode cX5_count 17 = .ok (.getfield 12, 3) := by decide +kernel
theorem dX5_count_20 : decode cX5_count 20 = .ok (.iload_n 1, 1) := by decide +kernel
theorem dX5_count_21 : decode cX5_count 21 = .ok (.invokevirtual 101, 3) := by decide +kernel
theorem dX5_count_24 : decode cX5_count 24 = .ok (.ireturn, 1) := by decide +kernel
theorem dX5_bent_0 : decode cX5_bent 0 = .ok (.aload_n 0, 1) := by decide +kernel
theorem dX5_bent_1 : decode cX5_bent 1 = .ok (.getfield 12, 3) := by decide +kernel
theorem dX5_bent_4 : decode cX5_bent 4 = .ok (.iload_n 1, 1) := by decide +kernel
theorem dX5_bent_5 : decode cX5_bent 5 = .ok (.invokevirtual 81, 3) := by decide +kernel
theorem dX5_bent_8 : decode cX5_bent 8 = .ok (.ifCond .ne 10, 3) := by decide +kernel
theorem dX5_bent_11 : decode cX5_bent 11 = .ok (.aload_n 0, 1) := by decide +kernel
theorem dX5_bent_12 : decode cX5_bent 12 = .ok (.bipush (-2), 2) := by decide +kernel
theorem dX5_bent_14 : decode cX5_bent 14 = .ok (.invokevirtual 89, 3) := by decide +kernel
theorem dX5_bent_17 : decode cX5_bent 17 = .ok (.ireturn, 1) := by decide +kernel
theorem dX5_bent_18 : decode cX5_bent 18 = .ok (.aload_n 0, 1) := by decide +kernel
theorem dX5_bent_19 : decode cX5_bent 19 = .ok (.getfield 19, 3) := by decide +kernel
theorem dX5_bent_22 : decode cX5_bent 22 = .ok (.aload_n 0, 1) := by decide +kernel
theorem dX5_bent_23 : decode cX5_bent 23 = .ok (.getfield 12, 3) := by decide +kernel
theorem dX5_bent_26 : decode cX5_bent 26 = .ok (.invokevirtual 104, 3) := by decide +kernel
theorem dX5_bent_29 : decode cX5_bent 29 = .ok (.ifCond .ne 10, 3) := by decide +kernel
theorem dX5_bent_32 : decode cX5_bent 32 = .ok (.aload_n 0, 1) := by decide +kernel
theorem dX5_bent_33 : decode cX5_bent 33 = .ok (.bipush (-3), 2) := by decide +kernel
theorem dX5_bent_35 : decode cX5_bent 35 = .ok (.invokevirtual 89, 3) := by decide +kernel
theorem dX5_bent_38 : decode cX5_bent 38 = .ok (.ireturn, 1) := by decide +kernel
theorem dX5_bent_39 : decode cX5_bent 39 = .ok (.aload_n 0, 1) := by decide +kernel
theorem dX5_bent_40 : decode cX5_bent 40 = .ok (.getfield 19, 3) := by decide +kernel
theorem dX5_bent_43 : decode cX5_bent 43 = .ok (.getfield 108, 3) := by decide +kernel
theorem dX5_bent_46 : decode cX5_bent 46 = .ok (.iload_n 1, 1) := by decide +kernel
theorem dX5_bent_47 : decode cX5_bent 47 = .ok (.iaload, 1) := by decide +kernel
theorem dX5_bent_48 : decode cX5_bent 48 = .ok (.bipush 8, 2) := by decide +kernel
theorem dX5_bent_50 : decode cX5_bent 50 = .ok (.iadd, 1) := by decide +kernel
theorem dX5_bent_51 : decode cX5_bent 51 = .ok (.ireturn, 1) := by decide +kernel
theorem dX5_moved_0 : decode cX5_moved 0 = .ok (.iload_n 1, 1) := by decide +kernel
theorem dX5_moved_1 : decode cX5_moved 1 = .ok (.invokestatic 111, 3) := by decide +kernel
theorem dX5_moved_4 : decode cX5_moved 4 = .ok (.ifCond .ne 11, 3) := by decide +kernel
theorem dX5_moved_7 : decode cX5_moved 7 = .ok (.aload_n 0, 1) := by decide +kernel
theorem dX5_moved_8 : decode cX5_moved 8 = .ok (.bipush (-2), 2) := by decide +kernel
theorem dX5_moved_10 : decode cX5_moved 10 = .ok (.invokevirtual 89, 3) := by decide +kernel
theorem dX5_moved_13 : decode cX5_moved 13 = .ok (.i2l, 1) := by decide +kernel
theorem dX5_moved_14 : decode cX5_moved 14 = .ok (.lreturn, 1) := by decide +kernel
theorem dX5_moved_15 : decode cX5_moved 15 = .ok (.aload_n 0, 1) := by decide +kernel
theorem dX5_moved_16 : decode cX5_moved 16 = .ok (.getfield 19, 3) := by decide +kernel
theorem dX5_moved_19 : decode cX5_moved 19 = .ok (.aload_n 0, 1) := by decide +kernel
theorem dX5_moved_20 : decode cX5_moved 20 = .ok (.getfield 12, 3) := by decide +kernel
theorem dX5_moved_23 : decode cX5_moved 23 = .ok (.invokevirtual 104, 3) := by decide +kernel
theorem dX5_moved_26 : decode cX5_moved 26 = .ok (.ifCond .ne 11, 3) := by decide +kernel
theorem dX5_moved_29 : decode cX5_moved 29 = .ok (.aload_n 0, 1) := by decide +kernel
theorem dX5_moved_30 : decode cX5_moved 30 = .ok (.bipush (-3), 2) := by decide +kernel
theorem dX5_moved_32 : decode cX5_moved 32 = .ok (.invokevirtual 89, 3) := by decide +kernel
theorem dX5_moved_35 : decode cX5_moved 35 = .ok (.i2l, 1) := by decide +kernel
theorem dX5_moved_36 : decode cX5_moved 36 = .ok (.lreturn, 1) := by decide +kernel
theorem dX5_moved_37 : decode cX5_moved 37 = .ok (.aload_n 0, 1) := by decide +kernel
theorem dX5_moved_38 : decode cX5_moved 38 = .ok (.getfield 12, 3) := by decide +kernel
theorem dX5_moved_41 : decode cX5_moved 41 = .ok (.aload_n 0, 1) := by decide +kernel
theorem dX5_moved_42 : decode cX5_moved 42 = .ok (.getfield 19, 3) := by decide +kernel
theorem dX5_moved_45 : decode cX5_moved 45 = .ok (.getfield 108, 3) := by decide +kernel
theorem dX5_moved_48 : decode cX5_moved 48 = .ok (.iload_n 1, 1) := by decide +kernel
theorem dX5_moved_49 : decode cX5_moved 49 = .ok (.invokevirtual 114, 3) := by decide +kernel
theorem dX5_moved_52 : decode cX5_moved 52 = .ok (.lreturn, 1) := by decide +kernel
theorem dX5_revised_0 : decode cX5_revised 0 = .ok (.aload_n 0, 1) := by decide +kernel
theorem dX5_revised_1 : decode cX5_revised 1 = .ok (.getfield 12, 3) := by decide +kernel
theorem dX5_revised_4 : decode cX5_revised 4 = .ok (.iload_n 1, 1) := by decide +kernel
theorem dX5_revised_5 : decode cX5_revised 5 = .ok (.invokevirtual 81, 3) := by decide +kernel
theorem dX5_revised_8 : decode cX5_revised 8 = .ok (.ifCond .ne 10, 3) := by decide +kernel
theorem dX5_revised_11 : decode cX5_revised 11 = .ok (.aload_n 0, 1) := by decide +kernel
theorem dX5_revised_12 : decode cX5_revised 12 = .ok (.bipush (-2), 2) := by decide +kernel
theorem dX5_revised_14 : decode cX5_revised 14 = .ok (.invokevirtual 89, 3) := by decide +kernel
theorem dX5_revised_17 : decode cX5_revised 17 = .ok (.ireturn, 1) := by decide +kernel
theorem dX5_revised_18 : decode cX5_revised 18 = .ok (.aload_n 0, 1) := by decide +kernel
theorem dX5_revised_19 : decode cX5_revised 19 = .ok (.getfield 12, 3) := by decide +kernel
theorem dX5_revised_22 : decode cX5_revised 22 = .ok (.iload_n 1, 1) := by decide +kernel
theorem dX5_revised_23 : decode cX5_revised 23 = .ok (.invokevirtual 118, 3) := by decide +kernel
theorem dX5_revised_26 : decode cX5_revised 26 = .ok (.ifCond .eq 17, 3) := by decide +kernel
theorem dX5_revised_29 : decode cX5_revised 29 = .ok (.aload_n 0, 1) := by decide +kernel
theorem dX5_revised_30 : decode cX5_revised 30 = .ok (.getfield 19, 3) := by decide +kernel
theorem dX5_revised_33 : decode cX5_revised 33 = .ok (.aload_n 0, 1) := by decide +kernel
theorem dX5_revised_34 : decode cX5_revised 34 = .ok (.getfield 12, 3) := by decide +kernel
theorem dX5_revised_37 : decode cX5_revised 37 = .ok (.invokevirtual 104, 3) := by decide +kernel
theorem dX5_revised_40 : decode cX5_revised 40 = .ok (.ifCond .ne 10, 3) := by decide +kernel
theorem dX5_revised_43 : decode cX5_revised 43 = .ok (.aload_n 0, 1) := by decide +kernel
theorem dX5_revised_44 : decode cX5_revised 44 = .ok (.bipush (-3), 2) := by decide +kernel
theorem dX5_revised_46 : decode cX5_revised 46 = .ok (.invokevirtual 89, 3) := by decide +kernel
theorem dX5_revised_49 : decode cX5_revised 49 = .ok (.ireturn, 1) := by decide +kernel
theorem dX5_revised_50 : decode cX5_revised 50 = .ok (.aload_n 0, 1) := by decide +kernel
theorem dX5_revised_51 : decode cX5_revised 51 = .ok (.iload_n 1, 1) := by decide +kernel
theorem dX5_revised_52 : decode cX5_revised 52 = .ok (.invokevirtual 121, 3) := by decide +kernel
theorem dX5_revised_55 : decode cX5_revised 55 = .ok (.ireturn, 1) := by decide +kernel
theorem dX5_farthest_0 : decode cX5_farthest 0 = .ok (.aload_n 0, 1) := by decide +kernel
theorem dX5_farthest_1 : decode cX5_farthest 1 = .ok (.getfield 19, 3) := by decide +kernel
theorem dX5_farthest_4 : decode cX5_farthest 4 = .ok (.aload_n 0, 1) := by decide +kernel
theorem dX5_farthest_5 : decode cX5_farthest 5 = .ok (.getfield 12, 3) := by decide +kernel
theorem dX5_farthest_8 : decode cX5_farthest 8 = .ok (.invokevirtual 104, 3) := by decide +kernel
theorem dX5_farthest_11 : decode cX5_farthest 11 = .ok (.ifCond .ne 10, 3) := by decide +kernel
theorem dX5_farthest_14 : decode cX5_farthest 14 = .ok (.aload_n 0, 1) := by decide +kernel
theorem dX5_farthest_15 : decode cX5_farthest 15 = .ok (.bipush (-3), 2) := by decide +kernel
theorem dX5_farthest_17 : decode cX5_farthest 17 = .ok (.invokevirtual 89, 3) := by decide +kernel
theorem dX5_farthest_20 : decode cX5_farthest 20 = .ok (.ireturn, 1) := by decide +kernel
theorem dX5_farthest_21 : decode cX5_farthest 21 = .ok (.iconst (-1), 1) := by decide +kernel
theorem dX5_farthest_22 : decode cX5_farthest 22 = .ok (.istore_n 1, 1) := by decide +kernel
theorem dX5_farthest_23 : decode cX5_farthest 23 = .ok (.iconst (-1), 1) := by decide +kernel
theorem dX5_farthest_24 : decode cX5_farthest 24 = .ok (.istore_n 2, 1) := by decide +kernel
theorem dX5_farthest_25 : decode cX5_farthest 25 = .ok (.iconst 0, 1) := by decide +kernel
theorem dX5_farthest_26 : decode cX5_farthest 26 = .ok (.istore_n 3, 1) := by decide +kernel
theorem dX5_farthest_27 : decode cX5_farthest 27 = .ok (.iload_n 3, 1) := by decide +kernel
theorem dX5_farthest_28 : decode cX5_farthest 28 = .ok (.aload_n 0, 1) := by decide +kernel
theorem dX5_farthest_29 : decode cX5_farthest 29 = .ok (.getfield 12, 3) := by decide +kernel
theorem dX5_farthest_32 : decode cX5_farthest 32 = .ok (.getfield 124, 3) := by decide +kernel
theorem dX5_farthest_35 : decode cX5_farthest 35 = .ok (.if_icmp .ge 37, 3) := by decide +kernel
theorem dX5_farthest_38 : decode cX5_farthest 38 = .ok (.aload_n 0, 1) := by decide +kernel
theorem dX5_farthest_39 : decode cX5_farthest 39 = .ok (.getfield 12, 3) := by decide +kernel
theorem dX5_farthest_42 : decode cX5_farthest 42 = .ok (.iload_n 3, 1) := by decide +kernel
theorem dX5_farthest_43 : decode cX5_farthest 43 = .ok (.invokevirtual 118, 3) := by decide +kernel
theorem dX5_farthest_46 : decode cX5_farthest 46 = .ok (.ifCond .eq 20, 3) := by decide +kernel
theorem dX5_farthest_49 : decode cX5_farthest 49 = .ok (.aload_n 0, 1) := by decide +kernel
theorem dX5_farthest_50 : decode cX5_farthest 50 = .ok (.iload_n 3, 1) := by decide +kernel
theorem dX5_farthest_51 : decode cX5_farthest 51 = .ok (.invokevirtual 121, 3) := by decide +kernel
theorem dX5_farthest_54 : decode cX5_farthest 54 = .ok (.iload_n 2, 1) := by decide +kernel
theorem dX5_farthest_55 : decode cX5_farthest 55 = .ok (.if_icmp .le 11, 3) := by decide +kernel
theorem dX5_farthest_58 : decode cX5_farthest 58 = .ok (.iload_n 3, 1) := by decide +kernel
theorem dX5_farthest_59 : decode cX5_farthest 59 = .ok (.istore_n 1, 1) := by decide +kernel
theorem dX5_farthest_60 : decode cX5_farthest 60 = .ok (.aload_n 0, 1) := by decide +kernel
theorem dX5_farthest_61 : decode cX5_farthest 61 = .ok (.iload_n 3, 1) := by decide +kernel
theorem dX5_farthest_62 : decode cX5_farthest 62 = .ok (.invokevirtual 121, 3) := by decide +kernel
theorem dX5_farthest_65 : decode cX5_farthest 65 = .ok (.istore_n 2, 1) := by decide +kernel
theorem dX5_farthest_66 : decode cX5_farthest 66 = .ok (.iinc 3 1, 3) := by decide +kernel
theorem dX5_farthest_69 : decode cX5_farthest 69 = .ok (.goto (-42), 3) := by decide +kernel
theorem dX5_farthest_72 : decode cX5_farthest 72 = .ok (.iload_n 1, 1) := by decide +kernel
theorem dX5_farthest_73 : decode cX5_farthest 73 = .ok (.ireturn, 1) := by decide +kernel
theorem dX5_least_0 : decode cX5_least 0 = .ok (.iconst 0, 1) := by decide +kernel
theorem dX5_least_1 : decode cX5_least 1 = .ok (.istore_n 1, 1) := by decide +kernel
theorem dX5_least_2 : decode cX5_least 2 = .ok (.iload_n 1, 1) := by decide +kernel
theorem dX5_least_3 : decode cX5_least 3 = .ok (.bipush 24, 2) := by decide +kernel
theorem dX5_least_5 : decode cX5_least 5 = .ok (.if_icmp .gt 26, 3) := by decide +kernel
theorem dX5_least_8 : decode cX5_least 8 = .ok (.aload_n 0, 1) := by decide +kernel
theorem dX5_least_9 : decode cX5_least 9 = .ok (.getfield 19, 3) := by decide +kernel
theorem dX5_least_12 : decode cX5_least 12 = .ok (.aload_n 0, 1) := by decide +kernel
theorem dX5_least_13 : decode cX5_least 13 = .ok (.getfield 12, 3) := by decide +kernel
theorem dX5_least_16 : decode cX5_least 16 = .ok (.iload_n 1, 1) := by decide +kernel
theorem dX5_least_17 : decode cX5_least 17 = .ok (.invokevirtual 128, 3) := by decide +kernel
theorem dX5_least_20 : decode cX5_least 20 = .ok (.ifCond .eq 5, 3) := by decide +kernel
theorem dX5_least_23 : decode cX5_least 23 = .ok (.iload_n 1, 1) := by decide +kernel
theorem dX5_least_24 : decode cX5_least 24 = .ok (.ireturn, 1) := by decide +kernel
theorem dX5_least_25 : decode cX5_least 25 = .ok (.iinc 1 1, 3) := by decide +kernel
theorem dX5_least_28 : decode cX5_least 28 = .ok (.goto (-26), 3) := by decide +kernel
theorem dX5_least_31 : decode cX5_least 31 = .ok (.iconst (-1), 1) := by decide +kernel
theorem dX5_least_32 : decode cX5_least 32 = .ok (.ireturn, 1) := by decide +kernel
theorem dX5_price_0 : decode cX5_price 0 = .ok (.iload_n 1, 1) := by decide +kernel
theorem dX5_price_1 : decode cX5_price 1 = .ok (.invokestatic 95, 3) := by decide +kernel
theorem dX5_price_4 : decode cX5_price 4 = .ok (.ifCond .ne 11, 3) := by decide +kernel
theorem dX5_price_7 : decode cX5_price 7 = .ok (.aload_n 0, 1) := by decide +kernel
theorem dX5_price_8 : decode cX5_price 8 = .ok (.bipush (-2), 2) := by decide +kernel
theorem dX5_price_10 : decode cX5_price 10 = .ok (.invokevirtual 89, 3) := by decide +kernel
theorem dX5_price_13 : decode cX5_price 13 = .ok (.i2l, 1) := by decide +kernel
theorem dX5_price_14 : decode cX5_price 14 = .ok (.lreturn, 1) := by decide +kernel
theorem dX5_price_15 : decode cX5_price 15 = .ok (.aload_n 0, 1) := by decide +kernel
theorem dX5_price_16 : decode cX5_price 16 = .ok (.getfield 12, 3) := by decide +kernel
theorem dX5_price_19 : decode cX5_price 19 = .ok (.getfield 132, 3) := by decide +kernel
theorem dX5_price_22 : decode cX5_price 22 = .ok (.iload_n 1, 1) := by decide +kernel
theorem dX5_price_23 : decode cX5_price 23 = .ok (.iaload, 1) := by decide +kernel
theorem dX5_price_24 : decode cX5_price 24 = .ok (.iconst (-1), 1) := by decide +kernel
theorem dX5_price_25 : decode cX5_price 25 = .ok (.if_icmp .eq 17, 3) := by decide +kernel
theorem dX5_price_28 : decode cX5_price 28 = .ok (.aload_n 0, 1) := by decide +kernel
theorem dX5_price_29 : decode cX5_price 29 = .ok (.getfield 19, 3) := by decide +kernel
theorem dX5_price_32 : decode cX5_price 32 = .ok (.aload_n 0, 1) := by decide +kernel
theorem dX5_price_33 : decode cX5_price 33 = .ok (.getfield 12, 3) := by decide +kernel
theorem dX5_price_36 : decode cX5_price 36 = .ok (.invokevirtual 104, 3) := by decide +kernel
theorem dX5_price_39 : decode cX5_price 39 = .ok (.ifCond .ne 11, 3) := by decide +kernel
theorem dX5_price_42 : decode cX5_price 42 = .ok (.aload_n 0, 1) := by decide +kernel
theorem dX5_price_43 : decode cX5_price 43 = .ok (.bipush (-3), 2) := by decide +kernel
theorem dX5_price_45 : decode cX5_price 45 = .ok (.invokevirtual 89, 3) := by decide +kernel
theorem dX5_price_48 : decode cX5_price 48 = .ok (.i2l, 1) := by decide +kernel
theorem dX5_price_49 : decode cX5_price 49 = .ok (.lreturn, 1) := by decide +kernel
theorem dX5_price_50 : decode cX5_price 50 = .ok (.aload_n 0, 1) := by decide +kernel
theorem dX5_price_51 : decode cX5_price 51 = .ok (.getfield 12, 3) := by decide +kernel
theorem dX5_price_54 : decode cX5_price 54 = .ok (.aload_n 0, 1) := by decide +kernel
theorem dX5_price_55 : decode cX5_price 55 = .ok (.getfield 19, 3) := by decide +kernel
theorem dX5_price_58 : decode cX5_price 58 = .ok (.getfield 108, 3) := by decide +kernel
theorem dX5_price_61 : decode cX5_price 61 = .ok (.aload_n 0, 1) := by decide +kernel
theorem dX5_price_62 : decode cX5_price 62 = .ok (.getfield 12, 3) := by decide +kernel
theorem dX5_price_65 : decode cX5_price 65 = .ok (.getfield 135, 3) := by decide +kernel
theorem dX5_price_68 : decode cX5_price 68 = .ok (.invokevirtual 114, 3) := by decide +kernel
theorem dX5_price_71 : decode cX5_price 71 = .ok (.aload_n 0, 1) := by decide +kernel
theorem dX5_price_72 : decode cX5_price 72 = .ok (.getfield 19, 3) := by decide +kernel
theorem dX5_price_75 : decode cX5_price 75 = .ok (.aload_n 0, 1) := by decide +kernel
theorem dX5_price_76 : decode cX5_price 76 = .ok (.getfield 12, 3) := by decide +kernel
theorem dX5_price_79 : decode cX5_price 79 = .ok (.iload_n 1, 1) := by decide +kernel
theorem dX5_price_80 : decode cX5_price 80 = .ok (.invokevirtual 138, 3) := by decide +kernel
theorem dX5_price_83 : decode cX5_price 83 = .ok (.lsub, 1) := by decide +kernel
theorem dX5_price_84 : decode cX5_price 84 = .ok (.lreturn, 1) := by decide +kernel
theorem dX5_others_0 : decode cX5_others 0 = .ok (.aload_n 0, 1) := by decide +kernel
theorem dX5_others_1 : decode cX5_others 1 = .ok (.getfield 19, 3) := by decide +kernel
theorem dX5_others_4 : decode cX5_others 4 = .ok (.aload_n 0, 1) := by decide +kernel
theorem dX5_others_5 : decode cX5_others 5 = .ok (.getfield 12, 3) := by decide +kernel
theorem dX5_others_8 : decode cX5_others 8 = .ok (.invokevirtual 104, 3) := by decide +kernel
theorem dX5_others_11 : decode cX5_others 11 = .ok (.ifCond .eq 13, 3) := by decide +kernel
theorem dX5_others_14 : decode cX5_others 14 = .ok (.aload_n 0, 1) := by decide +kernel
theorem dX5_others_15 : decode cX5_others 15 = .ok (.getfield 19, 3) := by decide +kernel
theorem dX5_others_18 : decode cX5_others 18 = .ok (.getfield 142, 3) := by decide +kernel
theorem dX5_others_21 : decode cX5_others 21 = .ok (.goto 4, 3) := by decide +kernel
theorem dX5_others_24 : decode cX5_others 24 = .ok (.iconst 0, 1) := by decide +kernel
theorem dX5_others_25 : decode cX5_others 25 = .ok (.ireturn, 1) := by decide +kernel
theorem dX5_shared_0 : decode cX5_shared 0 = .ok (.aload_n 0, 1) := by decide +kernel
theorem dX5_shared_1 : decode cX5_shared 1 = .ok (.getfield 12, 3) := by decide +kernel
theorem dX5_shared_4 : decode cX5_shared 4 = .ok (.iload_n 1, 1) := by decide +kernel
theorem dX5_shared_5 : decode cX5_shared 5 = .ok (.invokevirtual 81, 3) := by decide +kernel
theorem dX5_shared_8 : decode cX5_shared 8 = .ok (.ifCond .ne 10, 3) := by decide +kernel
theorem dX5_shared_11 : decode cX5_shared 11 = .ok (.aload_n 0, 1) := by decide +kernel
theorem dX5_shared_12 : decode cX5_shared 12 = .ok (.bipush (-2), 2) := by decide +kernel
theorem dX5_shared_14 : decode cX5_shared 14 = .ok (.invokevirtual 89, 3) := by decide +kernel
theorem dX5_shared_17 : decode cX5_shared 17 = .ok (.ireturn, 1) := by decide +kernel
theorem dX5_shared_18 : decode cX5_shared 18 = .ok (.aload_n 0, 1) := by decide +kernel
theorem dX5_shared_19 : decode cX5_shared 19 = .ok (.getfield 12, 3) := by decide +kernel
theorem dX5_shared_22 : decode cX5_shared 22 = .ok (.iload_n 1, 1) := by decide +kernel
theorem dX5_shared_23 : decode cX5_shared 23 = .ok (.invokevirtual 145, 3) := by decide +kernel
theorem dX5_shared_26 : decode cX5_shared 26 = .ok (.ireturn, 1) := by decide +kernel
theorem dX5_stepped_0 : decode cX5_stepped 0 = .ok (.iload_n 1, 1) := by decide +kernel
theorem dX5_stepped_1 : decode cX5_stepped 1 = .ok (.invokestatic 111, 3) := by decide +kernel
theorem dX5_stepped_4 : decode cX5_stepped 4 = .ok (.ifCond .ne 11, 3) := by decide +kernel
theorem dX5_stepped_7 : decode cX5_stepped 7 = .ok (.aload_n 0, 1) := by decide +kernel
theorem dX5_stepped_8 : decode cX5_stepped 8 = .ok (.bipush (-2), 2) := by decide +kernel
theorem dX5_stepped_10 : decode cX5_stepped 10 = .ok (.invokevirtual 89, 3) := by decide +kernel
theorem dX5_stepped_13 : decode cX5_stepped 13 = .ok (.i2l, 1) := by decide +kernel
theorem dX5_stepped_14 : decode cX5_stepped 14 = .ok (.lreturn, 1) := by decide +kernel
theorem dX5_stepped_15 : decode cX5_stepped 15 = .ok (.aload_n 0, 1) := by decide +kernel
theorem dX5_stepped_16 : decode cX5_stepped 16 = .ok (.iload_n 1, 1) := by decide +kernel
theorem dX5_stepped_17 : decode cX5_stepped 17 = .ok (.invokevirtual 148, 3) := by decide +kernel
theorem dX5_stepped_20 : decode cX5_stepped 20 = .ok (.lreturn, 1) := by decide +kernel
theorem dX5_type_0 : decode cX5_type 0 = .ok (.iload_n 1, 1) := by decide +kernel
theorem dX5_type_1 : decode cX5_type 1 = .ok (.iconst 0, 1) := by decide +kernel
theorem dX5_type_2 : decode cX5_type 2 = .ok (.bipush 127, 2) := by decide +kernel
theorem dX5_type_4 : decode cX5_type 4 = .ok (.invokestatic 85, 3) := by decide +kernel
theorem dX5_type_7 : decode cX5_type 7 = .ok (.ifCond .ne 10, 3) := by decide +kernel
theorem dX5_type_10 : decode cX5_type 10 = .ok (.aload_n 0, 1) := by decide +kernel
theorem dX5_type_11 : decode cX5_type 11 = .ok (.bipush (-2), 2) := by decide +kernel
theorem dX5_type_13 : decode cX5_type 13 = .ok (.invokevirtual 89, 3) := by decide +kernel
theorem dX5_type_16 : decode cX5_type 16 = .ok (.ireturn, 1) := by decide +kernel
theorem dX5_type_17 : decode cX5_type 17 = .ok (.aload_n 0, 1) := by decide +kernel
theorem dX5_type_18 : decode cX5_type 18 = .ok (.getfield 33, 3) := by decide +kernel
theorem dX5_type_21 : decode cX5_type 21 = .ok (.getfield 152, 3) := by decide +kernel
theorem dX5_type_24 : decode cX5_type 24 = .ok (.bipush 120, 2) := by decide +kernel
theorem dX5_type_26 : decode cX5_type 26 = .ok (.if_icmp .lt 10, 3) := by decide +kernel
theorem dX5_type_29 : decode cX5_type 29 = .ok (.aload_n 0, 1) := by decide +kernel
theorem dX5_type_30 : decode cX5_type 30 = .ok (.bipush (-4), 2) := by decide +kernel
theorem dX5_type_32 : decode cX5_type 32 = .ok (.invokevirtual 89, 3) := by decide +kernel
theorem dX5_type_35 : decode cX5_type 35 = .ok (.ireturn, 1) := by decide +kernel
theorem dX5_type_36 : decode cX5_type 36 = .ok (.aload_n 0, 1) := by decide +kernel
theorem dX5_type_37 : decode cX5_type 37 = .ok (.getfield 33, 3) := by decide +kernel
theorem dX5_type_40 : decode cX5_type 40 = .ok (.iload_n 1, 1) := by decide +kernel
theorem dX5_type_41 : decode cX5_type 41 = .ok (.invokevirtual 155, 3) := by decide +kernel
theorem dX5_type_44 : decode cX5_type 44 = .ok (.ireturn, 1) := by decide +kernel
theorem dX5_clear_0 : decode cX5_clear 0 = .ok (.aload_n 0, 1) := by decide +kernel
theorem dX5_clear_1 : decode cX5_clear 1 = .ok (.getfield 33, 3) := by decide +kernel
theorem dX5_clear_4 : decode cX5_clear 4 = .ok (.getfield 152, 3) := by decide +kernel
theorem dX5_clear_7 : decode cX5_clear 7 = .ok (.istore_n 1, 1) := by decide +kernel
theorem dX5_clear_8 : decode cX5_clear 8 = .ok (.aload_n 0, 1) := by decide +kernel
theorem dX5_clear_9 : decode cX5_clear 9 = .ok (.getfield 33, 3) := by decide +kernel
theorem dX5_clear_12 : decode cX5_clear 12 = .ok (.iconst 0, 1) := by decide +kernel
theorem dX5_clear_13 : decode cX5_clear 13 = .ok (.putfield 152, 3) := by decide +kernel
theorem dX5_clear_16 : decode cX5_clear 16 = .ok (.iload_n 1, 1) := by decide +kernel
theorem dX5_clear_17 : decode cX5_clear 17 = .ok (.ireturn, 1) := by decide +kernel
theorem dX5_does_0 : decode cX5_does 0 = .ok (.aload_n 0, 1) := by decide +kernel
theorem dX5_does_1 : decode cX5_does 1 = .ok (.getfield 33, 3) := by decide +kernel
theorem dX5_does_4 : decode cX5_does 4 = .ok (.invokevirtual 158, 3) := by decide +kernel
theorem dX5_does_7 : decode cX5_does 7 = .ok (.istore_n 1, 1) := by decide +kernel
theorem dX5_does_8 : decode cX5_does 8 = .ok (.iload_n 1, 1) := by decide +kernel
theorem dX5_does_9 : decode cX5_does 9 = .ok (.iconst (-1), 1) := by decide +kernel
theorem dX5_does_10 : decode cX5_does 10 = .ok (.if_icmp .eq 8, 3) := by decide +kernel
theorem dX5_does_13 : decode cX5_does 13 = .ok (.bipush (-10), 2) := by decide +kernel
theorem dX5_does_15 : decode cX5_does 15 = .ok (.iload_n 1, 1) := by decide +kernel
theorem dX5_does_16 : decode cX5_does 16 = .ok (.isub, 1) := by decide +kernel
theorem dX5_does_17 : decode cX5_does 17 = .ok (.ireturn, 1) := by decide +kernel
theorem dX5_does_18 : decode cX5_does 18 = .ok (.aload_n 0, 1) := by decide +kernel
theorem dX5_does_19 : decode cX5_does 19 = .ok (.getfield 26, 3) := by decide +kernel
theorem dX5_does_22 : decode cX5_does 22 = .ok (.aload_n 0, 1) := by decide +kernel
theorem dX5_does_23 : decode cX5_does 23 = .ok (.getfield 12, 3) := by decide +kernel
theorem dX5_does_26 : decode cX5_does 26 = .ok (.invokevirtual 44, 3) := by decide +kernel
theorem dX5_does_29 : decode cX5_does 29 = .ok (.iconst 0, 1) := by decide +kernel
theorem dX5_does_30 : decode cX5_does 30 = .ok (.istore_n 2, 1) := by decide +kernel
theorem dX5_does_31 : decode cX5_does 31 = .ok (.iload_n 2, 1) := by decide +kernel
theorem dX5_does_32 : decode cX5_does 32 = .ok (.aload_n 0, 1) := by decide +kernel
theorem dX5_does_33 : decode cX5_does 33 = .ok (.getfield 33, 3) := by decide +kernel
theorem dX5_does_36 : decode cX5_does 36 = .ok (.getfield 161, 3) := by decide +kernel
theorem dX5_does_39 : decode cX5_does 39 = .ok (.if_icmp .ge 72, 3) := by decide +kernel
theorem dX5_does_42 : decode cX5_does 42 = .ok (.aload_n 0, 1) := by decide +kernel
theorem dX5_does_43 : decode cX5_does 43 = .ok (.aload_n 0, 1) := by decide +kernel
theorem dX5_does_44 : decode cX5_does 44 = .ok (.getfield 33, 3) := by decide +kernel
theorem dX5_does_47 : decode cX5_does 47 = .ok (.getfield 164, 3) := by decide +kernel
theorem dX5_does_50 : decode cX5_does 50 = .ok (.iload_n 2, 1) := by decide +kernel
theorem dX5_does_51 : decode cX5_does 51 = .ok (.iaload, 1) := by decide +kernel
theorem dX5_does_52 : decode cX5_does 52 = .ok (.aload_n 0, 1) := by decide +kernel
theorem dX5_does_53 : decode cX5_does 53 = .ok (.getfield 33, 3) := by decide +kernel
theorem dX5_does_56 : decode cX5_does 56 = .ok (.getfield 167, 3) := by decide +kernel
theorem dX5_does_59 : decode cX5_does 59 = .ok (.iload_n 2, 1) := by decide +kernel
theorem dX5_does_60 : decode cX5_does 60 = .ok (.iaload, 1) := by decide +kernel
theorem dX5_does_61 : decode cX5_does 61 = .ok (.aload_n 0, 1) := by decide +kernel
theorem dX5_does_62 : decode cX5_does 62 = .ok (.getfield 33, 3) := by decide +kernel
theorem dX5_does_65 : decode cX5_does 65 = .ok (.getfield 170, 3) := by decide +kernel
theorem dX5_does_68 : decode cX5_does 68 = .ok (.iload_n 2, 1) := by decide +kernel
theorem dX5_does_69 : decode cX5_does 69 = .ok (.iaload, 1) := by decide +kernel
theorem dX5_does_70 : decode cX5_does 70 = .ok (.invokevirtual 173, 3) := by decide +kernel
theorem dX5_does_73 : decode cX5_does 73 = .ok (.invokestatic 177, 3) := by decide +kernel
theorem dX5_does_76 : decode cX5_does 76 = .ok (.istore_n 3, 1) := by decide +kernel
theorem dX5_does_77 : decode cX5_does 77 = .ok (.aload_n 0, 1) := by decide +kernel
theorem dX5_does_78 : decode cX5_does 78 = .ok (.getfield 19, 3) := by decide +kernel
theorem dX5_does_81 : decode cX5_does 81 = .ok (.invokevirtual 180, 3) := by decide +kernel
theorem dX5_does_84 : decode cX5_does 84 = .ok (.iload_n 3, 1) := by decide +kernel
theorem dX5_does_85 : decode cX5_does 85 = .ok (.ifCond .eq 20, 3) := by decide +kernel
theorem dX5_does_88 : decode cX5_does 88 = .ok (.aload_n 0, 1) := by decide +kernel
theorem dX5_does_89 : decode cX5_does 89 = .ok (.getfield 26, 3) := by decide +kernel
theorem dX5_does_92 : decode cX5_does 92 = .ok (.aload_n 0, 1) := by decide +kernel
theorem dX5_does_93 : decode cX5_does 93 = .ok (.getfield 12, 3) := by decide +kernel
theorem dX5_does_96 : decode cX5_does 96 = .ok (.invokevirtual 183, 3) := by decide +kernel
theorem dX5_does_99 : decode cX5_does 99 = .ok (.sipush (-1000), 3) := by decide +kernel
theorem dX5_does_102 : decode cX5_does 102 = .ok (.iload_n 2, 1) := by decide +kernel
theorem dX5_does_103 : decode cX5_does 103 = .ok (.isub, 1) := by decide +kernel
theorem dX5_does_104 : decode cX5_does 104 = .ok (.ireturn, 1) := by decide +kernel
theorem dX5_does_105 : decode cX5_does 105 = .ok (.iinc 2 1, 3) := by decide +kernel
theorem dX5_does_108 : decode cX5_does 108 = .ok (.goto (-77), 3) := by decide +kernel
theorem dX5_does_111 : decode cX5_does 111 = .ok (.aload_n 0, 1) := by decide +kernel
theorem dX5_does_112 : decode cX5_does 112 = .ok (.getfield 26, 3) := by decide +kernel
theorem dX5_does_115 : decode cX5_does 115 = .ok (.invokevirtual 186, 3) := by decide +kernel
theorem dX5_does_118 : decode cX5_does 118 = .ok (.aload_n 0, 1) := by decide +kernel
theorem dX5_does_119 : decode cX5_does 119 = .ok (.getfield 33, 3) := by decide +kernel
theorem dX5_does_122 : decode cX5_does 122 = .ok (.getfield 161, 3) := by decide +kernel
theorem dX5_does_125 : decode cX5_does 125 = .ok (.ireturn, 1) := by decide +kernel
theorem dX5_back_0 : decode cX5_back 0 = .ok (.aload_n 0, 1) := by decide +kernel
theorem dX5_back_1 : decode cX5_back 1 = .ok (.getfield 26, 3) := by decide +kernel
theorem dX5_back_4 : decode cX5_back 4 = .ok (.getfield 189, 3) := by decide +kernel
theorem dX5_back_7 : decode cX5_back 7 = .ok (.ifCond .ne 10, 3) := by decide +kernel
theorem dX5_back_10 : decode cX5_back 10 = .ok (.aload_n 0, 1) := by decide +kernel
theorem dX5_back_11 : decode cX5_back 11 = .ok (.bipush (-3), 2) := by decide +kernel
theorem dX5_back_13 : decode cX5_back 13 = .ok (.invokevirtual 89, 3) := by decide +kernel
theorem dX5_back_16 : decode cX5_back 16 = .ok (.ireturn, 1) := by decide +kernel
theorem dX5_back_17 : decode cX5_back 17 = .ok (.aload_n 0, 1) := by decide +kernel
theorem dX5_back_18 : decode cX5_back 18 = .ok (.getfield 26, 3) := by decide +kernel
theorem dX5_back_21 : decode cX5_back 21 = .ok (.aload_n 0, 1) := by decide +kernel
theorem dX5_back_22 : decode cX5_back 22 = .ok (.getfield 12, 3) := by decide +kernel
theorem dX5_back_25 : decode cX5_back 25 = .ok (.invokevirtual 192, 3) := by decide +kernel
theorem dX5_back_28 : decode cX5_back 28 = .ok (.aload_n 0, 1) := by decide +kernel
theorem dX5_back_29 : decode cX5_back 29 = .ok (.getfield 19, 3) := by decide +kernel
theorem dX5_back_32 : decode cX5_back 32 = .ok (.invokevirtual 180, 3) := by decide +kernel
theorem dX5_back_35 : decode cX5_back 35 = .ok (.aload_n 0, 1) := by decide +kernel
theorem dX5_back_36 : decode cX5_back 36 = .ok (.getfield 26, 3) := by decide +kernel
theorem dX5_back_39 : decode cX5_back 39 = .ok (.getfield 189, 3) := by decide +kernel
theorem dX5_back_42 : decode cX5_back 42 = .ok (.ireturn, 1) := by decide +kernel
theorem dX5_told_0 : decode cX5_told 0 = .ok (.iload_n 1, 1) := by decide +kernel
theorem dX5_told_1 : decode cX5_told 1 = .ok (.iconst 0, 1) := by decide +kernel
theorem dX5_told_2 : decode cX5_told 2 = .ok (.iconst 4, 1) := by decide +kernel
theorem dX5_told_3 : decode cX5_told 3 = .ok (.invokestatic 85, 3) := by decide +kernel
theorem dX5_told_6 : decode cX5_told 6 = .ok (.ifCond .ne 10, 3) := by decide +kernel
theorem dX5_told_9 : decode cX5_told 9 = .ok (.aload_n 0, 1) := by decide +kernel
theorem dX5_told_10 : decode cX5_told 10 = .ok (.bipush (-2), 2) := by decide +kernel
theorem dX5_told_12 : decode cX5_told 12 = .ok (.invokevirtual 89, 3) := by decide +kernel
theorem dX5_told_15 : decode cX5_told 15 = .ok (.ireturn, 1) := by decide +kernel
theorem dX5_told_16 : decode cX5_told 16 = .ok (.iload_n 1, 1) := by decide +kernel
theorem dX5_told_17 : decode cX5_told 17 = .ok (.iconst 3, 1) := by decide +kernel
theorem dX5_told_18 : decode cX5_told 18 = .ok (.if_icmp .ne 11, 3) := by decide +kernel
theorem dX5_told_21 : decode cX5_told 21 = .ok (.aload_n 0, 1) := by decide +kernel
theorem dX5_told_22 : decode cX5_told 22 = .ok (.getfield 33, 3) := by decide +kernel
theorem dX5_told_25 : decode cX5_told 25 = .ok (.getfield 152, 3) := by decide +kernel
theorem dX5_told_28 : decode cX5_told 28 = .ok (.ireturn, 1) := by decide +kernel
theorem dX5_told_29 : decode cX5_told 29 = .ok (.iload_n 1, 1) := by decide +kernel
theorem dX5_told_30 : decode cX5_told 30 = .ok (.iconst 4, 1) := by decide +kernel
theorem dX5_told_31 : decode cX5_told 31 = .ok (.if_icmp .ne 13, 3) := by decide +kernel
theorem dX5_told_34 : decode cX5_told 34 = .ok (.aload_n 0, 1) := by decide +kernel
theorem dX5_told_35 : decode cX5_told 35 = .ok (.getfield 26, 3) := by decide +kernel
theorem dX5_told_38 : decode cX5_told 38 = .ok (.getfield 189, 3) := by decide +kernel
theorem dX5_told_41 : decode cX5_told 41 = .ok (.goto 9, 3) := by decide +kernel
theorem dX5_told_44 : decode cX5_told 44 = .ok (.aload_n 0, 1) := by decide +kernel
theorem dX5_told_45 : decode cX5_told 45 = .ok (.getfield 37, 3) := by decide +kernel
theorem dX5_told_48 : decode cX5_told 48 = .ok (.iload_n 1, 1) := by decide +kernel
theorem dX5_told_49 : decode cX5_told 49 = .ok (.iaload, 1) := by decide +kernel
theorem dX5_told_50 : decode cX5_told 50 = .ok (.ireturn, 1) := by decide +kernel
theorem dX5_digest_0 : decode cX5_digest 0 = .ok (.ldc2_w 195, 3) := by decide +kernel
theorem dX5_digest_3 : decode cX5_digest 3 = .ok (.lstore_n 1, 1) := by decide +kernel
theorem dX5_digest_4 : decode cX5_digest 4 = .ok (.iconst 0, 1) := by decide +kernel
theorem dX5_digest_5 : decode cX5_digest 5 = .ok (.istore_n 3, 1) := by decide +kernel
theorem dX5_digest_6 : decode cX5_digest 6 = .ok (.iload_n 3, 1) := by decide +kernel
theorem dX5_digest_7 : decode cX5_digest 7 = .ok (.iconst 4, 1) := by decide +kernel
theorem dX5_digest_8 : decode cX5_digest 8 = .ok (.if_icmp .gt 22, 3) := by decide +kernel
theorem dX5_digest_11 : decode cX5_digest 11 = .ok (.ldc2_w 197, 3) := by decide +kernel
theorem dX5_digest_14 : decode cX5_digest 14 = .ok (.lload_n 1, 1) := by decide +kernel
theorem dX5_digest_15 : decode cX5_digest 15 = .ok (.lmul, 1) := by decide +kernel
theorem dX5_digest_16 : decode cX5_digest 16 = .ok (.aload_n 0, 1) := by decide +kernel
theorem dX5_digest_17 : decode cX5_digest 17 = .ok (.iload_n 3, 1) := by decide +kernel
theorem dX5_digest_18 : decode cX5_digest 18 = .ok (.invokevirtual 199, 3) := by decide +kernel
theorem dX5_digest_21 : decode cX5_digest 21 = .ok (.i2l, 1) := by decide +kernel
theorem dX5_digest_22 : decode cX5_digest 22 = .ok (.ladd, 1) := by decide +kernel
theorem dX5_digest_23 : decode cX5_digest 23 = .ok (.lstore_n 1, 1) := by decide +kernel
theorem dX5_digest_24 : decode cX5_digest 24 = .ok (.iinc 3 1, 3) := by decide +kernel
theorem dX5_digest_27 : decode cX5_digest 27 = .ok (.goto (-21), 3) := by decide +kernel
theorem dX5_digest_30 : decode cX5_digest 30 = .ok (.iconst 0, 1) := by decide +kernel
theorem dX5_digest_31 : decode cX5_digest 31 = .ok (.istore_n 3, 1) := by decide +kernel
theorem dX5_digest_32 : decode cX5_digest 32 = .ok (.iload_n 3, 1) := by decide +kernel
theorem dX5_digest_33 : decode cX5_digest 33 = .ok (.iconst 5, 1) := by decide +kernel
theorem dX5_digest_34 : decode cX5_digest 34 = .ok (.if_icmp .gt 25, 3) := by decide +kernel
theorem dX5_digest_37 : decode cX5_digest 37 = .ok (.ldc2_w 197, 3) := by decide +kernel
theorem dX5_digest_40 : decode cX5_digest 40 = .ok (.lload_n 1, 1) := by decide +kernel
theorem dX5_digest_41 : decode cX5_digest 41 = .ok (.lmul, 1) := by decide +kernel
theorem dX5_digest_42 : decode cX5_digest 42 = .ok (.aload_n 0, 1) := by decide +kernel
theorem dX5_digest_43 : decode cX5_digest 43 = .ok (.getfield 12, 3) := by decide +kernel
theorem dX5_digest_46 : decode cX5_digest 46 = .ok (.iload_n 3, 1) := by decide +kernel
theorem dX5_digest_47 : decode cX5_digest 47 = .ok (.invokevirtual 101, 3) := by decide +kernel
theorem dX5_digest_50 : decode cX5_digest 50 = .ok (.i2l, 1) := by decide +kernel
theorem dX5_digest_51 : decode cX5_digest 51 = .ok (.ladd, 1) := by decide +kernel
theorem dX5_digest_52 : decode cX5_digest 52 = .ok (.lstore_n 1, 1) := by decide +kernel
theorem dX5_digest_53 : decode cX5_digest 53 = .ok (.iinc 3 1, 3) := by decide +kernel
theorem dX5_digest_56 : decode cX5_digest 56 = .ok (.goto (-24), 3) := by decide +kernel
theorem dX5_digest_59 : decode cX5_digest 59 = .ok (.aload_n 0, 1) := by decide +kernel
theorem dX5_digest_60 : decode cX5_digest 60 = .ok (.lload_n 1, 1) := by decide +kernel
theorem dX5_digest_61 : decode cX5_digest 61 = .ok (.invokevirtual 202, 3) := by decide +kernel
theorem dX5_digest_64 : decode cX5_digest 64 = .ok (.lstore_n 1, 1) := by decide +kernel
theorem dX5_digest_65 : decode cX5_digest 65 = .ok (.aload_n 0, 1) := by decide +kernel
theorem dX5_digest_66 : decode cX5_digest 66 = .ok (.lload_n 1, 1) := by decide +kernel
theorem dX5_digest_67 : decode cX5_digest 67 = .ok (.invokevirtual 206, 3) := by decide +kernel
theorem dX5_digest_70 : decode cX5_digest 70 = .ok (.lstore_n 1, 1) := by decide +kernel
theorem dX5_digest_71 : decode cX5_digest 71 = .ok (.iconst 0, 1) := by decide +kernel
theorem dX5_digest_72 : decode cX5_digest 72 = .ok (.istore_n 3, 1) := by decide +kernel
theorem dX5_digest_73 : decode cX5_digest 73 = .ok (.iload_n 3, 1) := by decide +kernel
theorem dX5_digest_74 : decode cX5_digest 74 = .ok (.iconst 2, 1) := by decide +kernel
theorem dX5_digest_75 : decode cX5_digest 75 = .ok (.if_icmp .ge 21, 3) := by decide +kernel
theorem dX5_digest_78 : decode cX5_digest 78 = .ok (.ldc2_w 197, 3) := by decide +kernel
theorem dX5_digest_81 : decode cX5_digest 81 = .ok (.lload_n 1, 1) := by decide +kernel
theorem dX5_digest_82 : decode cX5_digest 82 = .ok (.lmul, 1) := by decide +kernel
theorem dX5_digest_83 : decode cX5_digest 83 = .ok (.aload_n 0, 1) := by decide +kernel
theorem dX5_digest_84 : decode cX5_digest 84 = .ok (.iload_n 3, 1) := by decide +kernel
theorem dX5_digest_85 : decode cX5_digest 85 = .ok (.invokevirtual 148, 3) := by decide +kernel
theorem dX5_digest_88 : decode cX5_digest 88 = .ok (.ladd, 1) := by decide +kernel
theorem dX5_digest_89 : decode cX5_digest 89 = .ok (.lstore_n 1, 1) := by decide +kernel
theorem dX5_digest_90 : decode cX5_digest 90 = .ok (.iinc 3 1, 3) := by decide +kernel
theorem dX5_digest_93 : decode cX5_digest 93 = .ok (.goto (-20), 3) := by decide +kernel
theorem dX5_digest_96 : decode cX5_digest 96 = .ok (.lload_n 1, 1) := by decide +kernel
theorem dX5_digest_97 : decode cX5_digest 97 = .ok (.lreturn, 1) := by decide +kernel
theorem dX5_digestsFigures_0 : decode cX5_digestsFigures 0 = .ok (.lload_n 1, 1) := by decide +kernel
theorem dX5_digestsFigures_1 : decode cX5_digestsFigures 1 = .ok (.lstore_n 3, 1) := by decide +kernel
theorem dX5_digestsFigures_2 : decode cX5_digestsFigures 2 = .ok (.iconst 0, 1) := by decide +kernel
theorem dX5_digestsFigures_3 : decode cX5_digestsFigures 3 = .ok (.istore 5, 2) := by decide +kernel
theorem dX5_digestsFigures_5 : decode cX5_digestsFigures 5 = .ok (.iload 5, 2) := by decide +kernel
theorem dX5_digestsFigures_7 : decode cX5_digestsFigures 7 = .ok (.aload_n 0, 1) := by decide +kernel
theorem dX5_digestsFigures_8 : decode cX5_digestsFigures 8 = .ok (.getfield 12, 3) := by decide +kernel
theorem dX5_digestsFigures_11 : decode cX5_digestsFigures 11 = .ok (.getfield 124, 3) := by decide +kernel
theorem dX5_digestsFigures_14 : decode cX5_digestsFigures 14 = .ok (.if_icmp .ge 60, 3) := by decide +kernel
theorem dX5_digestsFigures_17 : decode cX5_digestsFigures 17 = .ok (.iconst 0, 1) := by decide +kernel
theorem dX5_digestsFigures_18 : decode cX5_digestsFigures 18 = .ok (.istore 6, 2) := by decide +kernel
theorem dX5_digestsFigures_20 : decode cX5_digestsFigures 20 = .ok (.iload 6, 2) := by decide +kernel
theorem dX5_digestsFigures_22 : decode cX5_digestsFigures 22 = .ok (.iconst 3, 1) := by decide +kernel
theorem dX5_digestsFigures_23 : decode cX5_digestsFigures 23 = .ok (.if_icmp .gt 28, 3) := by decide +kernel
theorem dX5_digestsFigures_26 : decode cX5_digestsFigures 26 = .ok (.ldc2_w 197, 3) := by decide +kernel
theorem dX5_digestsFigures_29 : decode cX5_digestsFigures 29 = .ok (.lload_n 3, 1) := by decide +kernel
theorem dX5_digestsFigures_30 : decode cX5_digestsFigures 30 = .ok (.lmul, 1) := by decide +kernel
theorem dX5_digestsFigures_31 : decode cX5_digestsFigures 31 = .ok (.aload_n 0, 1) := by decide +kernel
theorem dX5_digestsFigures_32 : decode cX5_digestsFigures 32 = .ok (.getfield 12, 3) := by decide +kernel
theorem dX5_digestsFigures_35 : decode cX5_digestsFigures 35 = .ok (.iload 5, 2) := by decide +kernel
theorem dX5_digestsFigures_37 : decode cX5_digestsFigures 37 = .ok (.iload 6, 2) := by decide +kernel
theorem dX5_digestsFigures_39 : decode cX5_digestsFigures 39 = .ok (.invokevirtual 92, 3) := by decide +kernel
theorem dX5_digestsFigures_42 : decode cX5_digestsFigures 42 = .ok (.i2l, 1) := by decide +kernel
theorem dX5_digestsFigures_43 : decode cX5_digestsFigures 43 = .ok (.ladd, 1) := by decide +kernel
theorem dX5_digestsFigures_44 : decode cX5_digestsFigures 44 = .ok (.lstore_n 3, 1) := by decide +kernel
theorem dX5_digestsFigures_45 : decode cX5_digestsFigures 45 = .ok (.iinc 6 1, 3) := by decide +kernel
theorem dX5_digestsFigures_48 : decode cX5_digestsFigures 48 = .ok (.goto (-28), 3) := by decide +kernel
theorem dX5_digestsFigures_51 : decode cX5_digestsFigures 51 = .ok (.ldc2_w 197, 3) := by decide +kernel
theorem dX5_digestsFigures_54 : decode cX5_digestsFigures 54 = .ok (.lload_n 3, 1) := by decide +kernel
theorem dX5_digestsFigures_55 : decode cX5_digestsFigures 55 = .ok (.lmul, 1) := by decide +kernel
theorem dX5_digestsFigures_56 : decode cX5_digestsFigures 56 = .ok (.aload_n 0, 1) := by decide +kernel
theorem dX5_digestsFigures_57 : decode cX5_digestsFigures 57 = .ok (.getfield 12, 3) := by decide +kernel
theorem dX5_digestsFigures_60 : decode cX5_digestsFigures 60 = .ok (.iload 5, 2) := by decide +kernel
theorem dX5_digestsFigures_62 : decode cX5_digestsFigures 62 = .ok (.invokevirtual 145, 3) := by decide +kernel
theorem dX5_digestsFigures_65 : decode cX5_digestsFigures 65 = .ok (.i2l, 1) := by decide +kernel
theorem dX5_digestsFigures_66 : decode cX5_digestsFigures 66 = .ok (.ladd, 1) := by decide +kernel
theorem dX5_digestsFigures_67 : decode cX5_digestsFigures 67 = .ok (.lstore_n 3, 1) := by decide +kernel
theorem dX5_digestsFigures_68 : decode cX5_digestsFigures 68 = .ok (.iinc 5 1, 3) := by decide +kernel
theorem dX5_digestsFigures_71 : decode cX5_digestsFigures 71 = .ok (.goto (-66), 3) := by decide +kernel
theorem dX5_digestsFigures_74 : decode cX5_digestsFigures 74 = .ok (.iconst 0, 1) := by decide +kernel
theorem dX5_digestsFigures_75 : decode cX5_digestsFigures 75 = .ok (.istore 5, 2) := by decide +kernel
theorem dX5_digestsFigures_77 : decode cX5_digestsFigures 77 = .ok (.iload 5, 2) := by decide +kernel
theorem dX5_digestsFigures_79 : decode cX5_digestsFigures 79 = .ok (.iconst 3, 1) := by decide +kernel
theorem dX5_digestsFigures_80 : decode cX5_digestsFigures 80 = .ok (.if_icmp .ge 43, 3) := by decide +kernel
theorem dX5_digestsFigures_83 : decode cX5_digestsFigures 83 = .ok (.iconst 0, 1) := by decide +kernel
theorem dX5_digestsFigures_84 : decode cX5_digestsFigures 84 = .ok (.istore 6, 2) := by decide +kernel
theorem dX5_digestsFigures_86 : decode cX5_digestsFigures 86 = .ok (.iload 6, 2) := by decide +kernel
theorem dX5_digestsFigures_88 : decode cX5_digestsFigures 88 = .ok (.iconst 2, 1) := by decide +kernel
theorem dX5_digestsFigures_89 : decode cX5_digestsFigures 89 = .ok (.if_icmp .gt 28, 3) := by decide +kernel
theorem dX5_digestsFigures_92 : decode cX5_digestsFigures 92 = .ok (.ldc2_w 197, 3) := by decide +kernel
theorem dX5_digestsFigures_95 : decode cX5_digestsFigures 95 = .ok (.lload_n 3, 1) := by decide +kernel
theorem dX5_digestsFigures_96 : decode cX5_digestsFigures 96 = .ok (.lmul, 1) := by decide +kernel
theorem dX5_digestsFigures_97 : decode cX5_digestsFigures 97 = .ok (.aload_n 0, 1) := by decide +kernel
theorem dX5_digestsFigures_98 : decode cX5_digestsFigures 98 = .ok (.getfield 12, 3) := by decide +kernel
theorem dX5_digestsFigures_101 : decode cX5_digestsFigures 101 = .ok (.iload 5, 2) := by decide +kernel
theorem dX5_digestsFigures_103 : decode cX5_digestsFigures 103 = .ok (.iload 6, 2) := by decide +kernel
theorem dX5_digestsFigures_105 : decode cX5_digestsFigures 105 = .ok (.invokevirtual 98, 3) := by decide +kernel
theorem dX5_digestsFigures_108 : decode cX5_digestsFigures 108 = .ok (.i2l, 1) := by decide +kernel
theorem dX5_digestsFigures_109 : decode cX5_digestsFigures 109 = .ok (.ladd, 1) := by decide +kernel
theorem dX5_digestsFigures_110 : decode cX5_digestsFigures 110 = .ok (.lstore_n 3, 1) := by decide +kernel
theorem dX5_digestsFigures_111 : decode cX5_digestsFigures 111 = .ok (.iinc 6 1, 3) := by decide +kernel
theorem dX5_digestsFigures_114 : decode cX5_digestsFigures 114 = .ok (.goto (-28), 3) := by decide +kernel
theorem dX5_digestsFigures_117 : decode cX5_digestsFigures 117 = .ok (.iinc 5 1, 3) := by decide +kernel
theorem dX5_digestsFigures_120 : decode cX5_digestsFigures 120 = .ok (.goto (-43), 3) := by decide +kernel
theorem dX5_digestsFigures_123 : decode cX5_digestsFigures 123 = .ok (.lload_n 3, 1) := by decide +kernel
theorem dX5_digestsFigures_124 : decode cX5_digestsFigures 124 = .ok (.lreturn, 1) := by decide +kernel
theorem dX5_digestsBent_0 : decode cX5_digestsBent 0 = .ok (.aload_n 0, 1) := by decide +kernel
theorem dX5_digestsBent_1 : decode cX5_digestsBent 1 = .ok (.getfield 19, 3) := by decide +kernel
theorem dX5_digestsBent_4 : decode cX5_digestsBent 4 = .ok (.aload_n 0, 1) := by decide +kernel
theorem dX5_digestsBent_5 : decode cX5_digestsBent 5 = .ok (.getfield 12, 3) := by decide +kernel
theorem dX5_digestsBent_8 : decode cX5_digestsBent 8 = .ok (.invokevirtual 104, 3) := by decide +kernel
theorem dX5_digestsBent_11 : decode cX5_digestsBent 11 = .ok (.ifCond .ne 9, 3) := by decide +kernel
theorem dX5_digestsBent_14 : decode cX5_digestsBent 14 = .ok (.ldc2_w 197, 3) := by decide +kernel
theorem dX5_digestsBent_17 : decode cX5_digestsBent 17 = .ok (.lload_n 1, 1) := by decide +kernel
theorem dX5_digestsBent_18 : decode cX5_digestsBent 18 = .ok (.lmul, 1) := by decide +kernel
theorem dX5_digestsBent_19 : decode cX5_digestsBent 19 = .ok (.lreturn, 1) := by decide +kernel
theorem dX5_digestsBent_20 : decode cX5_digestsBent 20 = .ok (.ldc2_w 197, 3) := by decide +kernel
theorem dX5_digestsBent_23 : decode cX5_digestsBent 23 = .ok (.lload_n 1, 1) := by decide +kernel
theorem dX5_digestsBent_24 : decode cX5_digestsBent 24 = .ok (.lmul, 1) := by decide +kernel
theorem dX5_digestsBent_25 : decode cX5_digestsBent 25 = .ok (.lconst 1, 1) := by decide +kernel
theorem dX5_digestsBent_26 : decode cX5_digestsBent 26 = .ok (.ladd, 1) := by decide +kernel
theorem dX5_digestsBent_27 : decode cX5_digestsBent 27 = .ok (.lstore_n 3, 1) := by decide +kernel
theorem dX5_digestsBent_28 : decode cX5_digestsBent 28 = .ok (.iconst 0, 1) := by decide +kernel
theorem dX5_digestsBent_29 : decode cX5_digestsBent 29 = .ok (.istore 5, 2) := by decide +kernel
theorem dX5_digestsBent_31 : decode cX5_digestsBent 31 = .ok (.iload 5, 2) := by decide +kernel
theorem dX5_digestsBent_33 : decode cX5_digestsBent 33 = .ok (.aload_n 0, 1) := by decide +kernel
theorem dX5_digestsBent_34 : decode cX5_digestsBent 34 = .ok (.getfield 12, 3) := by decide +kernel
theorem dX5_digestsBent_37 : decode cX5_digestsBent 37 = .ok (.getfield 124, 3) := by decide +kernel
theorem dX5_digestsBent_40 : decode cX5_digestsBent 40 = .ok (.if_icmp .ge 31, 3) := by decide +kernel
theorem dX5_digestsBent_43 : decode cX5_digestsBent 43 = .ok (.ldc2_w 197, 3) := by decide +kernel
theorem dX5_digestsBent_46 : decode cX5_digestsBent 46 = .ok (.lload_n 3, 1) := by decide +kernel
theorem dX5_digestsBent_47 : decode cX5_digestsBent 47 = .ok (.lmul, 1) := by decide +kernel
theorem dX5_digestsBent_48 : decode cX5_digestsBent 48 = .ok (.aload_n 0, 1) := by decide +kernel
theorem dX5_digestsBent_49 : decode cX5_digestsBent 49 = .ok (.getfield 19, 3) := by decide +kernel
theorem dX5_digestsBent_52 : decode cX5_digestsBent 52 = .ok (.getfield 108, 3) := by decide +kernel
theorem dX5_digestsBent_55 : decode cX5_digestsBent 55 = .ok (.iload 5, 2) := by decide +kernel
theorem dX5_digestsBent_57 : decode cX5_digestsBent 57 = .ok (.iaload, 1) := by decide +kernel
theorem dX5_digestsBent_58 : decode cX5_digestsBent 58 = .ok (.i2l, 1) := by decide +kernel
theorem dX5_digestsBent_59 : decode cX5_digestsBent 59 = .ok (.ladd, 1) := by decide +kernel
theorem dX5_digestsBent_60 : decode cX5_digestsBent 60 = .ok (.ldc2_w 209, 3) := by decide +kernel
theorem dX5_digestsBent_63 : decode cX5_digestsBent 63 = .ok (.ladd, 1) := by decide +kernel
theorem dX5_digestsBent_64 : decode cX5_digestsBent 64 = .ok (.lstore_n 3, 1) := by decide +kernel
theorem dX5_digestsBent_65 : decode cX5_digestsBent 65 = .ok (.iinc 5 1, 3) := by decide +kernel
theorem dX5_digestsBent_68 : decode cX5_digestsBent 68 = .ok (.goto (-37), 3) := by decide +kernel
theorem dX5_digestsBent_71 : decode cX5_digestsBent 71 = .ok (.iconst 0, 1) := by decide +kernel
theorem dX5_digestsBent_72 : decode cX5_digestsBent 72 = .ok (.istore 5, 2) := by decide +kernel
theorem dX5_digestsBent_74 : decode cX5_digestsBent 74 = .ok (.iload 5, 2) := by decide +kernel
theorem dX5_digestsBent_76 : decode cX5_digestsBent 76 = .ok (.iconst 2, 1) := by decide +kernel
theorem dX5_digestsBent_77 : decode cX5_digestsBent 77 = .ok (.if_icmp .ge 32, 3) := by decide +kernel
theorem dX5_digestsBent_80 : decode cX5_digestsBent 80 = .ok (.ldc2_w 197, 3) := by decide +kernel
theorem dX5_digestsBent_83 : decode cX5_digestsBent 83 = .ok (.lload_n 3, 1) := by decide +kernel
theorem dX5_digestsBent_84 : decode cX5_digestsBent 84 = .ok (.lmul, 1) := by decide +kernel
theorem dX5_digestsBent_85 : decode cX5_digestsBent 85 = .ok (.aload_n 0, 1) := by decide +kernel
theorem dX5_digestsBent_86 : decode cX5_digestsBent 86 = .ok (.getfield 12, 3) := by decide +kernel
theorem dX5_digestsBent_89 : decode cX5_digestsBent 89 = .ok (.aload_n 0, 1) := by decide +kernel
theorem dX5_digestsBent_90 : decode cX5_digestsBent 90 = .ok (.getfield 19, 3) := by decide +kernel
theorem dX5_digestsBent_93 : decode cX5_digestsBent 93 = .ok (.getfield 108, 3) := by decide +kernel
theorem dX5_digestsBent_96 : decode cX5_digestsBent 96 = .ok (.iload 5, 2) := by decide +kernel
theorem dX5_digestsBent_98 : decode cX5_digestsBent 98 = .ok (.invokevirtual 114, 3) := by decide +kernel
theorem dX5_digestsBent_101 : decode cX5_digestsBent 101 = .ok (.ladd, 1) := by decide +kernel
theorem dX5_digestsBent_102 : decode cX5_digestsBent 102 = .ok (.lstore_n 3, 1) := by decide +kernel
theorem dX5_digestsBent_103 : decode cX5_digestsBent 103 = .ok (.iinc 5 1, 3) := by decide +kernel
theorem dX5_digestsBent_106 : decode cX5_digestsBent 106 = .ok (.goto (-32), 3) := by decide +kernel
theorem dX5_digestsBent_109 : decode cX5_digestsBent 109 = .ok (.lload_n 3, 1) := by decide +kernel
theorem dX5_digestsBent_110 : decode cX5_digestsBent 110 = .ok (.lreturn, 1) := by decide +kernel
theorem dX5_prints_0 : decode cX5_prints 0 = .ok (.aload_n 0, 1) := by decide +kernel
theorem dX5_prints_1 : decode cX5_prints 1 = .ok (.getfield 19, 3) := by decide +kernel
theorem dX5_prints_4 : decode cX5_prints 4 = .ok (.aload_n 0, 1) := by decide +kernel
theorem dX5_prints_5 : decode cX5_prints 5 = .ok (.getfield 12, 3) := by decide +kernel
theorem dX5_prints_8 : decode cX5_prints 8 = .ok (.invokevirtual 104, 3) := by decide +kernel
theorem dX5_prints_11 : decode cX5_prints 11 = .ok (.ifCond .ne 6, 3) := by decide +kernel
theorem dX5_prints_14 : decode cX5_prints 14 = .ok (.bipush (-3), 2) := by decide +kernel
theorem dX5_prints_16 : decode cX5_prints 16 = .ok (.ireturn, 1) := by decide +kernel
theorem dX5_prints_17 : decode cX5_prints 17 = .ok (.iconst 0, 1) := by decide +kernel
theorem dX5_prints_18 : decode cX5_prints 18 = .ok (.istore_n 1, 1) := by decide +kernel
theorem dX5_prints_19 : decode cX5_prints 19 = .ok (.iload_n 1, 1) := by decide +kernel
theorem dX5_prints_20 : decode cX5_prints 20 = .ok (.aload_n 0, 1) := by decide +kernel
theorem dX5_prints_21 : decode cX5_prints 21 = .ok (.getfield 12, 3) := by decide +kernel
theorem dX5_prints_24 : decode cX5_prints 24 = .ok (.getfield 124, 3) := by decide +kernel
theorem dX5_prints_27 : decode cX5_prints 27 = .ok (.if_icmp .ge 30, 3) := by decide +kernel
theorem dX5_prints_30 : decode cX5_prints 30 = .ok (.aload_n 0, 1) := by decide +kernel
theorem dX5_prints_31 : decode cX5_prints 31 = .ok (.getfield 12, 3) := by decide +kernel
theorem dX5_prints_34 : decode cX5_prints 34 = .ok (.getfield 211, 3) := by decide +kernel
theorem dX5_prints_37 : decode cX5_prints 37 = .ok (.iload_n 1, 1) := by decide +kernel
theorem dX5_prints_38 : decode cX5_prints 38 = .ok (.aload_n 0, 1) := by decide +kernel
theorem dX5_prints_39 : decode cX5_prints 39 = .ok (.getfield 19, 3) := by decide +kernel
theorem dX5_prints_42 : decode cX5_prints 42 = .ok (.getfield 108, 3) := by decide +kernel
theorem dX5_prints_45 : decode cX5_prints 45 = .ok (.iload_n 1, 1) := by decide +kernel
theorem dX5_prints_46 : decode cX5_prints 46 = .ok (.iaload, 1) := by decide +kernel
theorem dX5_prints_47 : decode cX5_prints 47 = .ok (.bipush 8, 2) := by decide +kernel
theorem dX5_prints_49 : decode cX5_prints 49 = .ok (.iadd, 1) := by decide +kernel
theorem dX5_prints_50 : decode cX5_prints 50 = .ok (.iastore, 1) := by decide +kernel
theorem dX5_prints_51 : decode cX5_prints 51 = .ok (.iinc 1 1, 3) := by decide +kernel
theorem dX5_prints_54 : decode cX5_prints 54 = .ok (.goto (-35), 3) := by decide +kernel
theorem dX5_prints_57 : decode cX5_prints 57 = .ok (.aload_n 0, 1) := by decide +kernel
theorem dX5_prints_58 : decode cX5_prints 58 = .ok (.getfield 12, 3) := by decide +kernel
theorem dX5_prints_61 : decode cX5_prints 61 = .ok (.getfield 124, 3) := by decide +kernel
theorem dX5_prints_64 : decode cX5_prints 64 = .ok (.ireturn, 1) := by decide +kernel
theorem dX5_revision_0 : decode cX5_revision 0 = .ok (.aload_n 0, 1) := by decide +kernel
theorem dX5_revision_1 : decode cX5_revision 1 = .ok (.getfield 19, 3) := by decide +kernel
theorem dX5_revision_4 : decode cX5_revision 4 = .ok (.getfield 108, 3) := by decide +kernel
theorem dX5_revision_7 : decode cX5_revision 7 = .ok (.iload_n 1, 1) := by decide +kernel
theorem dX5_revision_8 : decode cX5_revision 8 = .ok (.iaload, 1) := by decide +kernel
theorem dX5_revision_9 : decode cX5_revision 9 = .ok (.bipush 8, 2) := by decide +kernel
theorem dX5_revision_11 : decode cX5_revision 11 = .ok (.iadd, 1) := by decide +kernel
theorem dX5_revision_12 : decode cX5_revision 12 = .ok (.aload_n 0, 1) := by decide +kernel
theorem dX5_revision_13 : decode cX5_revision 13 = .ok (.getfield 12, 3) := by decide +kernel
theorem dX5_revision_16 : decode cX5_revision 16 = .ok (.getfield 211, 3) := by decide +kernel
theorem dX5_revision_19 : decode cX5_revision 19 = .ok (.iload_n 1, 1) := by decide +kernel
theorem dX5_revision_20 : decode cX5_revision 20 = .ok (.iaload, 1) := by decide +kernel
theorem dX5_revision_21 : decode cX5_revision 21 = .ok (.isub, 1) := by decide +kernel
theorem dX5_revision_22 : decode cX5_revision 22 = .ok (.invokestatic 214, 3) := by decide +kernel
theorem dX5_revision_25 : decode cX5_revision 25 = .ok (.ireturn, 1) := by decide +kernel
theorem dX5_shareMovement_0 : decode cX5_shareMovement 0 = .ok (.iconst 0, 1) := by decide +kernel
theorem dX5_shareMovement_1 : decode cX5_shareMovement 1 = .ok (.istore_n 2, 1) := by decide +kernel
theorem dX5_shareMovement_2 : decode cX5_shareMovement 2 = .ok (.iload_n 2, 1) := by decide +kernel
theorem dX5_shareMovement_3 : decode cX5_shareMovement 3 = .ok (.aload_n 0, 1) := by decide +kernel
theorem dX5_shareMovement_4 : decode cX5_shareMovement 4 = .ok (.getfield 12, 3) := by decide +kernel
theorem dX5_shareMovement_7 : decode cX5_shareMovement 7 = .ok (.getfield 124, 3) := by decide +kernel
theorem dX5_shareMovement_10 : decode cX5_shareMovement 10 = .ok (.if_icmp .ge 23, 3) := by decide +kernel
theorem dX5_shareMovement_13 : decode cX5_shareMovement 13 = .ok (.aload_n 0, 1) := by decide +kernel
theorem dX5_shareMovement_14 : decode cX5_shareMovement 14 = .ok (.getfield 41, 3) := by decide +kernel
theorem dX5_shareMovement_17 : decode cX5_shareMovement 17 = .ok (.iload_n 2, 1) := by decide +kernel
theorem dX5_shareMovement_18 : decode cX5_shareMovement 18 = .ok (.aload_n 0, 1) := by decide +kernel
theorem dX5_shareMovement_19 : decode cX5_shareMovement 19 = .ok (.getfield 12, 3) := by decide +kernel
theorem dX5_shareMovement_22 : decode cX5_shareMovement 22 = .ok (.iload_n 2, 1) := by decide +kernel
theorem dX5_shareMovement_23 : decode cX5_shareMovement 23 = .ok (.invokevirtual 145, 3) := by decide +kernel
theorem dX5_shareMovement_26 : decode cX5_shareMovement 26 = .ok (.iastore, 1) := by decide +kernel
theorem dX5_shareMovement_27 : decode cX5_shareMovement 27 = .ok (.iinc 2 1, 3) := by decide +kernel
theorem dX5_shareMovement_30 : decode cX5_shareMovement 30 = .ok (.goto (-28), 3) := by decide +kernel
theorem dX5_shareMovement_33 : decode cX5_shareMovement 33 = .ok (.aload_n 0, 1) := by decide +kernel
theorem dX5_shareMovement_34 : decode cX5_shareMovement 34 = .ok (.getfield 12, 3) := by decide +kernel
theorem dX5_shareMovement_37 : decode cX5_shareMovement 37 = .ok (.aload_n 0, 1) := by decide +kernel
theorem dX5_shareMovement_38 : decode cX5_shareMovement 38 = .ok (.getfield 41, 3) := by decide +kernel
theorem dX5_shareMovement_41 : decode cX5_shareMovement 41 = .ok (.iload_n 1, 1) := by decide +kernel
theorem dX5_shareMovement_42 : decode cX5_shareMovement 42 = .ok (.invokevirtual 114, 3) := by decide +kernel
theorem dX5_shareMovement_45 : decode cX5_shareMovement 45 = .ok (.lreturn, 1) := by decide +kernel
theorem dX5_obeys_0 : decode cX5_obeys 0 = .ok (.iload_n 1, 1) := by decide +kernel
theorem dX5_obeys_1 : decode cX5_obeys 1 = .ok (.tableswitch 169 102 122 #[155, 169, 169, 169, 169, 169, 137, 169, 118, 146, 164, 99, 169, 169, 108, 169, 169, 169, 169, 169, 127], 99) := by decide +kernel
theorem dX5_obeys_100 : decode cX5_obeys 100 = .ok (.aload_n 0, 1) := by decide +kernel
theorem dX5_obeys_101 : decode cX5_obeys 101 = .ok (.getfield 12, 3) := by decide +kernel
theorem dX5_obeys_104 : decode cX5_obeys 104 = .ok (.iload_n 2, 1) := by decide +kernel
theorem dX5_obeys_105 : decode cX5_obeys 105 = .ok (.invokevirtual 48, 3) := by decide +kernel
theorem dX5_obeys_108 : decode cX5_obeys 108 = .ok (.ireturn, 1) := by decide +kernel
theorem dX5_obeys_109 : decode cX5_obeys 109 = .ok (.aload_n 0, 1) := by decide +kernel
theorem dX5_obeys_110 : decode cX5_obeys 110 = .ok (.getfield 12, 3) := by decide +kernel
theorem dX5_obeys_113 : decode cX5_obeys 113 = .ok (.iload_n 2, 1) := by decide +kernel
theorem dX5_obeys_114 : decode cX5_obeys 114 = .ok (.iload_n 3, 1) := by decide +kernel
theorem dX5_obeys_115 : decode cX5_obeys 115 = .ok (.invokevirtual 59, 3) := by decide +kernel
theorem dX5_obeys_118 : decode cX5_obeys 118 = .ok (.ireturn, 1) := by decide +kernel
theorem dX5_obeys_119 : decode cX5_obeys 119 = .ok (.aload_n 0, 1) := by decide +kernel
theorem dX5_obeys_120 : decode cX5_obeys 120 = .ok (.getfield 12, 3) := by decide +kernel
theorem dX5_obeys_123 : decode cX5_obeys 123 = .ok (.iload_n 2, 1) := by decide +kernel
theorem dX5_obeys_124 : decode cX5_obeys 124 = .ok (.invokevirtual 62, 3) := by decide +kernel
theorem dX5_obeys_127 : decode cX5_obeys 127 = .ok (.ireturn, 1) := by decide +kernel
theorem dX5_obeys_128 : decode cX5_obeys 128 = .ok (.aload_n 0, 1) := by decide +kernel
theorem dX5_obeys_129 : decode cX5_obeys 129 = .ok (.getfield 12, 3) := by decide +kernel
theorem dX5_obeys_132 : decode cX5_obeys 132 = .ok (.iload_n 2, 1) := by decide +kernel
theorem dX5_obeys_133 : decode cX5_obeys 133 = .ok (.iload_n 3, 1) := by decide +kernel
theorem dX5_obeys_134 : decode cX5_obeys 134 = .ok (.invokevirtual 65, 3) := by decide +kernel
theorem dX5_obeys_137 : decode cX5_obeys 137 = .ok (.ireturn, 1) := by decide +kernel
theorem dX5_obeys_138 : decode cX5_obeys 138 = .ok (.aload_n 0, 1) := by decide +kernel
theorem dX5_obeys_139 : decode cX5_obeys 139 = .ok (.getfield 12, 3) := by decide +kernel
theorem dX5_obeys_142 : decode cX5_obeys 142 = .ok (.iload_n 2, 1) := by decide +kernel
theorem dX5_obeys_143 : decode cX5_obeys 143 = .ok (.invokevirtual 68, 3) := by decide +kernel
theorem dX5_obeys_146 : decode cX5_obeys 146 = .ok (.ireturn, 1) := by decide +kernel
theorem dX5_obeys_147 : decode cX5_obeys 147 = .ok (.aload_n 0, 1) := by decide +kernel
theorem dX5_obeys_148 : decode cX5_obeys 148 = .ok (.getfield 12, 3) := by decide +kernel
theorem dX5_obeys_151 : decode cX5_obeys 151 = .ok (.iconst (-1), 1) := by decide +kernel
theorem dX5_obeys_152 : decode cX5_obeys 152 = .ok (.invokevirtual 68, 3) := by decide +kernel
theorem dX5_obeys_155 : decode cX5_obeys 155 = .ok (.ireturn, 1) := by decide +kernel
theorem dX5_obeys_156 : decode cX5_obeys 156 = .ok (.aload_n 0, 1) := by decide +kernel
theorem dX5_obeys_157 : decode cX5_obeys 157 = .ok (.getfield 12, 3) := by decide +kernel
theorem dX5_obeys_160 : decode cX5_obeys 160 = .ok (.iload_n 2, 1) := by decide +kernel
theorem dX5_obeys_161 : decode cX5_obeys 161 = .ok (.invokevirtual 71, 3) := by decide +kernel
theorem dX5_obeys_164 : decode cX5_obeys 164 = .ok (.ireturn, 1) := by decide +kernel
theorem dX5_obeys_165 : decode cX5_obeys 165 = .ok (.aload_n 0, 1) := by decide +kernel
theorem dX5_obeys_166 : decode cX5_obeys 166 = .ok (.invokevirtual 74, 3) := by decide +kernel
theorem dX5_obeys_169 : decode cX5_obeys 169 = .ok (.ireturn, 1) := by decide +kernel
theorem dX5_obeys_170 : decode cX5_obeys 170 = .ok (.bipush (-2), 2) := by decide +kernel
theorem dX5_obeys_172 : decode cX5_obeys 172 = .ok (.ireturn, 1) := by decide +kernel
theorem dX5_settles_0 : decode cX5_settles 0 = .ok (.iload_n 1, 1) := by decide +kernel
theorem dX5_settles_1 : decode cX5_settles 1 = .ok (.invokestatic 177, 3) := by decide +kernel
theorem dX5_settles_4 : decode cX5_settles 4 = .ok (.ifCond .eq 9, 3) := by decide +kernel
theorem dX5_settles_7 : decode cX5_settles 7 = .ok (.aload_n 0, 1) := by decide +kernel
theorem dX5_settles_8 : decode cX5_settles 8 = .ok (.iload_n 1, 1) := by decide +kernel
theorem dX5_settles_9 : decode cX5_settles 9 = .ok (.invokevirtual 89, 3) := by decide +kernel
theorem dX5_settles_12 : decode cX5_settles 12 = .ok (.ireturn, 1) := by decide +kernel
theorem dX5_settles_13 : decode cX5_settles 13 = .ok (.aload_n 0, 1) := by decide +kernel
theorem dX5_settles_14 : decode cX5_settles 14 = .ok (.getfield 26, 3) := by decide +kernel
theorem dX5_settles_17 : decode cX5_settles 17 = .ok (.invokevirtual 186, 3) := by decide +kernel
theorem dX5_settles_20 : decode cX5_settles 20 = .ok (.aload_n 0, 1) := by decide +kernel
theorem dX5_settles_21 : decode cX5_settles 21 = .ok (.getfield 19, 3) := by decide +kernel
theorem dX5_settles_24 : decode cX5_settles 24 = .ok (.invokevirtual 180, 3) := by decide +kernel
theorem dX5_settles_27 : decode cX5_settles 27 = .ok (.iload_n 1, 1) := by decide +kernel
theorem dX5_settles_28 : decode cX5_settles 28 = .ok (.ireturn, 1) := by decide +kernel
theorem dX5_refuses_0 : decode cX5_refuses 0 = .ok (.bipush (-2), 2) := by decide +kernel
theorem dX5_refuses_2 : decode cX5_refuses 2 = .ok (.iload_n 1, 1) := by decide +kernel
theorem dX5_refuses_3 : decode cX5_refuses 3 = .ok (.isub, 1) := by decide +kernel
theorem dX5_refuses_4 : decode cX5_refuses 4 = .ok (.istore_n 2, 1) := by decide +kernel
theorem dX5_refuses_5 : decode cX5_refuses 5 = .ok (.iload_n 2, 1) := by decide +kernel
theorem dX5_refuses_6 : decode cX5_refuses 6 = .ok (.iconst 0, 1) := by decide +kernel
theorem dX5_refuses_7 : decode cX5_refuses 7 = .ok (.aload_n 0, 1) := by decide +kernel
theorem dX5_refuses_8 : decode cX5_refuses 8 = .ok (.getfield 37, 3) := by decide +kernel
theorem dX5_refuses_11 : decode cX5_refuses 11 = .ok (.arraylength, 1) := by decide +kernel
theorem dX5_refuses_12 : decode cX5_refuses 12 = .ok (.iconst 1, 1) := by decide +kernel
theorem dX5_refuses_13 : decode cX5_refuses 13 = .ok (.isub, 1) := by decide +kernel
theorem dX5_refuses_14 : decode cX5_refuses 14 = .ok (.invokestatic 85, 3) := by decide +kernel
theorem dX5_refuses_17 : decode cX5_refuses 17 = .ok (.ifCond .eq 13, 3) := by decide +kernel
theorem dX5_refuses_20 : decode cX5_refuses 20 = .ok (.aload_n 0, 1) := by decide +kernel
theorem dX5_refuses_21 : decode cX5_refuses 21 = .ok (.getfield 37, 3) := by decide +kernel
theorem dX5_refuses_24 : decode cX5_refuses 24 = .ok (.iload_n 2, 1) := by decide +kernel
theorem dX5_refuses_25 : decode cX5_refuses 25 = .ok (.dup2, 1) := by decide +kernel
theorem dX5_refuses_26 : decode cX5_refuses 26 = .ok (.iaload, 1) := by decide +kernel
theorem dX5_refuses_27 : decode cX5_refuses 27 = .ok (.iconst 1, 1) := by decide +kernel
theorem dX5_refuses_28 : decode cX5_refuses 28 = .ok (.iadd, 1) := by decide +kernel
theorem dX5_refuses_29 : decode cX5_refuses 29 = .ok (.iastore, 1) := by decide +kernel
theorem dX5_refuses_30 : decode cX5_refuses 30 = .ok (.iload_n 1, 1) := by decide +kernel
theorem dX5_refuses_31 : decode cX5_refuses 31 = .ok (.ireturn, 1) := by decide +kernel
theorem dX5_isRefusal_0 : decode cX5_isRefusal 0 = .ok (.iload_n 0, 1) := by decide +kernel
theorem dX5_isRefusal_1 : decode cX5_isRefusal 1 = .ok (.iconst (-1), 1) := by decide +kernel
theorem dX5_isRefusal_2 : decode cX5_isRefusal 2 = .ok (.if_icmp .ge 7, 3) := by decide +kernel
theorem dX5_isRefusal_5 : decode cX5_isRefusal 5 = .ok (.iconst 1, 1) := by decide +kernel
theorem dX5_isRefusal_6 : decode cX5_isRefusal 6 = .ok (.goto 4, 3) := by decide +kernel
theorem dX5_isRefusal_9 : decode cX5_isRefusal 9 = .ok (.iconst 0, 1) := by decide +kernel
theorem dX5_isRefusal_10 : decode cX5_isRefusal 10 = .ok (.ireturn, 1) := by decide +kernel
theorem dX5_within_0 : decode cX5_within 0 = .ok (.iload_n 0, 1) := by decide +kernel
theorem dX5_within_1 : decode cX5_within 1 = .ok (.iload_n 1, 1) := by decide +kernel
theorem dX5_within_2 : decode cX5_within 2 = .ok (.if_icmp .lt 12, 3) := by decide +kernel
theorem dX5_within_5 : decode cX5_within 5 = .ok (.iload_n 0, 1) := by decide +kernel
theorem dX5_within_6 : decode cX5_within 6 = .ok (.iload_n 2, 1) := by decide +kernel
theorem dX5_within_7 : decode cX5_within 7 = .ok (.if_icmp .gt 7, 3) := by decide +kernel
theorem dX5_within_10 : decode cX5_within 10 = .ok (.iconst 1, 1) := by decide +kernel
theorem dX5_within_11 : decode cX5_within 11 = .ok (.goto 4, 3) := by decide +kernel
theorem dX5_within_14 : decode cX5_within 14 = .ok (.iconst 0, 1) := by decide +kernel
theorem dX5_within_15 : decode cX5_within 15 = .ok (.ireturn, 1) := by decide +kernel
theorem dX5_isYear_0 : decode cX5_isYear 0 = .ok (.iload_n 0, 1) := by decide +kernel
theorem dX5_isYear_1 : decode cX5_isYear 1 = .ok (.iconst 0, 1) := by decide +kernel
theorem dX5_isYear_2 : decode cX5_isYear 2 = .ok (.iconst 2, 1) := by decide +kernel
theorem dX5_isYear_3 : decode cX5_isYear 3 = .ok (.invokestatic 85, 3) := by decide +kernel
theorem dX5_isYear_6 : decode cX5_isYear 6 = .ok (.ireturn, 1) := by decide +kernel
theorem dX5_isForm_0 : decode cX5_isForm 0 = .ok (.iload_n 0, 1) := by decide +kernel
theorem dX5_isForm_1 : decode cX5_isForm 1 = .ok (.iconst 0, 1) := by decide +kernel
theorem dX5_isForm_2 : decode cX5_isForm 2 = .ok (.iconst 1, 1) := by decide +kernel
theorem dX5_isForm_3 : decode cX5_isForm 3 = .ok (.invokestatic 85, 3) := by decide +kernel
theorem dX5_isForm_6 : decode cX5_isForm 6 = .ok (.ireturn, 1) := by decide +kernel
theorem dJ6_bitCount_0f7a4_0 : decode cJ6_bitCount_0f7a4 0 = .ok (.iload_n 0, 1) := by decide +kernel
theorem dJ6_bitCount_0f7a4_1 : decode cJ6_bitCount_0f7a4 1 = .ok (.iload_n 0, 1) := by decide +kernel
theorem dJ6_bitCount_0f7a4_2 : decode cJ6_bitCount_0f7a4 2 = .ok (.iconst 1, 1) := by decide +kernel
theorem dJ6_bitCount_0f7a4_3 : decode cJ6_bitCount_0f7a4 3 = .ok (.iushr, 1) := by decide +kernel
theorem dJ6_bitCount_0f7a4_4 : decode cJ6_bitCount_0f7a4 4 = .ok (.ldc_w 265, 3) := by decide +kernel
theorem dJ6_bitCount_0f7a4_7 : decode cJ6_bitCount_0f7a4 7 = .ok (.iand, 1) := by decide +kernel
theorem dJ6_bitCount_0f7a4_8 : decode cJ6_bitCount_0f7a4 8 = .ok (.isub, 1) := by decide +kernel
theorem dJ6_bitCount_0f7a4_9 : decode cJ6_bitCount_0f7a4 9 = .ok (.istore_n 0, 1) := by decide +kernel
theorem dJ6_bitCount_0f7a4_10 : decode cJ6_bitCount_0f7a4 10 = .ok (.iload_n 0, 1) := by decide +kernel
theorem dJ6_bitCount_0f7a4_11 : decode cJ6_bitCount_0f7a4 11 = .ok (.ldc_w 266, 3) := by decide +kernel
theorem dJ6_bitCount_0f7a4_14 : decode cJ6_bitCount_0f7a4 14 = .ok (.iand, 1) := by decide +kernel
theorem dJ6_bitCount_0f7a4_15 : decode cJ6_bitCount_0f7a4 15 = .ok (.iload_n 0, 1) := by decide +kernel
theorem dJ6_bitCount_0f7a4_16 : decode cJ6_bitCount_0f7a4 16 = .ok (.iconst 2, 1) := by decide +kernel
theorem dJ6_bitCount_0f7a4_17 : decode cJ6_bitCount_0f7a4 17 = .ok (.iushr, 1) := by decide +kernel
theorem dJ6_bitCount_0f7a4_18 : decode cJ6_bitCount_0f7a4 18 = .ok (.ldc_w 266, 3) := by decide +kernel
theorem dJ6_bitCount_0f7a4_21 : decode cJ6_bitCount_0f7a4 21 = .ok (.iand, 1) := by decide +kernel
theorem dJ6_bitCount_0f7a4_22 : decode cJ6_bitCount_0f7a4 22 = .ok (.iadd, 1) := by decide +kernel
theorem dJ6_bitCount_0f7a4_23 : decode cJ6_bitCount_0f7a4 23 = .ok (.istore_n 0, 1) := by decide +kernel
theorem dJ6_bitCount_0f7a4_24 : decode cJ6_bitCount_0f7a4 24 = .ok (.iload_n 0, 1) := by decide +kernel
theorem dJ6_bitCount_0f7a4_25 : decode cJ6_bitCount_0f7a4 25 = .ok (.iload_n 0, 1) := by decide +kernel
theorem dJ6_bitCount_0f7a4_26 : decode cJ6_bitCount_0f7a4 26 = .ok (.iconst 4, 1) := by decide +kernel
theorem dJ6_bitCount_0f7a4_27 : decode cJ6_bitCount_0f7a4 27 = .ok (.iushr, 1) := by decide +kernel
theorem dJ6_bitCount_0f7a4_28 : decode cJ6_bitCount_0f7a4 28 = .ok (.iadd, 1) := by decide +kernel
theorem dJ6_bitCount_0f7a4_29 : decode cJ6_bitCount_0f7a4 29 = .ok (.ldc_w 267, 3) := by decide +kernel
theorem dJ6_bitCount_0f7a4_32 : decode cJ6_bitCount_0f7a4 32 = .ok (.iand, 1) := by decide +kernel
theorem dJ6_bitCount_0f7a4_33 : decode cJ6_bitCount_0f7a4 33 = .ok (.istore_n 0, 1) := by decide +kernel
theorem dJ6_bitCount_0f7a4_34 : decode cJ6_bitCount_0f7a4 34 = .ok (.iload_n 0, 1) := by decide +kernel
theorem dJ6_bitCount_0f7a4_35 : decode cJ6_bitCount_0f7a4 35 = .ok (.iload_n 0, 1) := by decide +kernel
theorem dJ6_bitCount_0f7a4_36 : decode cJ6_bitCount_0f7a4 36 = .ok (.bipush 8, 2) := by decide +kernel
theorem dJ6_bitCount_0f7a4_38 : decode cJ6_bitCount_0f7a4 38 = .ok (.iushr, 1) := by decide +kernel
theorem dJ6_bitCount_0f7a4_39 : decode cJ6_bitCount_0f7a4 39 = .ok (.iadd, 1) := by decide +kernel
theorem dJ6_bitCount_0f7a4_40 : decode cJ6_bitCount_0f7a4 40 = .ok (.istore_n 0, 1) := by decide +kernel
theorem dJ6_bitCount_0f7a4_41 : decode cJ6_bitCount_0f7a4 41 = .ok (.iload_n 0, 1) := by decide +kernel
theorem dJ6_bitCount_0f7a4_42 : decode cJ6_bitCount_0f7a4 42 = .ok (.iload_n 0, 1) := by decide +kernel
theorem dJ6_bitCount_0f7a4_43 : decode cJ6_bitCount_0f7a4 43 = .ok (.bipush 16, 2) := by decide +kernel
theorem dJ6_bitCount_0f7a4_45 : decode cJ6_bitCount_0f7a4 45 = .ok (.iushr, 1) := by decide +kernel
theorem dJ6_bitCount_0f7a4_46 : decode cJ6_bitCount_0f7a4 46 = .ok (.iadd, 1) := by decide +kernel
theorem dJ6_bitCount_0f7a4_47 : decode cJ6_bitCount_0f7a4 47 = .ok (.istore_n 0, 1) := by decide +kernel
theorem dJ6_bitCount_0f7a4_48 : decode cJ6_bitCount_0f7a4 48 = .ok (.iload_n 0, 1) := by decide +kernel
theorem dJ6_bitCount_0f7a4_49 : decode cJ6_bitCount_0f7a4 49 = .ok (.bipush 63, 2) := by decide +kernel
theorem dJ6_bitCount_0f7a4_51 : decode cJ6_bitCount_0f7a4 51 = .ok (.iand, 1) := by decide +kernel
theorem dJ6_bitCount_0f7a4_52 : decode cJ6_bitCount_0f7a4 52 = .ok (.ireturn, 1) := by decide +kernel
theorem dJ9_abs_0f7a4_0 : decode cJ9_abs_0f7a4 0 = .ok (.iload_n 0, 1) := by decide +kernel
theorem dJ9_abs_0f7a4_1 : decode cJ9_abs_0f7a4 1 = .ok (.ifCond .ge 8, 3) := by decide +kernel
theorem dJ9_abs_0f7a4_4 : decode cJ9_abs_0f7a4 4 = .ok (.iload_n 0, 1) := by decide +kernel
theorem dJ9_abs_0f7a4_5 : decode cJ9_abs_0f7a4 5 = .ok (.ineg, 1) := by decide +kernel
theorem dJ9_abs_0f7a4_6 : decode cJ9_abs_0f7a4 6 = .ok (.goto 4, 3) := by decide +kernel
theorem dJ9_abs_0f7a4_9 : decode cJ9_abs_0f7a4 9 = .ok (.iload_n 0, 1) := by decide +kernel
theorem dJ9_abs_0f7a4_10 : decode cJ9_abs_0f7a4 10 = .ok (.ireturn, 1) := by decide +kernel
theorem dJ9_max_7cf53_0 : decode cJ9_max_7cf53 0 = .ok (.iload_n 0, 1) := by decide +kernel
theorem dJ9_max_7cf53_1 : decode cJ9_max_7cf53 1 = .ok (.iload_n 1, 1) := by decide +kernel
theorem dJ9_max_7cf53_2 : decode cJ9_max_7cf53 2 = .ok (.if_icmp .lt 7, 3) := by decide +kernel
theorem dJ9_max_7cf53_5 : decode cJ9_max_7cf53 5 = .ok (.iload_n 0, 1) := by decide +kernel
theorem dJ9_max_7cf53_6 : decode cJ9_max_7cf53 6 = .ok (.goto 4, 3) := by decide +kernel
theorem dJ9_max_7cf53_9 : decode cJ9_max_7cf53 9 = .ok (.iload_n 1, 1) := by decide +kernel
theorem dJ9_max_7cf53_10 : decode cJ9_max_7cf53 10 = .ok (.ireturn, 1) := by decide +kernel
theorem dJ9_min_7cf53_0 : decode cJ9_min_7cf53 0 = .ok (.iload_n 0, 1) := by decide +kernel
theorem dJ9_min_7cf53_1 : decode cJ9_min_7cf53 1 = .ok (.iload_n 1, 1) := by decide +kernel
theorem dJ9_min_7cf53_2 : decode cJ9_min_7cf53 2 = .ok (.if_icmp .gt 7, 3) := by decide +kernel
theorem dJ9_min_7cf53_5 : decode cJ9_min_7cf53 5 = .ok (.iload_n 0, 1) := by decide +kernel
theorem dJ9_min_7cf53_6 : decode cJ9_min_7cf53 6 = .ok (.goto 4, 3) := by decide +kernel
theorem dJ9_min_7cf53_9 : decode cJ9_min_7cf53 9 = .ok (.iload_n 1, 1) := by decide +kernel
theorem dJ9_min_7cf53_10 : decode cJ9_min_7cf53 10 = .ok (.ireturn, 1) := by decide +kernel
