theorem dX12_allows_3 : decode cX12_allows 3 = .ok (.bipush 10, 2) := by decide +kernel
theorem dX12_allows_5 : decode cX12_allows 5 = .ok (.if_icmp .ge 17, 3) := by decide +kernel
theorem dX12_allows_8 : decode cX12_allows 8 = .ok (.aload_n 0, 1) := by decide +kernel
theorem dX12_allows_9 : decode cX12_allows 9 = .ok (.getfield 149, 3) := by decide +kernel
theorem dX12_allows_12 : decode cX12_allows 12 = .ok (.iload_n 1, 1) := by decide +kernel
theorem dX12_allows_13 : decode cX12_allows 13 = .ok (.bipush 127, 2) := by decide +kernel
theorem dX12_allows_15 : decode cX12_allows 15 = .ok (.iastore, 1) := by decide +kernel
theorem dX12_allows_16 : decode cX12_allows 16 = .ok (.iinc 1 1, 3) := by decide +kernel
theorem dX12_allows_19 : decode cX12_allows 19 = .ok (.goto (-17), 3) := by decide +kernel
theorem dX12_allows_22 : decode cX12_allows 22 = .ok (.return_, 1) := by decide +kernel
theorem dX12_finds_0 : decode cX12_finds 0 = .ok (.aload_n 0, 1) := by decide +kernel
theorem dX12_finds_1 : decode cX12_finds 1 = .ok (.getfield 182, 3) := by decide +kernel
theorem dX12_finds_4 : decode cX12_finds 4 = .ok (.ifCond .eq 4, 3) := by decide +kernel
theorem dX12_finds_7 : decode cX12_finds 7 = .ok (.return_, 1) := by decide +kernel
theorem dX12_finds_8 : decode cX12_finds 8 = .ok (.aload_n 0, 1) := by decide +kernel
theorem dX12_finds_9 : decode cX12_finds 9 = .ok (.iconst 1, 1) := by decide +kernel
theorem dX12_finds_10 : decode cX12_finds 10 = .ok (.putfield 182, 3) := by decide +kernel
theorem dX12_finds_13 : decode cX12_finds 13 = .ok (.aload_n 0, 1) := by decide +kernel
theorem dX12_finds_14 : decode cX12_finds 14 = .ok (.invokevirtual 415, 3) := by decide +kernel
theorem dX12_finds_17 : decode cX12_finds 17 = .ok (.aload_n 0, 1) := by decide +kernel
theorem dX12_finds_18 : decode cX12_finds 18 = .ok (.invokevirtual 418, 3) := by decide +kernel
theorem dX12_finds_21 : decode cX12_finds 21 = .ok (.aload_n 0, 1) := by decide +kernel
theorem dX12_finds_22 : decode cX12_finds 22 = .ok (.invokevirtual 421, 3) := by decide +kernel
theorem dX12_finds_25 : decode cX12_finds 25 = .ok (.iconst 1, 1) := by decide +kernel
theorem dX12_finds_26 : decode cX12_finds 26 = .ok (.aload_n 0, 1) := by decide +kernel
theorem dX12_finds_27 : decode cX12_finds 27 = .ok (.getfield 175, 3) := by decide +kernel
theorem dX12_finds_30 : decode cX12_finds 30 = .ok (.ishl, 1) := by decide +kernel
theorem dX12_finds_31 : decode cX12_finds 31 = .ok (.iconst 1, 1) := by decide +kernel
theorem dX12_finds_32 : decode cX12_finds 32 = .ok (.isub, 1) := by decide +kernel
theorem dX12_finds_33 : decode cX12_finds 33 = .ok (.istore_n 1, 1) := by decide +kernel
theorem dX12_finds_34 : decode cX12_finds 34 = .ok (.aload_n 0, 1) := by decide +kernel
theorem dX12_finds_35 : decode cX12_finds 35 = .ok (.aload_n 0, 1) := by decide +kernel
theorem dX12_finds_36 : decode cX12_finds 36 = .ok (.getfield 124, 3) := by decide +kernel
theorem dX12_finds_39 : decode cX12_finds 39 = .ok (.iload_n 1, 1) := by decide +kernel
theorem dX12_finds_40 : decode cX12_finds 40 = .ok (.iaload, 1) := by decide +kernel
theorem dX12_finds_41 : decode cX12_finds 41 = .ok (.putfield 424, 3) := by decide +kernel
theorem dX12_finds_44 : decode cX12_finds 44 = .ok (.aload_n 0, 1) := by decide +kernel
theorem dX12_finds_45 : decode cX12_finds 45 = .ok (.aload_n 0, 1) := by decide +kernel
theorem dX12_finds_46 : decode cX12_finds 46 = .ok (.getfield 127, 3) := by decide +kernel
theorem dX12_finds_49 : decode cX12_finds 49 = .ok (.iload_n 1, 1) := by decide +kernel
theorem dX12_finds_50 : decode cX12_finds 50 = .ok (.iaload, 1) := by decide +kernel
theorem dX12_finds_51 : decode cX12_finds 51 = .ok (.putfield 427, 3) := by decide +kernel
theorem dX12_finds_54 : decode cX12_finds 54 = .ok (.aload_n 0, 1) := by decide +kernel
theorem dX12_finds_55 : decode cX12_finds 55 = .ok (.aload_n 0, 1) := by decide +kernel
theorem dX12_finds_56 : decode cX12_finds 56 = .ok (.getfield 130, 3) := by decide +kernel
theorem dX12_finds_59 : decode cX12_finds 59 = .ok (.iload_n 1, 1) := by decide +kernel
theorem dX12_finds_60 : decode cX12_finds 60 = .ok (.laload, 1) := by decide +kernel
theorem dX12_finds_61 : decode cX12_finds 61 = .ok (.putfield 430, 3) := by decide +kernel
theorem dX12_finds_64 : decode cX12_finds 64 = .ok (.aload_n 0, 1) := by decide +kernel
theorem dX12_finds_65 : decode cX12_finds 65 = .ok (.aload_n 0, 1) := by decide +kernel
theorem dX12_finds_66 : decode cX12_finds 66 = .ok (.getfield 134, 3) := by decide +kernel
theorem dX12_finds_69 : decode cX12_finds 69 = .ok (.iload_n 1, 1) := by decide +kernel
theorem dX12_finds_70 : decode cX12_finds 70 = .ok (.laload, 1) := by decide +kernel
theorem dX12_finds_71 : decode cX12_finds 71 = .ok (.putfield 434, 3) := by decide +kernel
theorem dX12_finds_74 : decode cX12_finds 74 = .ok (.iconst 0, 1) := by decide +kernel
theorem dX12_finds_75 : decode cX12_finds 75 = .ok (.istore_n 2, 1) := by decide +kernel
theorem dX12_finds_76 : decode cX12_finds 76 = .ok (.iload_n 2, 1) := by decide +kernel
theorem dX12_finds_77 : decode cX12_finds 77 = .ok (.aload_n 0, 1) := by decide +kernel
theorem dX12_finds_78 : decode cX12_finds 78 = .ok (.getfield 175, 3) := by decide +kernel
theorem dX12_finds_81 : decode cX12_finds 81 = .ok (.if_icmp .ge 82, 3) := by decide +kernel
theorem dX12_finds_84 : decode cX12_finds 84 = .ok (.aload_n 0, 1) := by decide +kernel
theorem dX12_finds_85 : decode cX12_finds 85 = .ok (.getfield 152, 3) := by decide +kernel
theorem dX12_finds_88 : decode cX12_finds 88 = .ok (.iload_n 2, 1) := by decide +kernel
theorem dX12_finds_89 : decode cX12_finds 89 = .ok (.iconst 0, 1) := by decide +kernel
theorem dX12_finds_90 : decode cX12_finds 90 = .ok (.iastore, 1) := by decide +kernel
theorem dX12_finds_91 : decode cX12_finds 91 = .ok (.aload_n 0, 1) := by decide +kernel
theorem dX12_finds_92 : decode cX12_finds 92 = .ok (.getfield 149, 3) := by decide +kernel
theorem dX12_finds_95 : decode cX12_finds 95 = .ok (.iload_n 2, 1) := by decide +kernel
theorem dX12_finds_96 : decode cX12_finds 96 = .ok (.iconst 1, 1) := by decide +kernel
theorem dX12_finds_97 : decode cX12_finds 97 = .ok (.iastore, 1) := by decide +kernel
theorem dX12_finds_98 : decode cX12_finds 98 = .ok (.aload_n 0, 1) := by decide +kernel
theorem dX12_finds_99 : decode cX12_finds 99 = .ok (.invokevirtual 421, 3) := by decide +kernel
theorem dX12_finds_102 : decode cX12_finds 102 = .ok (.aload_n 0, 1) := by decide +kernel
theorem dX12_finds_103 : decode cX12_finds 103 = .ok (.getfield 130, 3) := by decide +kernel
theorem dX12_finds_106 : decode cX12_finds 106 = .ok (.iload_n 1, 1) := by decide +kernel
theorem dX12_finds_107 : decode cX12_finds 107 = .ok (.laload, 1) := by decide +kernel
theorem dX12_finds_108 : decode cX12_finds 108 = .ok (.lconst 0, 1) := by decide +kernel
theorem dX12_finds_109 : decode cX12_finds 109 = .ok (.lcmp, 1) := by decide +kernel
theorem dX12_finds_110 : decode cX12_finds 110 = .ok (.ifCond .eq 16, 3) := by decide +kernel
theorem dX12_finds_113 : decode cX12_finds 113 = .ok (.aload_n 0, 1) := by decide +kernel
theorem dX12_finds_114 : decode cX12_finds 114 = .ok (.getfield 124, 3) := by decide +kernel
theorem dX12_finds_117 : decode cX12_finds 117 = .ok (.iload_n 1, 1) := by decide +kernel
theorem dX12_finds_118 : decode cX12_finds 118 = .ok (.iaload, 1) := by decide +kernel
theorem dX12_finds_119 : decode cX12_finds 119 = .ok (.aload_n 0, 1) := by decide +kernel
theorem dX12_finds_120 : decode cX12_finds 120 = .ok (.getfield 424, 3) := by decide +kernel
theorem dX12_finds_123 : decode cX12_finds 123 = .ok (.if_icmp .eq 34, 3) := by decide +kernel
theorem dX12_finds_126 : decode cX12_finds 126 = .ok (.aload_n 0, 1) := by decide +kernel
theorem dX12_finds_127 : decode cX12_finds 127 = .ok (.getfield 152, 3) := by decide +kernel
theorem dX12_finds_130 : decode cX12_finds 130 = .ok (.iload_n 2, 1) := by decide +kernel
theorem dX12_finds_131 : decode cX12_finds 131 = .ok (.dup2, 1) := by decide +kernel
theorem dX12_finds_132 : decode cX12_finds 132 = .ok (.iaload, 1) := by decide +kernel
theorem dX12_finds_133 : decode cX12_finds 133 = .ok (.iconst 1, 1) := by decide +kernel
theorem dX12_finds_134 : decode cX12_finds 134 = .ok (.iadd, 1) := by decide +kernel
theorem dX12_finds_135 : decode cX12_finds 135 = .ok (.iastore, 1) := by decide +kernel
theorem dX12_finds_136 : decode cX12_finds 136 = .ok (.aload_n 0, 1) := by decide +kernel
theorem dX12_finds_137 : decode cX12_finds 137 = .ok (.getfield 149, 3) := by decide +kernel
theorem dX12_finds_140 : decode cX12_finds 140 = .ok (.iload_n 2, 1) := by decide +kernel
theorem dX12_finds_141 : decode cX12_finds 141 = .ok (.iconst 1, 1) := by decide +kernel
theorem dX12_finds_142 : decode cX12_finds 142 = .ok (.aload_n 0, 1) := by decide +kernel
theorem dX12_finds_143 : decode cX12_finds 143 = .ok (.getfield 152, 3) := by decide +kernel
theorem dX12_finds_146 : decode cX12_finds 146 = .ok (.iload_n 2, 1) := by decide +kernel
theorem dX12_finds_147 : decode cX12_finds 147 = .ok (.iaload, 1) := by decide +kernel
theorem dX12_finds_148 : decode cX12_finds 148 = .ok (.ishl, 1) := by decide +kernel
theorem dX12_finds_149 : decode cX12_finds 149 = .ok (.iastore, 1) := by decide +kernel
theorem dX12_finds_150 : decode cX12_finds 150 = .ok (.aload_n 0, 1) := by decide +kernel
theorem dX12_finds_151 : decode cX12_finds 151 = .ok (.invokevirtual 421, 3) := by decide +kernel
theorem dX12_finds_154 : decode cX12_finds 154 = .ok (.goto (-52), 3) := by decide +kernel
theorem dX12_finds_157 : decode cX12_finds 157 = .ok (.iinc 2 1, 3) := by decide +kernel
theorem dX12_finds_160 : decode cX12_finds 160 = .ok (.goto (-84), 3) := by decide +kernel
theorem dX12_finds_163 : decode cX12_finds 163 = .ok (.aload_n 0, 1) := by decide +kernel
theorem dX12_finds_164 : decode cX12_finds 164 = .ok (.invokevirtual 418, 3) := by decide +kernel
theorem dX12_finds_167 : decode cX12_finds 167 = .ok (.return_, 1) := by decide +kernel
theorem dX12_best_0 : decode cX12_best 0 = .ok (.aload_n 0, 1) := by decide +kernel
theorem dX12_best_1 : decode cX12_best 1 = .ok (.iload_n 1, 1) := by decide +kernel
theorem dX12_best_2 : decode cX12_best 2 = .ok (.invokevirtual 198, 3) := by decide +kernel
theorem dX12_best_5 : decode cX12_best 5 = .ok (.ifCond .ne 5, 3) := by decide +kernel
theorem dX12_best_8 : decode cX12_best 8 = .ok (.iconst (-1), 1) := by decide +kernel
theorem dX12_best_9 : decode cX12_best 9 = .ok (.ireturn, 1) := by decide +kernel
theorem dX12_best_10 : decode cX12_best 10 = .ok (.aload_n 0, 1) := by decide +kernel
theorem dX12_best_11 : decode cX12_best 11 = .ok (.invokevirtual 437, 3) := by decide +kernel
theorem dX12_best_14 : decode cX12_best 14 = .ok (.aload_n 0, 1) := by decide +kernel
theorem dX12_best_15 : decode cX12_best 15 = .ok (.getfield 152, 3) := by decide +kernel
theorem dX12_best_18 : decode cX12_best 18 = .ok (.iload_n 1, 1) := by decide +kernel
theorem dX12_best_19 : decode cX12_best 19 = .ok (.iaload, 1) := by decide +kernel
theorem dX12_best_20 : decode cX12_best 20 = .ok (.ireturn, 1) := by decide +kernel
theorem dX12_ways_0 : decode cX12_ways 0 = .ok (.iload_n 1, 1) := by decide +kernel
theorem dX12_ways_1 : decode cX12_ways 1 = .ok (.i2l, 1) := by decide +kernel
theorem dX12_ways_2 : decode cX12_ways 2 = .ok (.lconst 0, 1) := by decide +kernel
theorem dX12_ways_3 : decode cX12_ways 3 = .ok (.ldc2_w 196, 3) := by decide +kernel
theorem dX12_ways_6 : decode cX12_ways 6 = .ok (.invokestatic 164, 3) := by decide +kernel
theorem dX12_ways_9 : decode cX12_ways 9 = .ok (.ifCond .ne 7, 3) := by decide +kernel
theorem dX12_ways_12 : decode cX12_ways 12 = .ok (.ldc2_w 440, 3) := by decide +kernel
theorem dX12_ways_15 : decode cX12_ways 15 = .ok (.lreturn, 1) := by decide +kernel
theorem dX12_ways_16 : decode cX12_ways 16 = .ok (.aload_n 0, 1) := by decide +kernel
theorem dX12_ways_17 : decode cX12_ways 17 = .ok (.invokevirtual 437, 3) := by decide +kernel
theorem dX12_ways_20 : decode cX12_ways 20 = .ok (.iload_n 1, 1) := by decide +kernel
theorem dX12_ways_21 : decode cX12_ways 21 = .ok (.ifCond .ne 11, 3) := by decide +kernel
theorem dX12_ways_24 : decode cX12_ways 24 = .ok (.aload_n 0, 1) := by decide +kernel
theorem dX12_ways_25 : decode cX12_ways 25 = .ok (.getfield 424, 3) := by decide +kernel
theorem dX12_ways_28 : decode cX12_ways 28 = .ok (.i2l, 1) := by decide +kernel
theorem dX12_ways_29 : decode cX12_ways 29 = .ok (.goto 53, 3) := by decide +kernel
theorem dX12_ways_32 : decode cX12_ways 32 = .ok (.iload_n 1, 1) := by decide +kernel
theorem dX12_ways_33 : decode cX12_ways 33 = .ok (.iconst 1, 1) := by decide +kernel
theorem dX12_ways_34 : decode cX12_ways 34 = .ok (.if_icmp .ne 10, 3) := by decide +kernel
theorem dX12_ways_37 : decode cX12_ways 37 = .ok (.aload_n 0, 1) := by decide +kernel
theorem dX12_ways_38 : decode cX12_ways 38 = .ok (.getfield 430, 3) := by decide +kernel
theorem dX12_ways_41 : decode cX12_ways 41 = .ok (.goto 41, 3) := by decide +kernel
theorem dX12_ways_44 : decode cX12_ways 44 = .ok (.iload_n 1, 1) := by decide +kernel
theorem dX12_ways_45 : decode cX12_ways 45 = .ok (.iconst 2, 1) := by decide +kernel
theorem dX12_ways_46 : decode cX12_ways 46 = .ok (.if_icmp .ne 10, 3) := by decide +kernel
theorem dX12_ways_49 : decode cX12_ways 49 = .ok (.aload_n 0, 1) := by decide +kernel
theorem dX12_ways_50 : decode cX12_ways 50 = .ok (.getfield 434, 3) := by decide +kernel
theorem dX12_ways_53 : decode cX12_ways 53 = .ok (.goto 29, 3) := by decide +kernel
theorem dX12_ways_56 : decode cX12_ways 56 = .ok (.aload_n 0, 1) := by decide +kernel
theorem dX12_ways_57 : decode cX12_ways 57 = .ok (.getfield 427, 3) := by decide +kernel
theorem dX12_ways_60 : decode cX12_ways 60 = .ok (.ldc_w 404, 3) := by decide +kernel
theorem dX12_ways_63 : decode cX12_ways 63 = .ok (.if_icmp .ne 9, 3) := by decide +kernel
theorem dX12_ways_66 : decode cX12_ways 66 = .ok (.ldc2_w 440, 3) := by decide +kernel
theorem dX12_ways_69 : decode cX12_ways 69 = .ok (.goto 13, 3) := by decide +kernel
theorem dX12_ways_72 : decode cX12_ways 72 = .ok (.aload_n 0, 1) := by decide +kernel
theorem dX12_ways_73 : decode cX12_ways 73 = .ok (.getfield 424, 3) := by decide +kernel
theorem dX12_ways_76 : decode cX12_ways 76 = .ok (.aload_n 0, 1) := by decide +kernel
theorem dX12_ways_77 : decode cX12_ways 77 = .ok (.getfield 427, 3) := by decide +kernel
theorem dX12_ways_80 : decode cX12_ways 80 = .ok (.isub, 1) := by decide +kernel
theorem dX12_ways_81 : decode cX12_ways 81 = .ok (.i2l, 1) := by decide +kernel
theorem dX12_ways_82 : decode cX12_ways 82 = .ok (.lreturn, 1) := by decide +kernel
theorem dX12_sure_0 : decode cX12_sure 0 = .ok (.aload_n 0, 1) := by decide +kernel
theorem dX12_sure_1 : decode cX12_sure 1 = .ok (.iload_n 1, 1) := by decide +kernel
theorem dX12_sure_2 : decode cX12_sure 2 = .ok (.invokevirtual 198, 3) := by decide +kernel
theorem dX12_sure_5 : decode cX12_sure 5 = .ok (.ifCond .eq 17, 3) := by decide +kernel
theorem dX12_sure_8 : decode cX12_sure 8 = .ok (.iload_n 2, 1) := by decide +kernel
theorem dX12_sure_9 : decode cX12_sure 9 = .ok (.bipush 6, 2) := by decide +kernel
theorem dX12_sure_11 : decode cX12_sure 11 = .ok (.if_icmp .eq 13, 3) := by decide +kernel
theorem dX12_sure_14 : decode cX12_sure 14 = .ok (.aload_n 0, 1) := by decide +kernel
theorem dX12_sure_15 : decode cX12_sure 15 = .ok (.iload_n 2, 1) := by decide +kernel
theorem dX12_sure_16 : decode cX12_sure 16 = .ok (.invokevirtual 193, 3) := by decide +kernel
theorem dX12_sure_19 : decode cX12_sure 19 = .ok (.ifCond .ne 5, 3) := by decide +kernel
theorem dX12_sure_22 : decode cX12_sure 22 = .ok (.iconst (-1), 1) := by decide +kernel
theorem dX12_sure_23 : decode cX12_sure 23 = .ok (.ireturn, 1) := by decide +kernel
theorem dX12_sure_24 : decode cX12_sure 24 = .ok (.aload_n 0, 1) := by decide +kernel
theorem dX12_sure_25 : decode cX12_sure 25 = .ok (.invokevirtual 437, 3) := by decide +kernel
theorem dX12_sure_28 : decode cX12_sure 28 = .ok (.aload_n 0, 1) := by decide +kernel
theorem dX12_sure_29 : decode cX12_sure 29 = .ok (.getfield 149, 3) := by decide +kernel
theorem dX12_sure_32 : decode cX12_sure 32 = .ok (.iload_n 1, 1) := by decide +kernel
theorem dX12_sure_33 : decode cX12_sure 33 = .ok (.iconst 1, 1) := by decide +kernel
theorem dX12_sure_34 : decode cX12_sure 34 = .ok (.iload_n 2, 1) := by decide +kernel
theorem dX12_sure_35 : decode cX12_sure 35 = .ok (.ishl, 1) := by decide +kernel
theorem dX12_sure_36 : decode cX12_sure 36 = .ok (.iastore, 1) := by decide +kernel
theorem dX12_sure_37 : decode cX12_sure 37 = .ok (.aload_n 0, 1) := by decide +kernel
theorem dX12_sure_38 : decode cX12_sure 38 = .ok (.invokevirtual 421, 3) := by decide +kernel
theorem dX12_sure_41 : decode cX12_sure 41 = .ok (.iconst 1, 1) := by decide +kernel
theorem dX12_sure_42 : decode cX12_sure 42 = .ok (.aload_n 0, 1) := by decide +kernel
theorem dX12_sure_43 : decode cX12_sure 43 = .ok (.getfield 175, 3) := by decide +kernel
theorem dX12_sure_46 : decode cX12_sure 46 = .ok (.ishl, 1) := by decide +kernel
theorem dX12_sure_47 : decode cX12_sure 47 = .ok (.iconst 1, 1) := by decide +kernel
theorem dX12_sure_48 : decode cX12_sure 48 = .ok (.isub, 1) := by decide +kernel
theorem dX12_sure_49 : decode cX12_sure 49 = .ok (.istore_n 3, 1) := by decide +kernel
theorem dX12_sure_50 : decode cX12_sure 50 = .ok (.aload_n 0, 1) := by decide +kernel
theorem dX12_sure_51 : decode cX12_sure 51 = .ok (.getfield 130, 3) := by decide +kernel
theorem dX12_sure_54 : decode cX12_sure 54 = .ok (.iload_n 3, 1) := by decide +kernel
theorem dX12_sure_55 : decode cX12_sure 55 = .ok (.laload, 1) := by decide +kernel
theorem dX12_sure_56 : decode cX12_sure 56 = .ok (.lconst 0, 1) := by decide +kernel
theorem dX12_sure_57 : decode cX12_sure 57 = .ok (.lcmp, 1) := by decide +kernel
theorem dX12_sure_58 : decode cX12_sure 58 = .ok (.ifCond .le 25, 3) := by decide +kernel
theorem dX12_sure_61 : decode cX12_sure 61 = .ok (.aload_n 0, 1) := by decide +kernel
theorem dX12_sure_62 : decode cX12_sure 62 = .ok (.getfield 124, 3) := by decide +kernel
theorem dX12_sure_65 : decode cX12_sure 65 = .ok (.iload_n 3, 1) := by decide +kernel
theorem dX12_sure_66 : decode cX12_sure 66 = .ok (.iaload, 1) := by decide +kernel
theorem dX12_sure_67 : decode cX12_sure 67 = .ok (.aload_n 0, 1) := by decide +kernel
theorem dX12_sure_68 : decode cX12_sure 68 = .ok (.getfield 424, 3) := by decide +kernel
theorem dX12_sure_71 : decode cX12_sure 71 = .ok (.if_icmp .ne 12, 3) := by decide +kernel
theorem dX12_sure_74 : decode cX12_sure 74 = .ok (.aload_n 0, 1) := by decide +kernel
theorem dX12_sure_75 : decode cX12_sure 75 = .ok (.getfield 130, 3) := by decide +kernel
theorem dX12_sure_78 : decode cX12_sure 78 = .ok (.iload_n 3, 1) := by decide +kernel
theorem dX12_sure_79 : decode cX12_sure 79 = .ok (.laload, 1) := by decide +kernel
theorem dX12_sure_80 : decode cX12_sure 80 = .ok (.goto 4, 3) := by decide +kernel
theorem dX12_sure_83 : decode cX12_sure 83 = .ok (.lconst 0, 1) := by decide +kernel
theorem dX12_sure_84 : decode cX12_sure 84 = .ok (.lstore 4, 2) := by decide +kernel
theorem dX12_sure_86 : decode cX12_sure 86 = .ok (.aload_n 0, 1) := by decide +kernel
theorem dX12_sure_87 : decode cX12_sure 87 = .ok (.getfield 134, 3) := by decide +kernel
theorem dX12_sure_90 : decode cX12_sure 90 = .ok (.iload_n 3, 1) := by decide +kernel
theorem dX12_sure_91 : decode cX12_sure 91 = .ok (.laload, 1) := by decide +kernel
theorem dX12_sure_92 : decode cX12_sure 92 = .ok (.lstore 6, 2) := by decide +kernel
theorem dX12_sure_94 : decode cX12_sure 94 = .ok (.aload_n 0, 1) := by decide +kernel
theorem dX12_sure_95 : decode cX12_sure 95 = .ok (.invokevirtual 418, 3) := by decide +kernel
theorem dX12_sure_98 : decode cX12_sure 98 = .ok (.lload 4, 2) := by decide +kernel
theorem dX12_sure_100 : decode cX12_sure 100 = .ok (.aload_n 0, 1) := by decide +kernel
theorem dX12_sure_101 : decode cX12_sure 101 = .ok (.getfield 430, 3) := by decide +kernel
theorem dX12_sure_104 : decode cX12_sure 104 = .ok (.lcmp, 1) := by decide +kernel
theorem dX12_sure_105 : decode cX12_sure 105 = .ok (.ifCond .ne 7, 3) := by decide +kernel
theorem dX12_sure_108 : decode cX12_sure 108 = .ok (.iconst 2, 1) := by decide +kernel
theorem dX12_sure_109 : decode cX12_sure 109 = .ok (.goto 15, 3) := by decide +kernel
theorem dX12_sure_112 : decode cX12_sure 112 = .ok (.lload 6, 2) := by decide +kernel
theorem dX12_sure_114 : decode cX12_sure 114 = .ok (.lconst 0, 1) := by decide +kernel
theorem dX12_sure_115 : decode cX12_sure 115 = .ok (.lcmp, 1) := by decide +kernel
theorem dX12_sure_116 : decode cX12_sure 116 = .ok (.ifCond .ne 7, 3) := by decide +kernel
theorem dX12_sure_119 : decode cX12_sure 119 = .ok (.iconst 0, 1) := by decide +kernel
theorem dX12_sure_120 : decode cX12_sure 120 = .ok (.goto 4, 3) := by decide +kernel
theorem dX12_sure_123 : decode cX12_sure 123 = .ok (.iconst 1, 1) := by decide +kernel
theorem dX12_sure_124 : decode cX12_sure 124 = .ok (.ireturn, 1) := by decide +kernel
theorem dX12_setOf_0 : decode cX12_setOf 0 = .ok (.iconst 0, 1) := by decide +kernel
theorem dX12_setOf_1 : decode cX12_setOf 1 = .ok (.istore_n 2, 1) := by decide +kernel
theorem dX12_setOf_2 : decode cX12_setOf 2 = .ok (.iconst 0, 1) := by decide +kernel
theorem dX12_setOf_3 : decode cX12_setOf 3 = .ok (.istore_n 3, 1) := by decide +kernel
theorem dX12_setOf_4 : decode cX12_setOf 4 = .ok (.iload_n 3, 1) := by decide +kernel
theorem dX12_setOf_5 : decode cX12_setOf 5 = .ok (.aload_n 0, 1) := by decide +kernel
theorem dX12_setOf_6 : decode cX12_setOf 6 = .ok (.getfield 175, 3) := by decide +kernel
theorem dX12_setOf_9 : decode cX12_setOf 9 = .ok (.if_icmp .ge 29, 3) := by decide +kernel
theorem dX12_setOf_12 : decode cX12_setOf 12 = .ok (.iload_n 2, 1) := by decide +kernel
theorem dX12_setOf_13 : decode cX12_setOf 13 = .ok (.aload_n 0, 1) := by decide +kernel
theorem dX12_setOf_14 : decode cX12_setOf 14 = .ok (.getfield 152, 3) := by decide +kernel
theorem dX12_setOf_17 : decode cX12_setOf 17 = .ok (.iload_n 3, 1) := by decide +kernel
theorem dX12_setOf_18 : decode cX12_setOf 18 = .ok (.iaload, 1) := by decide +kernel
theorem dX12_setOf_19 : decode cX12_setOf 19 = .ok (.iload_n 1, 1) := by decide +kernel
theorem dX12_setOf_20 : decode cX12_setOf 20 = .ok (.if_icmp .ne 9, 3) := by decide +kernel
theorem dX12_setOf_23 : decode cX12_setOf 23 = .ok (.iconst 1, 1) := by decide +kernel
theorem dX12_setOf_24 : decode cX12_setOf 24 = .ok (.iload_n 3, 1) := by decide +kernel
theorem dX12_setOf_25 : decode cX12_setOf 25 = .ok (.ishl, 1) := by decide +kernel
theorem dX12_setOf_26 : decode cX12_setOf 26 = .ok (.goto 4, 3) := by decide +kernel
theorem dX12_setOf_29 : decode cX12_setOf 29 = .ok (.iconst 0, 1) := by decide +kernel
theorem dX12_setOf_30 : decode cX12_setOf 30 = .ok (.ior, 1) := by decide +kernel
theorem dX12_setOf_31 : decode cX12_setOf 31 = .ok (.istore_n 2, 1) := by decide +kernel
theorem dX12_setOf_32 : decode cX12_setOf 32 = .ok (.iinc 3 1, 3) := by decide +kernel
theorem dX12_setOf_35 : decode cX12_setOf 35 = .ok (.goto (-31), 3) := by decide +kernel
theorem dX12_setOf_38 : decode cX12_setOf 38 = .ok (.iload_n 2, 1) := by decide +kernel
theorem dX12_setOf_39 : decode cX12_setOf 39 = .ok (.ireturn, 1) := by decide +kernel
theorem dX12_grand_0 : decode cX12_grand 0 = .ok (.aload_n 0, 1) := by decide +kernel
theorem dX12_grand_1 : decode cX12_grand 1 = .ok (.iload_n 1, 1) := by decide +kernel
theorem dX12_grand_2 : decode cX12_grand 2 = .ok (.invokevirtual 193, 3) := by decide +kernel
theorem dX12_grand_5 : decode cX12_grand 5 = .ok (.ifCond .eq 15, 3) := by decide +kernel
theorem dX12_grand_8 : decode cX12_grand 8 = .ok (.iload_n 2, 1) := by decide +kernel
theorem dX12_grand_9 : decode cX12_grand 9 = .ok (.i2l, 1) := by decide +kernel
theorem dX12_grand_10 : decode cX12_grand 10 = .ok (.lconst 0, 1) := by decide +kernel
theorem dX12_grand_11 : decode cX12_grand 11 = .ok (.ldc2_w 196, 3) := by decide +kernel
theorem dX12_grand_14 : decode cX12_grand 14 = .ok (.invokestatic 164, 3) := by decide +kernel
theorem dX12_grand_17 : decode cX12_grand 17 = .ok (.ifCond .ne 5, 3) := by decide +kernel
theorem dX12_grand_20 : decode cX12_grand 20 = .ok (.iconst (-1), 1) := by decide +kernel
theorem dX12_grand_21 : decode cX12_grand 21 = .ok (.ireturn, 1) := by decide +kernel
theorem dX12_grand_22 : decode cX12_grand 22 = .ok (.aload_n 0, 1) := by decide +kernel
theorem dX12_grand_23 : decode cX12_grand 23 = .ok (.getfield 48, 3) := by decide +kernel
theorem dX12_grand_26 : decode cX12_grand 26 = .ok (.iconst 4, 1) := by decide +kernel
theorem dX12_grand_27 : decode cX12_grand 27 = .ok (.iload_n 1, 1) := by decide +kernel
theorem dX12_grand_28 : decode cX12_grand 28 = .ok (.imul, 1) := by decide +kernel
theorem dX12_grand_29 : decode cX12_grand 29 = .ok (.iload_n 2, 1) := by decide +kernel
theorem dX12_grand_30 : decode cX12_grand 30 = .ok (.iadd, 1) := by decide +kernel
theorem dX12_grand_31 : decode cX12_grand 31 = .ok (.iaload, 1) := by decide +kernel
theorem dX12_grand_32 : decode cX12_grand 32 = .ok (.iconst (-1), 1) := by decide +kernel
theorem dX12_grand_33 : decode cX12_grand 33 = .ok (.if_icmp .eq 16, 3) := by decide +kernel
theorem dX12_grand_36 : decode cX12_grand 36 = .ok (.iconst 1, 1) := by decide +kernel
theorem dX12_grand_37 : decode cX12_grand 37 = .ok (.aload_n 0, 1) := by decide +kernel
theorem dX12_grand_38 : decode cX12_grand 38 = .ok (.getfield 48, 3) := by decide +kernel
theorem dX12_grand_41 : decode cX12_grand 41 = .ok (.iconst 4, 1) := by decide +kernel
theorem dX12_grand_42 : decode cX12_grand 42 = .ok (.iload_n 1, 1) := by decide +kernel
theorem dX12_grand_43 : decode cX12_grand 43 = .ok (.imul, 1) := by decide +kernel
theorem dX12_grand_44 : decode cX12_grand 44 = .ok (.iload_n 2, 1) := by decide +kernel
theorem dX12_grand_45 : decode cX12_grand 45 = .ok (.iadd, 1) := by decide +kernel
theorem dX12_grand_46 : decode cX12_grand 46 = .ok (.iaload, 1) := by decide +kernel
theorem dX12_grand_47 : decode cX12_grand 47 = .ok (.ishl, 1) := by decide +kernel
theorem dX12_grand_48 : decode cX12_grand 48 = .ok (.ireturn, 1) := by decide +kernel
theorem dX12_grand_49 : decode cX12_grand 49 = .ok (.aload_n 0, 1) := by decide +kernel
theorem dX12_grand_50 : decode cX12_grand 50 = .ok (.invokevirtual 437, 3) := by decide +kernel
theorem dX12_grand_53 : decode cX12_grand 53 = .ok (.aload_n 0, 1) := by decide +kernel
theorem dX12_grand_54 : decode cX12_grand 54 = .ok (.iload_n 1, 1) := by decide +kernel
theorem dX12_grand_55 : decode cX12_grand 55 = .ok (.aload_n 0, 1) := by decide +kernel
theorem dX12_grand_56 : decode cX12_grand 56 = .ok (.iload_n 1, 1) := by decide +kernel
theorem dX12_grand_57 : decode cX12_grand 57 = .ok (.invokevirtual 442, 3) := by decide +kernel
theorem dX12_grand_60 : decode cX12_grand 60 = .ok (.invokevirtual 382, 3) := by decide +kernel
theorem dX12_grand_63 : decode cX12_grand 63 = .ok (.aload_n 0, 1) := by decide +kernel
theorem dX12_grand_64 : decode cX12_grand 64 = .ok (.invokevirtual 385, 3) := by decide +kernel
theorem dX12_grand_67 : decode cX12_grand 67 = .ok (.aload_n 0, 1) := by decide +kernel
theorem dX12_grand_68 : decode cX12_grand 68 = .ok (.iload_n 2, 1) := by decide +kernel
theorem dX12_grand_69 : decode cX12_grand 69 = .ok (.invokevirtual 376, 3) := by decide +kernel
theorem dX12_grand_72 : decode cX12_grand 72 = .ok (.ireturn, 1) := by decide +kernel
theorem dX12_cellOf_0 : decode cX12_cellOf 0 = .ok (.sipush 289, 3) := by decide +kernel
theorem dX12_cellOf_3 : decode cX12_cellOf 3 = .ok (.iload_n 0, 1) := by decide +kernel
theorem dX12_cellOf_4 : decode cX12_cellOf 4 = .ok (.imul, 1) := by decide +kernel
theorem dX12_cellOf_5 : decode cX12_cellOf 5 = .ok (.bipush 17, 2) := by decide +kernel
theorem dX12_cellOf_7 : decode cX12_cellOf 7 = .ok (.iload_n 1, 1) := by decide +kernel
theorem dX12_cellOf_8 : decode cX12_cellOf 8 = .ok (.imul, 1) := by decide +kernel
theorem dX12_cellOf_9 : decode cX12_cellOf 9 = .ok (.iadd, 1) := by decide +kernel
theorem dX12_cellOf_10 : decode cX12_cellOf 10 = .ok (.iload_n 2, 1) := by decide +kernel
theorem dX12_cellOf_11 : decode cX12_cellOf 11 = .ok (.iadd, 1) := by decide +kernel
theorem dX12_cellOf_12 : decode cX12_cellOf 12 = .ok (.ireturn, 1) := by decide +kernel
theorem dX12_needs_0 : decode cX12_needs 0 = .ok (.iconst 0, 1) := by decide +kernel
theorem dX12_needs_1 : decode cX12_needs 1 = .ok (.istore_n 3, 1) := by decide +kernel
theorem dX12_needs_2 : decode cX12_needs 2 = .ok (.iload_n 3, 1) := by decide +kernel
theorem dX12_needs_3 : decode cX12_needs 3 = .ok (.sipush 1734, 3) := by decide +kernel
theorem dX12_needs_6 : decode cX12_needs 6 = .ok (.if_icmp .ge 16, 3) := by decide +kernel
theorem dX12_needs_9 : decode cX12_needs 9 = .ok (.aload_n 0, 1) := by decide +kernel
theorem dX12_needs_10 : decode cX12_needs 10 = .ok (.getfield 158, 3) := by decide +kernel
theorem dX12_needs_13 : decode cX12_needs 13 = .ok (.iload_n 3, 1) := by decide +kernel
theorem dX12_needs_14 : decode cX12_needs 14 = .ok (.iconst 0, 1) := by decide +kernel
theorem dX12_needs_15 : decode cX12_needs 15 = .ok (.bastore, 1) := by decide +kernel
theorem dX12_needs_16 : decode cX12_needs 16 = .ok (.iinc 3 1, 3) := by decide +kernel
theorem dX12_needs_19 : decode cX12_needs 19 = .ok (.goto (-17), 3) := by decide +kernel
theorem dX12_needs_22 : decode cX12_needs 22 = .ok (.iconst 0, 1) := by decide +kernel
theorem dX12_needs_23 : decode cX12_needs 23 = .ok (.istore_n 3, 1) := by decide +kernel
theorem dX12_needs_24 : decode cX12_needs 24 = .ok (.iload_n 3, 1) := by decide +kernel
theorem dX12_needs_25 : decode cX12_needs 25 = .ok (.iconst 5, 1) := by decide +kernel
theorem dX12_needs_26 : decode cX12_needs 26 = .ok (.if_icmp .gt 246, 3) := by decide +kernel
theorem dX12_needs_29 : decode cX12_needs 29 = .ok (.aload_n 0, 1) := by decide +kernel
theorem dX12_needs_30 : decode cX12_needs 30 = .ok (.iload_n 1, 1) := by decide +kernel
theorem dX12_needs_31 : decode cX12_needs 31 = .ok (.iload_n 3, 1) := by decide +kernel
theorem dX12_needs_32 : decode cX12_needs 32 = .ok (.invokevirtual 370, 3) := by decide +kernel
theorem dX12_needs_35 : decode cX12_needs 35 = .ok (.istore 4, 2) := by decide +kernel
theorem dX12_needs_37 : decode cX12_needs 37 = .ok (.iload 4, 2) := by decide +kernel
theorem dX12_needs_39 : decode cX12_needs 39 = .ok (.ifCond .ne 7, 3) := by decide +kernel
theorem dX12_needs_42 : decode cX12_needs 42 = .ok (.iconst (-1), 1) := by decide +kernel
theorem dX12_needs_43 : decode cX12_needs 43 = .ok (.goto 8, 3) := by decide +kernel
theorem dX12_needs_46 : decode cX12_needs 46 = .ok (.iload 4, 2) := by decide +kernel
theorem dX12_needs_48 : decode cX12_needs 48 = .ok (.invokestatic 357, 3) := by decide +kernel
theorem dX12_needs_51 : decode cX12_needs 51 = .ok (.istore 5, 2) := by decide +kernel
theorem dX12_needs_53 : decode cX12_needs 53 = .ok (.iload 4, 2) := by decide +kernel
theorem dX12_needs_55 : decode cX12_needs 55 = .ok (.ifCond .ne 7, 3) := by decide +kernel
theorem dX12_needs_58 : decode cX12_needs 58 = .ok (.iconst (-1), 1) := by decide +kernel
theorem dX12_needs_59 : decode cX12_needs 59 = .ok (.goto 10, 3) := by decide +kernel
theorem dX12_needs_62 : decode cX12_needs 62 = .ok (.aload_n 0, 1) := by decide +kernel
theorem dX12_needs_63 : decode cX12_needs 63 = .ok (.iload 4, 2) := by decide +kernel
theorem dX12_needs_65 : decode cX12_needs 65 = .ok (.iload_n 1, 1) := by decide +kernel
theorem dX12_needs_66 : decode cX12_needs 66 = .ok (.invokevirtual 373, 3) := by decide +kernel
theorem dX12_needs_69 : decode cX12_needs 69 = .ok (.istore 6, 2) := by decide +kernel
theorem dX12_needs_71 : decode cX12_needs 71 = .ok (.iconst 0, 1) := by decide +kernel
theorem dX12_needs_72 : decode cX12_needs 72 = .ok (.istore 7, 2) := by decide +kernel
theorem dX12_needs_74 : decode cX12_needs 74 = .ok (.iload 7, 2) := by decide +kernel
theorem dX12_needs_76 : decode cX12_needs 76 = .ok (.sipush 289, 3) := by decide +kernel
theorem dX12_needs_79 : decode cX12_needs 79 = .ok (.iload_n 3, 1) := by decide +kernel
theorem dX12_needs_80 : decode cX12_needs 80 = .ok (.iconst 1, 1) := by decide +kernel
theorem dX12_needs_81 : decode cX12_needs 81 = .ok (.iadd, 1) := by decide +kernel
theorem dX12_needs_82 : decode cX12_needs 82 = .ok (.imul, 1) := by decide +kernel
theorem dX12_needs_83 : decode cX12_needs 83 = .ok (.if_icmp .ge 183, 3) := by decide +kernel
theorem dX12_needs_86 : decode cX12_needs 86 = .ok (.aload_n 0, 1) := by decide +kernel
theorem dX12_needs_87 : decode cX12_needs 87 = .ok (.getfield 155, 3) := by decide +kernel
theorem dX12_needs_90 : decode cX12_needs 90 = .ok (.iload 7, 2) := by decide +kernel
theorem dX12_needs_92 : decode cX12_needs 92 = .ok (.baload, 1) := by decide +kernel
theorem dX12_needs_93 : decode cX12_needs 93 = .ok (.ifCond .ne 6, 3) := by decide +kernel
theorem dX12_needs_96 : decode cX12_needs 96 = .ok (.goto 164, 3) := by decide +kernel
theorem dX12_needs_99 : decode cX12_needs 99 = .ok (.iload 7, 2) := by decide +kernel
theorem dX12_needs_101 : decode cX12_needs 101 = .ok (.bipush 17, 2) := by decide +kernel
theorem dX12_needs_103 : decode cX12_needs 103 = .ok (.idiv, 1) := by decide +kernel
theorem dX12_needs_104 : decode cX12_needs 104 = .ok (.bipush 17, 2) := by decide +kernel
theorem dX12_needs_106 : decode cX12_needs 106 = .ok (.irem, 1) := by decide +kernel
theorem dX12_needs_107 : decode cX12_needs 107 = .ok (.istore 8, 2) := by decide +kernel
theorem dX12_needs_109 : decode cX12_needs 109 = .ok (.iload 7, 2) := by decide +kernel
theorem dX12_needs_111 : decode cX12_needs 111 = .ok (.bipush 17, 2) := by decide +kernel
theorem dX12_needs_113 : decode cX12_needs 113 = .ok (.irem, 1) := by decide +kernel
theorem dX12_needs_114 : decode cX12_needs 114 = .ok (.istore 9, 2) := by decide +kernel
theorem dX12_needs_116 : decode cX12_needs 116 = .ok (.iload 4, 2) := by decide +kernel
theorem dX12_needs_118 : decode cX12_needs 118 = .ok (.ifCond .eq 28, 3) := by decide +kernel
theorem dX12_needs_121 : decode cX12_needs 121 = .ok (.iload 6, 2) := by decide +kernel
theorem dX12_needs_123 : decode cX12_needs 123 = .ok (.iconst (-1), 1) := by decide +kernel
theorem dX12_needs_124 : decode cX12_needs 124 = .ok (.if_icmp .eq 22, 3) := by decide +kernel
theorem dX12_needs_127 : decode cX12_needs 127 = .ok (.iload 6, 2) := by decide +kernel
theorem dX12_needs_129 : decode cX12_needs 129 = .ok (.aload_n 0, 1) := by decide +kernel
theorem dX12_needs_130 : decode cX12_needs 130 = .ok (.getfield 51, 3) := by decide +kernel
theorem dX12_needs_133 : decode cX12_needs 133 = .ok (.aload_n 0, 1) := by decide +kernel
theorem dX12_needs_134 : decode cX12_needs 134 = .ok (.getfield 105, 3) := by decide +kernel
theorem dX12_needs_137 : decode cX12_needs 137 = .ok (.iload_n 1, 1) := by decide +kernel
theorem dX12_needs_138 : decode cX12_needs 138 = .ok (.iaload, 1) := by decide +kernel
theorem dX12_needs_139 : decode cX12_needs 139 = .ok (.iaload, 1) := by decide +kernel
theorem dX12_needs_140 : decode cX12_needs 140 = .ok (.if_icmp .eq 6, 3) := by decide +kernel
theorem dX12_needs_143 : decode cX12_needs 143 = .ok (.goto 117, 3) := by decide +kernel
theorem dX12_needs_146 : decode cX12_needs 146 = .ok (.iload 4, 2) := by decide +kernel
theorem dX12_needs_148 : decode cX12_needs 148 = .ok (.ifCond .eq 98, 3) := by decide +kernel
theorem dX12_needs_151 : decode cX12_needs 151 = .ok (.iload 6, 2) := by decide +kernel
theorem dX12_needs_153 : decode cX12_needs 153 = .ok (.iconst (-1), 1) := by decide +kernel
theorem dX12_needs_154 : decode cX12_needs 154 = .ok (.if_icmp .ne 92, 3) := by decide +kernel
theorem dX12_needs_157 : decode cX12_needs 157 = .ok (.iload 5, 2) := by decide +kernel
theorem dX12_needs_159 : decode cX12_needs 159 = .ok (.iconst 2, 1) := by decide +kernel
theorem dX12_needs_160 : decode cX12_needs 160 = .ok (.if_icmp .ge 8, 3) := by decide +kernel
theorem dX12_needs_163 : decode cX12_needs 163 = .ok (.iload 8, 2) := by decide +kernel
theorem dX12_needs_165 : decode cX12_needs 165 = .ok (.goto 5, 3) := by decide +kernel
theorem dX12_needs_168 : decode cX12_needs 168 = .ok (.iload 9, 2) := by decide +kernel
theorem dX12_needs_170 : decode cX12_needs 170 = .ok (.istore 10, 2) := by decide +kernel
theorem dX12_needs_172 : decode cX12_needs 172 = .ok (.iload 10, 2) := by decide +kernel
theorem dX12_needs_174 : decode cX12_needs 174 = .ok (.bipush 16, 2) := by decide +kernel
theorem dX12_needs_176 : decode cX12_needs 176 = .ok (.if_icmp .eq 22, 3) := by decide +kernel
theorem dX12_needs_179 : decode cX12_needs 179 = .ok (.iload 10, 2) := by decide +kernel
theorem dX12_needs_181 : decode cX12_needs 181 = .ok (.aload_n 0, 1) := by decide +kernel
theorem dX12_needs_182 : decode cX12_needs 182 = .ok (.getfield 51, 3) := by decide +kernel
theorem dX12_needs_185 : decode cX12_needs 185 = .ok (.aload_n 0, 1) := by decide +kernel
theorem dX12_needs_186 : decode cX12_needs 186 = .ok (.getfield 105, 3) := by decide +kernel
theorem dX12_needs_189 : decode cX12_needs 189 = .ok (.iload_n 1, 1) := by decide +kernel
theorem dX12_needs_190 : decode cX12_needs 190 = .ok (.iaload, 1) := by decide +kernel
theorem dX12_needs_191 : decode cX12_needs 191 = .ok (.iaload, 1) := by decide +kernel
theorem dX12_needs_192 : decode cX12_needs 192 = .ok (.if_icmp .eq 6, 3) := by decide +kernel
theorem dX12_needs_195 : decode cX12_needs 195 = .ok (.goto 65, 3) := by decide +kernel
theorem dX12_needs_198 : decode cX12_needs 198 = .ok (.iload 5, 2) := by decide +kernel
theorem dX12_needs_200 : decode cX12_needs 200 = .ok (.iconst 2, 1) := by decide +kernel
theorem dX12_needs_201 : decode cX12_needs 201 = .ok (.if_icmp .ge 17, 3) := by decide +kernel
theorem dX12_needs_204 : decode cX12_needs 204 = .ok (.aload_n 0, 1) := by decide +kernel
theorem dX12_needs_205 : decode cX12_needs 205 = .ok (.getfield 51, 3) := by decide +kernel
theorem dX12_needs_208 : decode cX12_needs 208 = .ok (.aload_n 0, 1) := by decide +kernel
theorem dX12_needs_209 : decode cX12_needs 209 = .ok (.getfield 105, 3) := by decide +kernel
theorem dX12_needs_212 : decode cX12_needs 212 = .ok (.iload_n 1, 1) := by decide +kernel
theorem dX12_needs_213 : decode cX12_needs 213 = .ok (.iaload, 1) := by decide +kernel
theorem dX12_needs_214 : decode cX12_needs 214 = .ok (.iaload, 1) := by decide +kernel
theorem dX12_needs_215 : decode cX12_needs 215 = .ok (.goto 5, 3) := by decide +kernel
theorem dX12_needs_218 : decode cX12_needs 218 = .ok (.iload 8, 2) := by decide +kernel
theorem dX12_needs_220 : decode cX12_needs 220 = .ok (.istore 8, 2) := by decide +kernel
theorem dX12_needs_222 : decode cX12_needs 222 = .ok (.iload 5, 2) := by decide +kernel
theorem dX12_needs_224 : decode cX12_needs 224 = .ok (.iconst 2, 1) := by decide +kernel
theorem dX12_needs_225 : decode cX12_needs 225 = .ok (.if_icmp .ge 8, 3) := by decide +kernel
theorem dX12_needs_228 : decode cX12_needs 228 = .ok (.iload 9, 2) := by decide +kernel
theorem dX12_needs_230 : decode cX12_needs 230 = .ok (.goto 14, 3) := by decide +kernel
theorem dX12_needs_233 : decode cX12_needs 233 = .ok (.aload_n 0, 1) := by decide +kernel
theorem dX12_needs_234 : decode cX12_needs 234 = .ok (.getfield 51, 3) := by decide +kernel
theorem dX12_needs_237 : decode cX12_needs 237 = .ok (.aload_n 0, 1) := by decide +kernel
theorem dX12_needs_238 : decode cX12_needs 238 = .ok (.getfield 105, 3) := by decide +kernel
theorem dX12_needs_241 : decode cX12_needs 241 = .ok (.iload_n 1, 1) := by decide +kernel
theorem dX12_needs_242 : decode cX12_needs 242 = .ok (.iaload, 1) := by decide +kernel
theorem dX12_needs_243 : decode cX12_needs 243 = .ok (.iaload, 1) := by decide +kernel
theorem dX12_needs_244 : decode cX12_needs 244 = .ok (.istore 9, 2) := by decide +kernel
theorem dX12_needs_246 : decode cX12_needs 246 = .ok (.aload_n 0, 1) := by decide +kernel
theorem dX12_needs_247 : decode cX12_needs 247 = .ok (.getfield 158, 3) := by decide +kernel
theorem dX12_needs_250 : decode cX12_needs 250 = .ok (.iload_n 3, 1) := by decide +kernel
theorem dX12_needs_251 : decode cX12_needs 251 = .ok (.iload 8, 2) := by decide +kernel
theorem dX12_needs_253 : decode cX12_needs 253 = .ok (.iload 9, 2) := by decide +kernel
theorem dX12_needs_255 : decode cX12_needs 255 = .ok (.invokestatic 445, 3) := by decide +kernel
theorem dX12_needs_258 : decode cX12_needs 258 = .ok (.iconst 1, 1) := by decide +kernel
theorem dX12_needs_259 : decode cX12_needs 259 = .ok (.bastore, 1) := by decide +kernel
theorem dX12_needs_260 : decode cX12_needs 260 = .ok (.iinc 7 1, 3) := by decide +kernel
theorem dX12_needs_263 : decode cX12_needs 263 = .ok (.goto (-189), 3) := by decide +kernel
theorem dX12_needs_266 : decode cX12_needs 266 = .ok (.iinc 3 1, 3) := by decide +kernel
theorem dX12_needs_269 : decode cX12_needs 269 = .ok (.goto (-245), 3) := by decide +kernel
theorem dX12_needs_272 : decode cX12_needs 272 = .ok (.iconst 0, 1) := by decide +kernel
theorem dX12_needs_273 : decode cX12_needs 273 = .ok (.istore_n 3, 1) := by decide +kernel
theorem dX12_needs_274 : decode cX12_needs 274 = .ok (.iload_n 3, 1) := by decide +kernel
theorem dX12_needs_275 : decode cX12_needs 275 = .ok (.sipush 1734, 3) := by decide +kernel
theorem dX12_needs_278 : decode cX12_needs 278 = .ok (.if_icmp .ge 21, 3) := by decide +kernel
theorem dX12_needs_281 : decode cX12_needs 281 = .ok (.aload_n 0, 1) := by decide +kernel
theorem dX12_needs_282 : decode cX12_needs 282 = .ok (.getfield 155, 3) := by decide +kernel
theorem dX12_needs_285 : decode cX12_needs 285 = .ok (.iload_n 3, 1) := by decide +kernel
theorem dX12_needs_286 : decode cX12_needs 286 = .ok (.aload_n 0, 1) := by decide +kernel
theorem dX12_needs_287 : decode cX12_needs 287 = .ok (.getfield 158, 3) := by decide +kernel
theorem dX12_needs_290 : decode cX12_needs 290 = .ok (.iload_n 3, 1) := by decide +kernel
theorem dX12_needs_291 : decode cX12_needs 291 = .ok (.baload, 1) := by decide +kernel
theorem dX12_needs_292 : decode cX12_needs 292 = .ok (.bastore, 1) := by decide +kernel
theorem dX12_needs_293 : decode cX12_needs 293 = .ok (.iinc 3 1, 3) := by decide +kernel
theorem dX12_needs_296 : decode cX12_needs 296 = .ok (.goto (-22), 3) := by decide +kernel
theorem dX12_needs_299 : decode cX12_needs 299 = .ok (.return_, 1) := by decide +kernel
theorem dX12_must_0 : decode cX12_must 0 = .ok (.aload_n 0, 1) := by decide +kernel
theorem dX12_must_1 : decode cX12_must 1 = .ok (.iload_n 1, 1) := by decide +kernel
theorem dX12_must_2 : decode cX12_must 2 = .ok (.invokevirtual 193, 3) := by decide +kernel
theorem dX12_must_5 : decode cX12_must 5 = .ok (.ifCond .eq 30, 3) := by decide +kernel
theorem dX12_must_8 : decode cX12_must 8 = .ok (.aload_n 0, 1) := by decide +kernel
theorem dX12_must_9 : decode cX12_must 9 = .ok (.iload_n 2, 1) := by decide +kernel
theorem dX12_must_10 : decode cX12_must 10 = .ok (.invokevirtual 391, 3) := by decide +kernel
theorem dX12_must_13 : decode cX12_must 13 = .ok (.ifCond .eq 22, 3) := by decide +kernel
theorem dX12_must_16 : decode cX12_must 16 = .ok (.iload_n 3, 1) := by decide +kernel
theorem dX12_must_17 : decode cX12_must 17 = .ok (.i2l, 1) := by decide +kernel
theorem dX12_must_18 : decode cX12_must 18 = .ok (.lconst 0, 1) := by decide +kernel
theorem dX12_must_19 : decode cX12_must 19 = .ok (.lconst 1, 1) := by decide +kernel
theorem dX12_must_20 : decode cX12_must 20 = .ok (.invokestatic 164, 3) := by decide +kernel
theorem dX12_must_23 : decode cX12_must 23 = .ok (.ifCond .eq 12, 3) := by decide +kernel
theorem dX12_must_26 : decode cX12_must 26 = .ok (.aload_n 0, 1) := by decide +kernel
theorem dX12_must_27 : decode cX12_must 27 = .ok (.iload_n 1, 1) := by decide +kernel
theorem dX12_must_28 : decode cX12_must 28 = .ok (.iload_n 2, 1) := by decide +kernel
theorem dX12_must_29 : decode cX12_must 29 = .ok (.invokevirtual 394, 3) := by decide +kernel
theorem dX12_must_32 : decode cX12_must 32 = .ok (.ifCond .ne 5, 3) := by decide +kernel
theorem dX12_must_35 : decode cX12_must 35 = .ok (.iconst (-1), 1) := by decide +kernel
theorem dX12_must_36 : decode cX12_must 36 = .ok (.ireturn, 1) := by decide +kernel
theorem dX12_must_37 : decode cX12_must 37 = .ok (.iconst 0, 1) := by decide +kernel
theorem dX12_must_38 : decode cX12_must 38 = .ok (.istore 4, 2) := by decide +kernel
theorem dX12_must_40 : decode cX12_must 40 = .ok (.iload 4, 2) := by decide +kernel
theorem dX12_must_42 : decode cX12_must 42 = .ok (.sipush 1734, 3) := by decide +kernel
theorem dX12_must_45 : decode cX12_must 45 = .ok (.if_icmp .ge 34, 3) := by decide +kernel
theorem dX12_must_48 : decode cX12_must 48 = .ok (.aload_n 0, 1) := by decide +kernel
theorem dX12_must_49 : decode cX12_must 49 = .ok (.getfield 155, 3) := by decide +kernel
theorem dX12_must_52 : decode cX12_must 52 = .ok (.iload 4, 2) := by decide +kernel
theorem dX12_must_54 : decode cX12_must 54 = .ok (.iload 4, 2) := by decide +kernel
theorem dX12_must_56 : decode cX12_must 56 = .ok (.iconst 0, 1) := by decide +kernel
theorem dX12_must_57 : decode cX12_must 57 = .ok (.bipush 16, 2) := by decide +kernel
theorem dX12_must_59 : decode cX12_must 59 = .ok (.bipush 16, 2) := by decide +kernel
theorem dX12_must_61 : decode cX12_must 61 = .ok (.invokestatic 445, 3) := by decide +kernel
theorem dX12_must_64 : decode cX12_must 64 = .ok (.if_icmp .ne 7, 3) := by decide +kernel
theorem dX12_must_67 : decode cX12_must 67 = .ok (.iconst 1, 1) := by decide +kernel
theorem dX12_must_68 : decode cX12_must 68 = .ok (.goto 4, 3) := by decide +kernel
theorem dX12_must_71 : decode cX12_must 71 = .ok (.iconst 0, 1) := by decide +kernel
theorem dX12_must_72 : decode cX12_must 72 = .ok (.bastore, 1) := by decide +kernel
theorem dX12_must_73 : decode cX12_must 73 = .ok (.iinc 4 1, 3) := by decide +kernel
theorem dX12_must_76 : decode cX12_must 76 = .ok (.goto (-36), 3) := by decide +kernel
theorem dX12_must_79 : decode cX12_must 79 = .ok (.iconst 0, 1) := by decide +kernel
theorem dX12_must_80 : decode cX12_must 80 = .ok (.istore 4, 2) := by decide +kernel
theorem dX12_must_82 : decode cX12_must 82 = .ok (.iload 4, 2) := by decide +kernel
theorem dX12_must_84 : decode cX12_must 84 = .ok (.aload_n 0, 1) := by decide +kernel
theorem dX12_must_85 : decode cX12_must 85 = .ok (.getfield 321, 3) := by decide +kernel
theorem dX12_must_88 : decode cX12_must 88 = .ok (.if_icmp .ge 37, 3) := by decide +kernel
theorem dX12_must_91 : decode cX12_must 91 = .ok (.aload_n 0, 1) := by decide +kernel
theorem dX12_must_92 : decode cX12_must 92 = .ok (.getfield 29, 3) := by decide +kernel
theorem dX12_must_95 : decode cX12_must 95 = .ok (.aload_n 0, 1) := by decide +kernel
theorem dX12_must_96 : decode cX12_must 96 = .ok (.getfield 51, 3) := by decide +kernel
theorem dX12_must_99 : decode cX12_must 99 = .ok (.aload_n 0, 1) := by decide +kernel
theorem dX12_must_100 : decode cX12_must 100 = .ok (.getfield 105, 3) := by decide +kernel
theorem dX12_must_103 : decode cX12_must 103 = .ok (.iload 4, 2) := by decide +kernel
theorem dX12_must_105 : decode cX12_must 105 = .ok (.iaload, 1) := by decide +kernel
theorem dX12_must_106 : decode cX12_must 106 = .ok (.iaload, 1) := by decide +kernel
theorem dX12_must_107 : decode cX12_must 107 = .ok (.iaload, 1) := by decide +kernel
theorem dX12_must_108 : decode cX12_must 108 = .ok (.iload_n 3, 1) := by decide +kernel
theorem dX12_must_109 : decode cX12_must 109 = .ok (.if_icmp .ne 10, 3) := by decide +kernel
theorem dX12_must_112 : decode cX12_must 112 = .ok (.aload_n 0, 1) := by decide +kernel
theorem dX12_must_113 : decode cX12_must 113 = .ok (.iload 4, 2) := by decide +kernel
theorem dX12_must_115 : decode cX12_must 115 = .ok (.iload_n 3, 1) := by decide +kernel
theorem dX12_must_116 : decode cX12_must 116 = .ok (.invokevirtual 448, 3) := by decide +kernel
theorem dX12_must_119 : decode cX12_must 119 = .ok (.iinc 4 1, 3) := by decide +kernel
theorem dX12_must_122 : decode cX12_must 122 = .ok (.goto (-40), 3) := by decide +kernel
theorem dX12_must_125 : decode cX12_must 125 = .ok (.iconst 0, 1) := by decide +kernel
theorem dX12_must_126 : decode cX12_must 126 = .ok (.istore 4, 2) := by decide +kernel
theorem dX12_must_128 : decode cX12_must 128 = .ok (.iload 4, 2) := by decide +kernel
theorem dX12_must_130 : decode cX12_must 130 = .ok (.sipush 1734, 3) := by decide +kernel
theorem dX12_must_133 : decode cX12_must 133 = .ok (.if_icmp .ge 26, 3) := by decide +kernel
theorem dX12_must_136 : decode cX12_must 136 = .ok (.aload_n 0, 1) := by decide +kernel
theorem dX12_must_137 : decode cX12_must 137 = .ok (.getfield 155, 3) := by decide +kernel
theorem dX12_must_140 : decode cX12_must 140 = .ok (.iload 4, 2) := by decide +kernel
theorem dX12_must_142 : decode cX12_must 142 = .ok (.baload, 1) := by decide +kernel
theorem dX12_must_143 : decode cX12_must 143 = .ok (.ifCond .eq 10, 3) := by decide +kernel
theorem dX12_must_146 : decode cX12_must 146 = .ok (.iload 4, 2) := by decide +kernel
theorem dX12_must_148 : decode cX12_must 148 = .ok (.sipush 289, 3) := by decide +kernel
theorem dX12_must_151 : decode cX12_must 151 = .ok (.idiv, 1) := by decide +kernel
theorem dX12_must_152 : decode cX12_must 152 = .ok (.ireturn, 1) := by decide +kernel
theorem dX12_must_153 : decode cX12_must 153 = .ok (.iinc 4 1, 3) := by decide +kernel
theorem dX12_must_156 : decode cX12_must 156 = .ok (.goto (-28), 3) := by decide +kernel
theorem dX12_must_159 : decode cX12_must 159 = .ok (.bipush (-2), 2) := by decide +kernel
theorem dX12_must_161 : decode cX12_must 161 = .ok (.ireturn, 1) := by decide +kernel
theorem dX12_wayOf_0 : decode cX12_wayOf 0 = .ok (.iconst 0, 1) := by decide +kernel
theorem dX12_wayOf_1 : decode cX12_wayOf 1 = .ok (.istore_n 1, 1) := by decide +kernel
theorem dX12_wayOf_2 : decode cX12_wayOf 2 = .ok (.iload_n 1, 1) := by decide +kernel
theorem dX12_wayOf_3 : decode cX12_wayOf 3 = .ok (.aload_n 0, 1) := by decide +kernel
theorem dX12_wayOf_4 : decode cX12_wayOf 4 = .ok (.getfield 175, 3) := by decide +kernel
theorem dX12_wayOf_7 : decode cX12_wayOf 7 = .ok (.if_icmp .ge 49, 3) := by decide +kernel
theorem dX12_wayOf_10 : decode cX12_wayOf 10 = .ok (.aload_n 0, 1) := by decide +kernel
theorem dX12_wayOf_11 : decode cX12_wayOf 11 = .ok (.getfield 7, 3) := by decide +kernel
theorem dX12_wayOf_14 : decode cX12_wayOf 14 = .ok (.iload_n 1, 1) := by decide +kernel
theorem dX12_wayOf_15 : decode cX12_wayOf 15 = .ok (.baload, 1) := by decide +kernel
theorem dX12_wayOf_16 : decode cX12_wayOf 16 = .ok (.sipush 255, 3) := by decide +kernel
theorem dX12_wayOf_19 : decode cX12_wayOf 19 = .ok (.iand, 1) := by decide +kernel
theorem dX12_wayOf_20 : decode cX12_wayOf 20 = .ok (.istore_n 2, 1) := by decide +kernel
theorem dX12_wayOf_21 : decode cX12_wayOf 21 = .ok (.iload_n 2, 1) := by decide +kernel
theorem dX12_wayOf_22 : decode cX12_wayOf 22 = .ok (.bipush 6, 2) := by decide +kernel
theorem dX12_wayOf_24 : decode cX12_wayOf 24 = .ok (.if_icmp .eq 26, 3) := by decide +kernel
theorem dX12_wayOf_27 : decode cX12_wayOf 27 = .ok (.aload_n 0, 1) := by decide +kernel
theorem dX12_wayOf_28 : decode cX12_wayOf 28 = .ok (.iload_n 2, 1) := by decide +kernel
theorem dX12_wayOf_29 : decode cX12_wayOf 29 = .ok (.invokevirtual 193, 3) := by decide +kernel
theorem dX12_wayOf_32 : decode cX12_wayOf 32 = .ok (.ifCond .eq 12, 3) := by decide +kernel
theorem dX12_wayOf_35 : decode cX12_wayOf 35 = .ok (.aload_n 0, 1) := by decide +kernel
theorem dX12_wayOf_36 : decode cX12_wayOf 36 = .ok (.iload_n 1, 1) := by decide +kernel
theorem dX12_wayOf_37 : decode cX12_wayOf 37 = .ok (.iload_n 2, 1) := by decide +kernel
theorem dX12_wayOf_38 : decode cX12_wayOf 38 = .ok (.invokevirtual 330, 3) := by decide +kernel
theorem dX12_wayOf_41 : decode cX12_wayOf 41 = .ok (.ifCond .ne 9, 3) := by decide +kernel
theorem dX12_wayOf_44 : decode cX12_wayOf 44 = .ok (.ldc_w 451, 3) := by decide +kernel
theorem dX12_wayOf_47 : decode cX12_wayOf 47 = .ok (.iload_n 1, 1) := by decide +kernel
theorem dX12_wayOf_48 : decode cX12_wayOf 48 = .ok (.isub, 1) := by decide +kernel
theorem dX12_wayOf_49 : decode cX12_wayOf 49 = .ok (.ireturn, 1) := by decide +kernel
theorem dX12_wayOf_50 : decode cX12_wayOf 50 = .ok (.iinc 1 1, 3) := by decide +kernel
theorem dX12_wayOf_53 : decode cX12_wayOf 53 = .ok (.goto (-51), 3) := by decide +kernel
theorem dX12_wayOf_56 : decode cX12_wayOf 56 = .ok (.iconst 0, 1) := by decide +kernel
theorem dX12_wayOf_57 : decode cX12_wayOf 57 = .ok (.istore_n 1, 1) := by decide +kernel
theorem dX12_wayOf_58 : decode cX12_wayOf 58 = .ok (.iload_n 1, 1) := by decide +kernel
theorem dX12_wayOf_59 : decode cX12_wayOf 59 = .ok (.aload_n 0, 1) := by decide +kernel
theorem dX12_wayOf_60 : decode cX12_wayOf 60 = .ok (.getfield 172, 3) := by decide +kernel
theorem dX12_wayOf_63 : decode cX12_wayOf 63 = .ok (.if_icmp .ge 28, 3) := by decide +kernel
theorem dX12_wayOf_66 : decode cX12_wayOf 66 = .ok (.aload_n 0, 1) := by decide +kernel
theorem dX12_wayOf_67 : decode cX12_wayOf 67 = .ok (.iload_n 1, 1) := by decide +kernel
theorem dX12_wayOf_68 : decode cX12_wayOf 68 = .ok (.aload_n 0, 1) := by decide +kernel
theorem dX12_wayOf_69 : decode cX12_wayOf 69 = .ok (.iload_n 1, 1) := by decide +kernel
theorem dX12_wayOf_70 : decode cX12_wayOf 70 = .ok (.invokevirtual 452, 3) := by decide +kernel
theorem dX12_wayOf_73 : decode cX12_wayOf 73 = .ok (.invokevirtual 394, 3) := by decide +kernel
theorem dX12_wayOf_76 : decode cX12_wayOf 76 = .ok (.ifCond .ne 9, 3) := by decide +kernel
theorem dX12_wayOf_79 : decode cX12_wayOf 79 = .ok (.ldc_w 455, 3) := by decide +kernel
theorem dX12_wayOf_82 : decode cX12_wayOf 82 = .ok (.iload_n 1, 1) := by decide +kernel
theorem dX12_wayOf_83 : decode cX12_wayOf 83 = .ok (.isub, 1) := by decide +kernel
theorem dX12_wayOf_84 : decode cX12_wayOf 84 = .ok (.ireturn, 1) := by decide +kernel
theorem dX12_wayOf_85 : decode cX12_wayOf 85 = .ok (.iinc 1 1, 3) := by decide +kernel
theorem dX12_wayOf_88 : decode cX12_wayOf 88 = .ok (.goto (-30), 3) := by decide +kernel
theorem dX12_wayOf_91 : decode cX12_wayOf 91 = .ok (.iconst 0, 1) := by decide +kernel
theorem dX12_wayOf_92 : decode cX12_wayOf 92 = .ok (.ireturn, 1) := by decide +kernel
theorem dX12_setBy_0 : decode cX12_setBy 0 = .ok (.iconst 0, 1) := by decide +kernel
theorem dX12_setBy_1 : decode cX12_setBy 1 = .ok (.istore_n 2, 1) := by decide +kernel
theorem dX12_setBy_2 : decode cX12_setBy 2 = .ok (.iconst 0, 1) := by decide +kernel
theorem dX12_setBy_3 : decode cX12_setBy 3 = .ok (.istore_n 3, 1) := by decide +kernel
theorem dX12_setBy_4 : decode cX12_setBy 4 = .ok (.iload_n 3, 1) := by decide +kernel
theorem dX12_setBy_5 : decode cX12_setBy 5 = .ok (.aload_n 0, 1) := by decide +kernel
theorem dX12_setBy_6 : decode cX12_setBy 6 = .ok (.getfield 175, 3) := by decide +kernel
theorem dX12_setBy_9 : decode cX12_setBy 9 = .ok (.if_icmp .ge 33, 3) := by decide +kernel
theorem dX12_setBy_12 : decode cX12_setBy 12 = .ok (.iload_n 2, 1) := by decide +kernel
theorem dX12_setBy_13 : decode cX12_setBy 13 = .ok (.aload_n 0, 1) := by decide +kernel
theorem dX12_setBy_14 : decode cX12_setBy 14 = .ok (.getfield 7, 3) := by decide +kernel
theorem dX12_setBy_17 : decode cX12_setBy 17 = .ok (.iload_n 3, 1) := by decide +kernel
theorem dX12_setBy_18 : decode cX12_setBy 18 = .ok (.baload, 1) := by decide +kernel
theorem dX12_setBy_19 : decode cX12_setBy 19 = .ok (.sipush 255, 3) := by decide +kernel
theorem dX12_setBy_22 : decode cX12_setBy 22 = .ok (.iand, 1) := by decide +kernel
theorem dX12_setBy_23 : decode cX12_setBy 23 = .ok (.iload_n 1, 1) := by decide +kernel
theorem dX12_setBy_24 : decode cX12_setBy 24 = .ok (.if_icmp .ne 9, 3) := by decide +kernel
theorem dX12_setBy_27 : decode cX12_setBy 27 = .ok (.iconst 1, 1) := by decide +kernel
theorem dX12_setBy_28 : decode cX12_setBy 28 = .ok (.iload_n 3, 1) := by decide +kernel
theorem dX12_setBy_29 : decode cX12_setBy 29 = .ok (.ishl, 1) := by decide +kernel
theorem dX12_setBy_30 : decode cX12_setBy 30 = .ok (.goto 4, 3) := by decide +kernel
theorem dX12_setBy_33 : decode cX12_setBy 33 = .ok (.iconst 0, 1) := by decide +kernel
theorem dX12_setBy_34 : decode cX12_setBy 34 = .ok (.ior, 1) := by decide +kernel
theorem dX12_setBy_35 : decode cX12_setBy 35 = .ok (.istore_n 2, 1) := by decide +kernel
theorem dX12_setBy_36 : decode cX12_setBy 36 = .ok (.iinc 3 1, 3) := by decide +kernel
theorem dX12_setBy_39 : decode cX12_setBy 39 = .ok (.goto (-35), 3) := by decide +kernel
theorem dX12_setBy_42 : decode cX12_setBy 42 = .ok (.iload_n 2, 1) := by decide +kernel
theorem dX12_setBy_43 : decode cX12_setBy 43 = .ok (.ireturn, 1) := by decide +kernel
theorem dX12_wayPoints_0 : decode cX12_wayPoints 0 = .ok (.aload_n 0, 1) := by decide +kernel
theorem dX12_wayPoints_1 : decode cX12_wayPoints 1 = .ok (.getfield 26, 3) := by decide +kernel
theorem dX12_wayPoints_4 : decode cX12_wayPoints 4 = .ok (.ineg, 1) := by decide +kernel
theorem dX12_wayPoints_5 : decode cX12_wayPoints 5 = .ok (.aload_n 0, 1) := by decide +kernel
theorem dX12_wayPoints_6 : decode cX12_wayPoints 6 = .ok (.bipush 6, 2) := by decide +kernel
theorem dX12_wayPoints_8 : decode cX12_wayPoints 8 = .ok (.invokevirtual 452, 3) := by decide +kernel
theorem dX12_wayPoints_11 : decode cX12_wayPoints 11 = .ok (.invokestatic 408, 3) := by decide +kernel
theorem dX12_wayPoints_14 : decode cX12_wayPoints 14 = .ok (.imul, 1) := by decide +kernel
theorem dX12_wayPoints_15 : decode cX12_wayPoints 15 = .ok (.istore_n 1, 1) := by decide +kernel
theorem dX12_wayPoints_16 : decode cX12_wayPoints 16 = .ok (.iconst 0, 1) := by decide +kernel
theorem dX12_wayPoints_17 : decode cX12_wayPoints 17 = .ok (.istore_n 2, 1) := by decide +kernel
theorem dX12_wayPoints_18 : decode cX12_wayPoints 18 = .ok (.iload_n 2, 1) := by decide +kernel
theorem dX12_wayPoints_19 : decode cX12_wayPoints 19 = .ok (.aload_n 0, 1) := by decide +kernel
theorem dX12_wayPoints_20 : decode cX12_wayPoints 20 = .ok (.getfield 172, 3) := by decide +kernel
theorem dX12_wayPoints_23 : decode cX12_wayPoints 23 = .ok (.if_icmp .ge 22, 3) := by decide +kernel
theorem dX12_wayPoints_26 : decode cX12_wayPoints 26 = .ok (.iload_n 1, 1) := by decide +kernel
theorem dX12_wayPoints_27 : decode cX12_wayPoints 27 = .ok (.aload_n 0, 1) := by decide +kernel
theorem dX12_wayPoints_28 : decode cX12_wayPoints 28 = .ok (.iload_n 2, 1) := by decide +kernel
theorem dX12_wayPoints_29 : decode cX12_wayPoints 29 = .ok (.aload_n 0, 1) := by decide +kernel
theorem dX12_wayPoints_30 : decode cX12_wayPoints 30 = .ok (.iload_n 2, 1) := by decide +kernel
theorem dX12_wayPoints_31 : decode cX12_wayPoints 31 = .ok (.invokevirtual 452, 3) := by decide +kernel
theorem dX12_wayPoints_34 : decode cX12_wayPoints 34 = .ok (.invokevirtual 397, 3) := by decide +kernel
theorem dX12_wayPoints_37 : decode cX12_wayPoints 37 = .ok (.iadd, 1) := by decide +kernel
theorem dX12_wayPoints_38 : decode cX12_wayPoints 38 = .ok (.istore_n 1, 1) := by decide +kernel
theorem dX12_wayPoints_39 : decode cX12_wayPoints 39 = .ok (.iinc 2 1, 3) := by decide +kernel
theorem dX12_wayPoints_42 : decode cX12_wayPoints 42 = .ok (.goto (-24), 3) := by decide +kernel
theorem dX12_wayPoints_45 : decode cX12_wayPoints 45 = .ok (.iload_n 1, 1) := by decide +kernel
theorem dX12_wayPoints_46 : decode cX12_wayPoints 46 = .ok (.ireturn, 1) := by decide +kernel
theorem dX12_judge_0 : decode cX12_judge 0 = .ok (.aload_n 0, 1) := by decide +kernel
theorem dX12_judge_1 : decode cX12_judge 1 = .ok (.getfield 203, 3) := by decide +kernel
theorem dX12_judge_4 : decode cX12_judge 4 = .ok (.aload_n 0, 1) := by decide +kernel
theorem dX12_judge_5 : decode cX12_judge 5 = .ok (.getfield 175, 3) := by decide +kernel
theorem dX12_judge_8 : decode cX12_judge 8 = .ok (.if_icmp .ge 7, 3) := by decide +kernel
theorem dX12_judge_11 : decode cX12_judge 11 = .ok (.ldc_w 400, 3) := by decide +kernel
theorem dX12_judge_14 : decode cX12_judge 14 = .ok (.ireturn, 1) := by decide +kernel
theorem dX12_judge_15 : decode cX12_judge 15 = .ok (.aload_n 0, 1) := by decide +kernel
theorem dX12_judge_16 : decode cX12_judge 16 = .ok (.iconst 0, 1) := by decide +kernel
theorem dX12_judge_17 : decode cX12_judge 17 = .ok (.putfield 203, 3) := by decide +kernel
theorem dX12_judge_20 : decode cX12_judge 20 = .ok (.aload_n 0, 1) := by decide +kernel
theorem dX12_judge_21 : decode cX12_judge 21 = .ok (.invokevirtual 456, 3) := by decide +kernel
theorem dX12_judge_24 : decode cX12_judge 24 = .ok (.istore_n 1, 1) := by decide +kernel
theorem dX12_judge_25 : decode cX12_judge 25 = .ok (.iload_n 1, 1) := by decide +kernel
theorem dX12_judge_26 : decode cX12_judge 26 = .ok (.ifCond .ge 7, 3) := by decide +kernel
theorem dX12_judge_29 : decode cX12_judge 29 = .ok (.iload_n 1, 1) := by decide +kernel
theorem dX12_judge_30 : decode cX12_judge 30 = .ok (.goto 7, 3) := by decide +kernel
theorem dX12_judge_33 : decode cX12_judge 33 = .ok (.aload_n 0, 1) := by decide +kernel
theorem dX12_judge_34 : decode cX12_judge 34 = .ok (.invokevirtual 459, 3) := by decide +kernel
theorem dX12_judge_37 : decode cX12_judge 37 = .ok (.ireturn, 1) := by decide +kernel
theorem dX12_learnt_0 : decode cX12_learnt 0 = .ok (.iload_n 1, 1) := by decide +kernel
theorem dX12_learnt_1 : decode cX12_learnt 1 = .ok (.i2l, 1) := by decide +kernel
theorem dX12_learnt_2 : decode cX12_learnt 2 = .ok (.lconst 0, 1) := by decide +kernel
theorem dX12_learnt_3 : decode cX12_learnt 3 = .ok (.ldc2_w 316, 3) := by decide +kernel
theorem dX12_learnt_6 : decode cX12_learnt 6 = .ok (.invokestatic 164, 3) := by decide +kernel
theorem dX12_learnt_9 : decode cX12_learnt 9 = .ok (.ifCond .eq 69, 3) := by decide +kernel
theorem dX12_learnt_12 : decode cX12_learnt 12 = .ok (.iload_n 2, 1) := by decide +kernel
theorem dX12_learnt_13 : decode cX12_learnt 13 = .ok (.i2l, 1) := by decide +kernel
theorem dX12_learnt_14 : decode cX12_learnt 14 = .ok (.iload_n 1, 1) := by decide +kernel
theorem dX12_learnt_15 : decode cX12_learnt 15 = .ok (.i2l, 1) := by decide +kernel
theorem dX12_learnt_16 : decode cX12_learnt 16 = .ok (.ldc2_w 316, 3) := by decide +kernel
theorem dX12_learnt_19 : decode cX12_learnt 19 = .ok (.invokestatic 164, 3) := by decide +kernel
theorem dX12_learnt_22 : decode cX12_learnt 22 = .ok (.ifCond .eq 56, 3) := by decide +kernel
theorem dX12_learnt_25 : decode cX12_learnt 25 = .ok (.iload_n 3, 1) := by decide +kernel
theorem dX12_learnt_26 : decode cX12_learnt 26 = .ok (.i2l, 1) := by decide +kernel
theorem dX12_learnt_27 : decode cX12_learnt 27 = .ok (.lconst 0, 1) := by decide +kernel
theorem dX12_learnt_28 : decode cX12_learnt 28 = .ok (.ldc2_w 196, 3) := by decide +kernel
theorem dX12_learnt_31 : decode cX12_learnt 31 = .ok (.invokestatic 164, 3) := by decide +kernel
theorem dX12_learnt_34 : decode cX12_learnt 34 = .ok (.ifCond .eq 44, 3) := by decide +kernel
theorem dX12_learnt_37 : decode cX12_learnt 37 = .ok (.aload_n 0, 1) := by decide +kernel
theorem dX12_learnt_38 : decode cX12_learnt 38 = .ok (.getfield 69, 3) := by decide +kernel
theorem dX12_learnt_41 : decode cX12_learnt 41 = .ok (.iconst 0, 1) := by decide +kernel
theorem dX12_learnt_42 : decode cX12_learnt 42 = .ok (.iaload, 1) := by decide +kernel
theorem dX12_learnt_43 : decode cX12_learnt 43 = .ok (.aload_n 0, 1) := by decide +kernel
theorem dX12_learnt_44 : decode cX12_learnt 44 = .ok (.getfield 69, 3) := by decide +kernel
theorem dX12_learnt_47 : decode cX12_learnt 47 = .ok (.iconst 1, 1) := by decide +kernel
theorem dX12_learnt_48 : decode cX12_learnt 48 = .ok (.iaload, 1) := by decide +kernel
theorem dX12_learnt_49 : decode cX12_learnt 49 = .ok (.iadd, 1) := by decide +kernel
theorem dX12_learnt_50 : decode cX12_learnt 50 = .ok (.aload_n 0, 1) := by decide +kernel
theorem dX12_learnt_51 : decode cX12_learnt 51 = .ok (.getfield 69, 3) := by decide +kernel
theorem dX12_learnt_54 : decode cX12_learnt 54 = .ok (.iconst 2, 1) := by decide +kernel
theorem dX12_learnt_55 : decode cX12_learnt 55 = .ok (.iaload, 1) := by decide +kernel
theorem dX12_learnt_56 : decode cX12_learnt 56 = .ok (.iadd, 1) := by decide +kernel
theorem dX12_learnt_57 : decode cX12_learnt 57 = .ok (.aload_n 0, 1) := by decide +kernel
theorem dX12_learnt_58 : decode cX12_learnt 58 = .ok (.getfield 69, 3) := by decide +kernel
theorem dX12_learnt_61 : decode cX12_learnt 61 = .ok (.iconst 3, 1) := by decide +kernel
theorem dX12_learnt_62 : decode cX12_learnt 62 = .ok (.iaload, 1) := by decide +kernel
theorem dX12_learnt_63 : decode cX12_learnt 63 = .ok (.iadd, 1) := by decide +kernel
theorem dX12_learnt_64 : decode cX12_learnt 64 = .ok (.ifCond .eq 14, 3) := by decide +kernel
theorem dX12_learnt_67 : decode cX12_learnt 67 = .ok (.aload_n 0, 1) := by decide +kernel
theorem dX12_learnt_68 : decode cX12_learnt 68 = .ok (.getfield 203, 3) := by decide +kernel
theorem dX12_learnt_71 : decode cX12_learnt 71 = .ok (.aload_n 0, 1) := by decide +kernel
theorem dX12_learnt_72 : decode cX12_learnt 72 = .ok (.getfield 175, 3) := by decide +kernel
theorem dX12_learnt_75 : decode cX12_learnt 75 = .ok (.if_icmp .ge 7, 3) := by decide +kernel
theorem dX12_learnt_78 : decode cX12_learnt 78 = .ok (.ldc_w 400, 3) := by decide +kernel
theorem dX12_learnt_81 : decode cX12_learnt 81 = .ok (.ireturn, 1) := by decide +kernel
theorem dX12_learnt_82 : decode cX12_learnt 82 = .ok (.aload_n 0, 1) := by decide +kernel
theorem dX12_learnt_83 : decode cX12_learnt 83 = .ok (.iconst 0, 1) := by decide +kernel
theorem dX12_learnt_84 : decode cX12_learnt 84 = .ok (.putfield 203, 3) := by decide +kernel
theorem dX12_learnt_87 : decode cX12_learnt 87 = .ok (.aload_n 0, 1) := by decide +kernel
theorem dX12_learnt_88 : decode cX12_learnt 88 = .ok (.invokevirtual 456, 3) := by decide +kernel
theorem dX12_learnt_91 : decode cX12_learnt 91 = .ok (.ifCond .ge 7, 3) := by decide +kernel
theorem dX12_learnt_94 : decode cX12_learnt 94 = .ok (.ldc_w 451, 3) := by decide +kernel
theorem dX12_learnt_97 : decode cX12_learnt 97 = .ok (.ireturn, 1) := by decide +kernel
theorem dX12_learnt_98 : decode cX12_learnt 98 = .ok (.aload_n 0, 1) := by decide +kernel
theorem dX12_learnt_99 : decode cX12_learnt 99 = .ok (.getfield 13, 3) := by decide +kernel
theorem dX12_learnt_102 : decode cX12_learnt 102 = .ok (.istore 4, 2) := by decide +kernel
theorem dX12_learnt_104 : decode cX12_learnt 104 = .ok (.aload_n 0, 1) := by decide +kernel
theorem dX12_learnt_105 : decode cX12_learnt 105 = .ok (.getfield 17, 3) := by decide +kernel
theorem dX12_learnt_108 : decode cX12_learnt 108 = .ok (.istore 5, 2) := by decide +kernel
theorem dX12_learnt_110 : decode cX12_learnt 110 = .ok (.aload_n 0, 1) := by decide +kernel
theorem dX12_learnt_111 : decode cX12_learnt 111 = .ok (.getfield 20, 3) := by decide +kernel
theorem dX12_learnt_114 : decode cX12_learnt 114 = .ok (.istore 6, 2) := by decide +kernel
theorem dX12_learnt_116 : decode cX12_learnt 116 = .ok (.ldc_w 404, 3) := by decide +kernel
theorem dX12_learnt_119 : decode cX12_learnt 119 = .ok (.istore 7, 2) := by decide +kernel
theorem dX12_learnt_121 : decode cX12_learnt 121 = .ok (.iconst 0, 1) := by decide +kernel
theorem dX12_learnt_122 : decode cX12_learnt 122 = .ok (.istore 8, 2) := by decide +kernel
theorem dX12_learnt_124 : decode cX12_learnt 124 = .ok (.iconst 0, 1) := by decide +kernel
theorem dX12_learnt_125 : decode cX12_learnt 125 = .ok (.istore 9, 2) := by decide +kernel
theorem dX12_learnt_127 : decode cX12_learnt 127 = .ok (.iconst 0, 1) := by decide +kernel
theorem dX12_learnt_128 : decode cX12_learnt 128 = .ok (.istore 10, 2) := by decide +kernel
theorem dX12_learnt_130 : decode cX12_learnt 130 = .ok (.aload_n 0, 1) := by decide +kernel
theorem dX12_learnt_131 : decode cX12_learnt 131 = .ok (.iconst 0, 1) := by decide +kernel
theorem dX12_learnt_132 : decode cX12_learnt 132 = .ok (.putfield 13, 3) := by decide +kernel
theorem dX12_learnt_135 : decode cX12_learnt 135 = .ok (.aload_n 0, 1) := by decide +kernel
theorem dX12_learnt_136 : decode cX12_learnt 136 = .ok (.getfield 13, 3) := by decide +kernel
theorem dX12_learnt_139 : decode cX12_learnt 139 = .ok (.iconst 4, 1) := by decide +kernel
theorem dX12_learnt_140 : decode cX12_learnt 140 = .ok (.if_icmp .ge 130, 3) := by decide +kernel
theorem dX12_learnt_143 : decode cX12_learnt 143 = .ok (.aload_n 0, 1) := by decide +kernel
theorem dX12_learnt_144 : decode cX12_learnt 144 = .ok (.iconst 0, 1) := by decide +kernel
theorem dX12_learnt_145 : decode cX12_learnt 145 = .ok (.putfield 17, 3) := by decide +kernel
theorem dX12_learnt_148 : decode cX12_learnt 148 = .ok (.aload_n 0, 1) := by decide +kernel
theorem dX12_learnt_149 : decode cX12_learnt 149 = .ok (.getfield 17, 3) := by decide +kernel
theorem dX12_learnt_152 : decode cX12_learnt 152 = .ok (.iconst 4, 1) := by decide +kernel
theorem dX12_learnt_153 : decode cX12_learnt 153 = .ok (.if_icmp .ge 104, 3) := by decide +kernel
theorem dX12_learnt_156 : decode cX12_learnt 156 = .ok (.aload_n 0, 1) := by decide +kernel
theorem dX12_learnt_157 : decode cX12_learnt 157 = .ok (.iload_n 1, 1) := by decide +kernel
theorem dX12_learnt_158 : decode cX12_learnt 158 = .ok (.putfield 20, 3) := by decide +kernel
theorem dX12_learnt_161 : decode cX12_learnt 161 = .ok (.aload_n 0, 1) := by decide +kernel
theorem dX12_learnt_162 : decode cX12_learnt 162 = .ok (.getfield 20, 3) := by decide +kernel
theorem dX12_learnt_165 : decode cX12_learnt 165 = .ok (.iload_n 2, 1) := by decide +kernel
theorem dX12_learnt_166 : decode cX12_learnt 166 = .ok (.if_icmp .gt 78, 3) := by decide +kernel
theorem dX12_learnt_169 : decode cX12_learnt 169 = .ok (.aload_n 0, 1) := by decide +kernel
theorem dX12_learnt_170 : decode cX12_learnt 170 = .ok (.getfield 69, 3) := by decide +kernel
theorem dX12_learnt_173 : decode cX12_learnt 173 = .ok (.aload_n 0, 1) := by decide +kernel
theorem dX12_learnt_174 : decode cX12_learnt 174 = .ok (.getfield 13, 3) := by decide +kernel
theorem dX12_learnt_177 : decode cX12_learnt 177 = .ok (.iaload, 1) := by decide +kernel
theorem dX12_learnt_178 : decode cX12_learnt 178 = .ok (.ifCond .le 66, 3) := by decide +kernel
theorem dX12_learnt_181 : decode cX12_learnt 181 = .ok (.aload_n 0, 1) := by decide +kernel
theorem dX12_learnt_182 : decode cX12_learnt 182 = .ok (.getfield 69, 3) := by decide +kernel
theorem dX12_learnt_185 : decode cX12_learnt 185 = .ok (.aload_n 0, 1) := by decide +kernel
theorem dX12_learnt_186 : decode cX12_learnt 186 = .ok (.getfield 17, 3) := by decide +kernel
theorem dX12_learnt_189 : decode cX12_learnt 189 = .ok (.iaload, 1) := by decide +kernel
theorem dX12_learnt_190 : decode cX12_learnt 190 = .ok (.ifCond .le 54, 3) := by decide +kernel
theorem dX12_learnt_193 : decode cX12_learnt 193 = .ok (.aload_n 0, 1) := by decide +kernel
theorem dX12_learnt_194 : decode cX12_learnt 194 = .ok (.invokevirtual 459, 3) := by decide +kernel
theorem dX12_learnt_197 : decode cX12_learnt 197 = .ok (.istore 11, 2) := by decide +kernel
theorem dX12_learnt_199 : decode cX12_learnt 199 = .ok (.iload 11, 2) := by decide +kernel
theorem dX12_learnt_201 : decode cX12_learnt 201 = .ok (.iload 7, 2) := by decide +kernel
theorem dX12_learnt_203 : decode cX12_learnt 203 = .ok (.if_icmp .gt 6, 3) := by decide +kernel
theorem dX12_learnt_206 : decode cX12_learnt 206 = .ok (.goto 25, 3) := by decide +kernel
theorem dX12_learnt_209 : decode cX12_learnt 209 = .ok (.iload 11, 2) := by decide +kernel
theorem dX12_learnt_211 : decode cX12_learnt 211 = .ok (.istore 7, 2) := by decide +kernel
theorem dX12_learnt_213 : decode cX12_learnt 213 = .ok (.aload_n 0, 1) := by decide +kernel
theorem dX12_learnt_214 : decode cX12_learnt 214 = .ok (.getfield 13, 3) := by decide +kernel
theorem dX12_learnt_217 : decode cX12_learnt 217 = .ok (.istore 8, 2) := by decide +kernel
theorem dX12_learnt_219 : decode cX12_learnt 219 = .ok (.aload_n 0, 1) := by decide +kernel
theorem dX12_learnt_220 : decode cX12_learnt 220 = .ok (.getfield 17, 3) := by decide +kernel
theorem dX12_learnt_223 : decode cX12_learnt 223 = .ok (.istore 9, 2) := by decide +kernel
theorem dX12_learnt_225 : decode cX12_learnt 225 = .ok (.aload_n 0, 1) := by decide +kernel
theorem dX12_learnt_226 : decode cX12_learnt 226 = .ok (.getfield 20, 3) := by decide +kernel
theorem dX12_learnt_229 : decode cX12_learnt 229 = .ok (.istore 10, 2) := by decide +kernel
theorem dX12_learnt_231 : decode cX12_learnt 231 = .ok (.aload_n 0, 1) := by decide +kernel
theorem dX12_learnt_232 : decode cX12_learnt 232 = .ok (.dup, 1) := by decide +kernel
theorem dX12_learnt_233 : decode cX12_learnt 233 = .ok (.getfield 20, 3) := by decide +kernel
theorem dX12_learnt_236 : decode cX12_learnt 236 = .ok (.iconst 1, 1) := by decide +kernel
theorem dX12_learnt_237 : decode cX12_learnt 237 = .ok (.iadd, 1) := by decide +kernel
theorem dX12_learnt_238 : decode cX12_learnt 238 = .ok (.putfield 20, 3) := by decide +kernel
theorem dX12_learnt_241 : decode cX12_learnt 241 = .ok (.goto (-80), 3) := by decide +kernel
theorem dX12_learnt_244 : decode cX12_learnt 244 = .ok (.aload_n 0, 1) := by decide +kernel
theorem dX12_learnt_245 : decode cX12_learnt 245 = .ok (.dup, 1) := by decide +kernel
theorem dX12_learnt_246 : decode cX12_learnt 246 = .ok (.getfield 17, 3) := by decide +kernel
theorem dX12_learnt_249 : decode cX12_learnt 249 = .ok (.iconst 1, 1) := by decide +kernel
theorem dX12_learnt_250 : decode cX12_learnt 250 = .ok (.iadd, 1) := by decide +kernel
theorem dX12_learnt_251 : decode cX12_learnt 251 = .ok (.putfield 17, 3) := by decide +kernel
theorem dX12_learnt_254 : decode cX12_learnt 254 = .ok (.goto (-106), 3) := by decide +kernel
theorem dX12_learnt_257 : decode cX12_learnt 257 = .ok (.aload_n 0, 1) := by decide +kernel
theorem dX12_learnt_258 : decode cX12_learnt 258 = .ok (.dup, 1) := by decide +kernel
theorem dX12_learnt_259 : decode cX12_learnt 259 = .ok (.getfield 13, 3) := by decide +kernel
theorem dX12_learnt_262 : decode cX12_learnt 262 = .ok (.iconst 1, 1) := by decide +kernel
theorem dX12_learnt_263 : decode cX12_learnt 263 = .ok (.iadd, 1) := by decide +kernel
theorem dX12_learnt_264 : decode cX12_learnt 264 = .ok (.putfield 13, 3) := by decide +kernel
theorem dX12_learnt_267 : decode cX12_learnt 267 = .ok (.goto (-132), 3) := by decide +kernel
theorem dX12_learnt_270 : decode cX12_learnt 270 = .ok (.aload_n 0, 1) := by decide +kernel
theorem dX12_learnt_271 : decode cX12_learnt 271 = .ok (.iload 4, 2) := by decide +kernel
theorem dX12_learnt_273 : decode cX12_learnt 273 = .ok (.putfield 13, 3) := by decide +kernel
theorem dX12_learnt_276 : decode cX12_learnt 276 = .ok (.aload_n 0, 1) := by decide +kernel
theorem dX12_learnt_277 : decode cX12_learnt 277 = .ok (.iload 5, 2) := by decide +kernel
theorem dX12_learnt_279 : decode cX12_learnt 279 = .ok (.putfield 17, 3) := by decide +kernel
theorem dX12_learnt_282 : decode cX12_learnt 282 = .ok (.aload_n 0, 1) := by decide +kernel
theorem dX12_learnt_283 : decode cX12_learnt 283 = .ok (.iload 6, 2) := by decide +kernel
theorem dX12_learnt_285 : decode cX12_learnt 285 = .ok (.putfield 20, 3) := by decide +kernel
theorem dX12_learnt_288 : decode cX12_learnt 288 = .ok (.iload_n 3, 1) := by decide +kernel
theorem dX12_learnt_289 : decode cX12_learnt 289 = .ok (.ifCond .ne 8, 3) := by decide +kernel
theorem dX12_learnt_292 : decode cX12_learnt 292 = .ok (.iload 8, 2) := by decide +kernel
theorem dX12_learnt_294 : decode cX12_learnt 294 = .ok (.goto 25, 3) := by decide +kernel
theorem dX12_learnt_297 : decode cX12_learnt 297 = .ok (.iload_n 3, 1) := by decide +kernel
theorem dX12_learnt_298 : decode cX12_learnt 298 = .ok (.iconst 1, 1) := by decide +kernel
theorem dX12_learnt_299 : decode cX12_learnt 299 = .ok (.if_icmp .ne 8, 3) := by decide +kernel
theorem dX12_learnt_302 : decode cX12_learnt 302 = .ok (.iload 9, 2) := by decide +kernel
theorem dX12_learnt_304 : decode cX12_learnt 304 = .ok (.goto 15, 3) := by decide +kernel
theorem dX12_learnt_307 : decode cX12_learnt 307 = .ok (.iload_n 3, 1) := by decide +kernel
theorem dX12_learnt_308 : decode cX12_learnt 308 = .ok (.iconst 2, 1) := by decide +kernel
theorem dX12_learnt_309 : decode cX12_learnt 309 = .ok (.if_icmp .ne 8, 3) := by decide +kernel
theorem dX12_learnt_312 : decode cX12_learnt 312 = .ok (.iload 10, 2) := by decide +kernel
theorem dX12_learnt_314 : decode cX12_learnt 314 = .ok (.goto 5, 3) := by decide +kernel
theorem dX12_learnt_317 : decode cX12_learnt 317 = .ok (.iload 7, 2) := by decide +kernel
theorem dX12_learnt_319 : decode cX12_learnt 319 = .ok (.ireturn, 1) := by decide +kernel
theorem dX12_little_0 : decode cX12_little 0 = .ok (.iload_n 1, 1) := by decide +kernel
theorem dX12_little_1 : decode cX12_little 1 = .ok (.i2l, 1) := by decide +kernel
theorem dX12_little_2 : decode cX12_little 2 = .ok (.lconst 0, 1) := by decide +kernel
theorem dX12_little_3 : decode cX12_little 3 = .ok (.ldc2_w 201, 3) := by decide +kernel
theorem dX12_little_6 : decode cX12_little 6 = .ok (.invokestatic 164, 3) := by decide +kernel
theorem dX12_little_9 : decode cX12_little 9 = .ok (.ifCond .ne 5, 3) := by decide +kernel
theorem dX12_little_12 : decode cX12_little 12 = .ok (.iconst (-1), 1) := by decide +kernel
theorem dX12_little_13 : decode cX12_little 13 = .ok (.ireturn, 1) := by decide +kernel
theorem dX12_little_14 : decode cX12_little 14 = .ok (.aload_n 0, 1) := by decide +kernel
theorem dX12_little_15 : decode cX12_little 15 = .ok (.invokevirtual 437, 3) := by decide +kernel
theorem dX12_little_18 : decode cX12_little 18 = .ok (.iconst 0, 1) := by decide +kernel
theorem dX12_little_19 : decode cX12_little 19 = .ok (.istore_n 2, 1) := by decide +kernel
theorem dX12_little_20 : decode cX12_little 20 = .ok (.iconst 0, 1) := by decide +kernel
theorem dX12_little_21 : decode cX12_little 21 = .ok (.istore_n 3, 1) := by decide +kernel
theorem dX12_little_22 : decode cX12_little 22 = .ok (.iload_n 3, 1) := by decide +kernel
theorem dX12_little_23 : decode cX12_little 23 = .ok (.aload_n 0, 1) := by decide +kernel
theorem dX12_little_24 : decode cX12_little 24 = .ok (.getfield 175, 3) := by decide +kernel
theorem dX12_little_27 : decode cX12_little 27 = .ok (.if_icmp .ge 85, 3) := by decide +kernel
theorem dX12_little_30 : decode cX12_little 30 = .ok (.aload_n 0, 1) := by decide +kernel
theorem dX12_little_31 : decode cX12_little 31 = .ok (.getfield 152, 3) := by decide +kernel
theorem dX12_little_34 : decode cX12_little 34 = .ok (.iload_n 3, 1) := by decide +kernel
theorem dX12_little_35 : decode cX12_little 35 = .ok (.iaload, 1) := by decide +kernel
theorem dX12_little_36 : decode cX12_little 36 = .ok (.bipush 6, 2) := by decide +kernel
theorem dX12_little_38 : decode cX12_little 38 = .ok (.if_icmp .ne 6, 3) := by decide +kernel
theorem dX12_little_41 : decode cX12_little 41 = .ok (.goto 65, 3) := by decide +kernel
theorem dX12_little_44 : decode cX12_little 44 = .ok (.aload_n 0, 1) := by decide +kernel
theorem dX12_little_45 : decode cX12_little 45 = .ok (.getfield 152, 3) := by decide +kernel
theorem dX12_little_48 : decode cX12_little 48 = .ok (.iload_n 3, 1) := by decide +kernel
theorem dX12_little_49 : decode cX12_little 49 = .ok (.iaload, 1) := by decide +kernel
theorem dX12_little_50 : decode cX12_little 50 = .ok (.istore 4, 2) := by decide +kernel
theorem dX12_little_52 : decode cX12_little 52 = .ok (.aload_n 0, 1) := by decide +kernel
theorem dX12_little_53 : decode cX12_little 53 = .ok (.iload 4, 2) := by decide +kernel
theorem dX12_little_55 : decode cX12_little 55 = .ok (.aload_n 0, 1) := by decide +kernel
theorem dX12_little_56 : decode cX12_little 56 = .ok (.iload 4, 2) := by decide +kernel
theorem dX12_little_58 : decode cX12_little 58 = .ok (.invokevirtual 442, 3) := by decide +kernel
theorem dX12_little_61 : decode cX12_little 61 = .ok (.invokevirtual 397, 3) := by decide +kernel
theorem dX12_little_64 : decode cX12_little 64 = .ok (.aload_n 0, 1) := by decide +kernel
theorem dX12_little_65 : decode cX12_little 65 = .ok (.iload 4, 2) := by decide +kernel
theorem dX12_little_67 : decode cX12_little 67 = .ok (.aload_n 0, 1) := by decide +kernel
theorem dX12_little_68 : decode cX12_little 68 = .ok (.iload 4, 2) := by decide +kernel
theorem dX12_little_70 : decode cX12_little 70 = .ok (.invokevirtual 442, 3) := by decide +kernel
theorem dX12_little_73 : decode cX12_little 73 = .ok (.iconst 1, 1) := by decide +kernel
theorem dX12_little_74 : decode cX12_little 74 = .ok (.iload_n 3, 1) := by decide +kernel
theorem dX12_little_75 : decode cX12_little 75 = .ok (.ishl, 1) := by decide +kernel
theorem dX12_little_76 : decode cX12_little 76 = .ok (.iconst (-1), 1) := by decide +kernel
theorem dX12_little_77 : decode cX12_little 77 = .ok (.ixor, 1) := by decide +kernel
theorem dX12_little_78 : decode cX12_little 78 = .ok (.iand, 1) := by decide +kernel
theorem dX12_little_79 : decode cX12_little 79 = .ok (.invokevirtual 397, 3) := by decide +kernel
theorem dX12_little_82 : decode cX12_little 82 = .ok (.isub, 1) := by decide +kernel
theorem dX12_little_83 : decode cX12_little 83 = .ok (.aload_n 0, 1) := by decide +kernel
theorem dX12_little_84 : decode cX12_little 84 = .ok (.getfield 26, 3) := by decide +kernel
theorem dX12_little_87 : decode cX12_little 87 = .ok (.iadd, 1) := by decide +kernel
theorem dX12_little_88 : decode cX12_little 88 = .ok (.istore 5, 2) := by decide +kernel
theorem dX12_little_90 : decode cX12_little 90 = .ok (.iload_n 2, 1) := by decide +kernel
theorem dX12_little_91 : decode cX12_little 91 = .ok (.iload 5, 2) := by decide +kernel
theorem dX12_little_93 : decode cX12_little 93 = .ok (.iload_n 1, 1) := by decide +kernel
theorem dX12_little_94 : decode cX12_little 94 = .ok (.if_icmp .ge 9, 3) := by decide +kernel
theorem dX12_little_97 : decode cX12_little 97 = .ok (.iconst 1, 1) := by decide +kernel
theorem dX12_little_98 : decode cX12_little 98 = .ok (.iload_n 3, 1) := by decide +kernel
theorem dX12_little_99 : decode cX12_little 99 = .ok (.ishl, 1) := by decide +kernel
theorem dX12_little_100 : decode cX12_little 100 = .ok (.goto 4, 3) := by decide +kernel
theorem dX12_little_103 : decode cX12_little 103 = .ok (.iconst 0, 1) := by decide +kernel
theorem dX12_little_104 : decode cX12_little 104 = .ok (.ior, 1) := by decide +kernel
theorem dX12_little_105 : decode cX12_little 105 = .ok (.istore_n 2, 1) := by decide +kernel
theorem dX12_little_106 : decode cX12_little 106 = .ok (.iinc 3 1, 3) := by decide +kernel
theorem dX12_little_109 : decode cX12_little 109 = .ok (.goto (-87), 3) := by decide +kernel
theorem dX12_little_112 : decode cX12_little 112 = .ok (.iload_n 2, 1) := by decide +kernel
theorem dX12_little_113 : decode cX12_little 113 = .ok (.ireturn, 1) := by decide +kernel
theorem dX12_check_0 : decode cX12_check 0 = .ok (.aload_n 0, 1) := by decide +kernel
theorem dX12_check_1 : decode cX12_check 1 = .ok (.getfield 203, 3) := by decide +kernel
theorem dX12_check_4 : decode cX12_check 4 = .ok (.aload_n 0, 1) := by decide +kernel
theorem dX12_check_5 : decode cX12_check 5 = .ok (.getfield 175, 3) := by decide +kernel
theorem dX12_check_8 : decode cX12_check 8 = .ok (.if_icmp .ge 6, 3) := by decide +kernel
theorem dX12_check_11 : decode cX12_check 11 = .ok (.bipush (-2), 2) := by decide +kernel
theorem dX12_check_13 : decode cX12_check 13 = .ok (.ireturn, 1) := by decide +kernel
theorem dX12_check_14 : decode cX12_check 14 = .ok (.aload_n 0, 1) := by decide +kernel
theorem dX12_check_15 : decode cX12_check 15 = .ok (.iconst 0, 1) := by decide +kernel
theorem dX12_check_16 : decode cX12_check 16 = .ok (.putfield 203, 3) := by decide +kernel
theorem dX12_check_19 : decode cX12_check 19 = .ok (.aload_n 0, 1) := by decide +kernel
theorem dX12_check_20 : decode cX12_check 20 = .ok (.invokevirtual 437, 3) := by decide +kernel
theorem dX12_check_23 : decode cX12_check 23 = .ok (.iconst 0, 1) := by decide +kernel
theorem dX12_check_24 : decode cX12_check 24 = .ok (.istore_n 1, 1) := by decide +kernel
theorem dX12_check_25 : decode cX12_check 25 = .ok (.iload_n 1, 1) := by decide +kernel
theorem dX12_check_26 : decode cX12_check 26 = .ok (.aload_n 0, 1) := by decide +kernel
theorem dX12_check_27 : decode cX12_check 27 = .ok (.getfield 175, 3) := by decide +kernel
theorem dX12_check_30 : decode cX12_check 30 = .ok (.if_icmp .ge 30, 3) := by decide +kernel
theorem dX12_check_33 : decode cX12_check 33 = .ok (.aload_n 0, 1) := by decide +kernel
theorem dX12_check_34 : decode cX12_check 34 = .ok (.getfield 7, 3) := by decide +kernel
theorem dX12_check_37 : decode cX12_check 37 = .ok (.iload_n 1, 1) := by decide +kernel
theorem dX12_check_38 : decode cX12_check 38 = .ok (.baload, 1) := by decide +kernel
theorem dX12_check_39 : decode cX12_check 39 = .ok (.sipush 255, 3) := by decide +kernel
theorem dX12_check_42 : decode cX12_check 42 = .ok (.iand, 1) := by decide +kernel
theorem dX12_check_43 : decode cX12_check 43 = .ok (.aload_n 0, 1) := by decide +kernel
theorem dX12_check_44 : decode cX12_check 44 = .ok (.getfield 152, 3) := by decide +kernel
theorem dX12_check_47 : decode cX12_check 47 = .ok (.iload_n 1, 1) := by decide +kernel
theorem dX12_check_48 : decode cX12_check 48 = .ok (.iaload, 1) := by decide +kernel
theorem dX12_check_49 : decode cX12_check 49 = .ok (.if_icmp .eq 5, 3) := by decide +kernel
theorem dX12_check_52 : decode cX12_check 52 = .ok (.iload_n 1, 1) := by decide +kernel
theorem dX12_check_53 : decode cX12_check 53 = .ok (.ireturn, 1) := by decide +kernel
theorem dX12_check_54 : decode cX12_check 54 = .ok (.iinc 1 1, 3) := by decide +kernel
theorem dX12_check_57 : decode cX12_check 57 = .ok (.goto (-32), 3) := by decide +kernel
theorem dX12_check_60 : decode cX12_check 60 = .ok (.iconst (-1), 1) := by decide +kernel
theorem dX12_check_61 : decode cX12_check 61 = .ok (.ireturn, 1) := by decide +kernel
theorem dX12_look_0 : decode cX12_look 0 = .ok (.aload_n 0, 1) := by decide +kernel
theorem dX12_look_1 : decode cX12_look 1 = .ok (.iload_n 1, 1) := by decide +kernel
theorem dX12_look_2 : decode cX12_look 2 = .ok (.invokevirtual 198, 3) := by decide +kernel
theorem dX12_look_5 : decode cX12_look 5 = .ok (.ifCond .ne 5, 3) := by decide +kernel
theorem dX12_look_8 : decode cX12_look 8 = .ok (.iconst (-1), 1) := by decide +kernel
theorem dX12_look_9 : decode cX12_look 9 = .ok (.ireturn, 1) := by decide +kernel
theorem dX12_look_10 : decode cX12_look 10 = .ok (.iload_n 2, 1) := by decide +kernel
theorem dX12_look_11 : decode cX12_look 11 = .ok (.tableswitch 79 0 5 #[37, 44, 51, 58, 65, 72], 37) := by decide +kernel
theorem dX12_look_48 : decode cX12_look 48 = .ok (.aload_n 0, 1) := by decide +kernel
theorem dX12_look_49 : decode cX12_look 49 = .ok (.getfield 51, 3) := by decide +kernel
theorem dX12_look_52 : decode cX12_look 52 = .ok (.iload_n 1, 1) := by decide +kernel
theorem dX12_look_53 : decode cX12_look 53 = .ok (.iaload, 1) := by decide +kernel
theorem dX12_look_54 : decode cX12_look 54 = .ok (.ireturn, 1) := by decide +kernel
theorem dX12_look_55 : decode cX12_look 55 = .ok (.aload_n 0, 1) := by decide +kernel
theorem dX12_look_56 : decode cX12_look 56 = .ok (.getfield 54, 3) := by decide +kernel
theorem dX12_look_59 : decode cX12_look 59 = .ok (.iload_n 1, 1) := by decide +kernel
theorem dX12_look_60 : decode cX12_look 60 = .ok (.iaload, 1) := by decide +kernel
theorem dX12_look_61 : decode cX12_look 61 = .ok (.ireturn, 1) := by decide +kernel
theorem dX12_look_62 : decode cX12_look 62 = .ok (.aload_n 0, 1) := by decide +kernel
theorem dX12_look_63 : decode cX12_look 63 = .ok (.getfield 57, 3) := by decide +kernel
theorem dX12_look_66 : decode cX12_look 66 = .ok (.iload_n 1, 1) := by decide +kernel
theorem dX12_look_67 : decode cX12_look 67 = .ok (.iaload, 1) := by decide +kernel
theorem dX12_look_68 : decode cX12_look 68 = .ok (.ireturn, 1) := by decide +kernel
theorem dX12_look_69 : decode cX12_look 69 = .ok (.aload_n 0, 1) := by decide +kernel
theorem dX12_look_70 : decode cX12_look 70 = .ok (.getfield 60, 3) := by decide +kernel
theorem dX12_look_73 : decode cX12_look 73 = .ok (.iload_n 1, 1) := by decide +kernel
theorem dX12_look_74 : decode cX12_look 74 = .ok (.iaload, 1) := by decide +kernel
theorem dX12_look_75 : decode cX12_look 75 = .ok (.ireturn, 1) := by decide +kernel
theorem dX12_look_76 : decode cX12_look 76 = .ok (.aload_n 0, 1) := by decide +kernel
theorem dX12_look_77 : decode cX12_look 77 = .ok (.getfield 63, 3) := by decide +kernel
theorem dX12_look_80 : decode cX12_look 80 = .ok (.iload_n 1, 1) := by decide +kernel
theorem dX12_look_81 : decode cX12_look 81 = .ok (.iaload, 1) := by decide +kernel
theorem dX12_look_82 : decode cX12_look 82 = .ok (.ireturn, 1) := by decide +kernel
theorem dX12_look_83 : decode cX12_look 83 = .ok (.aload_n 0, 1) := by decide +kernel
theorem dX12_look_84 : decode cX12_look 84 = .ok (.getfield 66, 3) := by decide +kernel
theorem dX12_look_87 : decode cX12_look 87 = .ok (.iload_n 1, 1) := by decide +kernel
theorem dX12_look_88 : decode cX12_look 88 = .ok (.iaload, 1) := by decide +kernel
theorem dX12_look_89 : decode cX12_look 89 = .ok (.ireturn, 1) := by decide +kernel
theorem dX12_look_90 : decode cX12_look 90 = .ok (.iconst (-1), 1) := by decide +kernel
theorem dX12_look_91 : decode cX12_look 91 = .ok (.ireturn, 1) := by decide +kernel
theorem dX12_count_0 : decode cX12_count 0 = .ok (.iload_n 1, 1) := by decide +kernel
theorem dX12_count_1 : decode cX12_count 1 = .ok (.i2l, 1) := by decide +kernel
theorem dX12_count_2 : decode cX12_count 2 = .ok (.ldc2_w 462, 3) := by decide +kernel
theorem dX12_count_5 : decode cX12_count 5 = .ok (.ldc2_w 464, 3) := by decide +kernel
theorem dX12_count_8 : decode cX12_count 8 = .ok (.invokestatic 164, 3) := by decide +kernel
theorem dX12_count_11 : decode cX12_count 11 = .ok (.ifCond .eq 13, 3) := by decide +kernel
theorem dX12_count_14 : decode cX12_count 14 = .ok (.aload_n 0, 1) := by decide +kernel
theorem dX12_count_15 : decode cX12_count 15 = .ok (.getfield 69, 3) := by decide +kernel
theorem dX12_count_18 : decode cX12_count 18 = .ok (.iload_n 1, 1) := by decide +kernel
theorem dX12_count_19 : decode cX12_count 19 = .ok (.bipush 10, 2) := by decide +kernel
theorem dX12_count_21 : decode cX12_count 21 = .ok (.isub, 1) := by decide +kernel
theorem dX12_count_22 : decode cX12_count 22 = .ok (.iaload, 1) := by decide +kernel
theorem dX12_count_23 : decode cX12_count 23 = .ok (.ireturn, 1) := by decide +kernel
theorem dX12_count_24 : decode cX12_count 24 = .ok (.iload_n 1, 1) := by decide +kernel
theorem dX12_count_25 : decode cX12_count 25 = .ok (.tableswitch 78 0 6 #[43, 48, 53, 58, 63, 68, 73], 43) := by decide +kernel
theorem dX12_count_68 : decode cX12_count 68 = .ok (.aload_n 0, 1) := by decide +kernel
theorem dX12_count_69 : decode cX12_count 69 = .ok (.getfield 161, 3) := by decide +kernel
theorem dX12_count_72 : decode cX12_count 72 = .ok (.ireturn, 1) := by decide +kernel
theorem dX12_count_73 : decode cX12_count 73 = .ok (.aload_n 0, 1) := by decide +kernel
theorem dX12_count_74 : decode cX12_count 74 = .ok (.getfield 172, 3) := by decide +kernel
theorem dX12_count_77 : decode cX12_count 77 = .ok (.ireturn, 1) := by decide +kernel
theorem dX12_count_78 : decode cX12_count 78 = .ok (.aload_n 0, 1) := by decide +kernel
theorem dX12_count_79 : decode cX12_count 79 = .ok (.getfield 175, 3) := by decide +kernel
theorem dX12_count_82 : decode cX12_count 82 = .ok (.ireturn, 1) := by decide +kernel
theorem dX12_count_83 : decode cX12_count 83 = .ok (.aload_n 0, 1) := by decide +kernel
theorem dX12_count_84 : decode cX12_count 84 = .ok (.getfield 203, 3) := by decide +kernel
theorem dX12_count_87 : decode cX12_count 87 = .ok (.ireturn, 1) := by decide +kernel
theorem dX12_count_88 : decode cX12_count 88 = .ok (.aload_n 0, 1) := by decide +kernel
theorem dX12_count_89 : decode cX12_count 89 = .ok (.getfield 13, 3) := by decide +kernel
theorem dX12_count_92 : decode cX12_count 92 = .ok (.ireturn, 1) := by decide +kernel
theorem dX12_count_93 : decode cX12_count 93 = .ok (.aload_n 0, 1) := by decide +kernel
theorem dX12_count_94 : decode cX12_count 94 = .ok (.getfield 17, 3) := by decide +kernel
theorem dX12_count_97 : decode cX12_count 97 = .ok (.ireturn, 1) := by decide +kernel
theorem dX12_count_98 : decode cX12_count 98 = .ok (.aload_n 0, 1) := by decide +kernel
theorem dX12_count_99 : decode cX12_count 99 = .ok (.getfield 20, 3) := by decide +kernel
theorem dX12_count_102 : decode cX12_count 102 = .ok (.ireturn, 1) := by decide +kernel
theorem dX12_count_103 : decode cX12_count 103 = .ok (.iconst (-1), 1) := by decide +kernel
theorem dX12_count_104 : decode cX12_count 104 = .ok (.ireturn, 1) := by decide +kernel
