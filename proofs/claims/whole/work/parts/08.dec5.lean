theorem dX12_goesOn_129 : decode cX12_goesOn 129 = .ok (.iconst 1, 1) := by decide +kernel
theorem dX12_goesOn_130 : decode cX12_goesOn 130 = .ok (.aload_n 0, 1) := by decide +kernel
theorem dX12_goesOn_131 : decode cX12_goesOn 131 = .ok (.getfield 210, 3) := by decide +kernel
theorem dX12_goesOn_134 : decode cX12_goesOn 134 = .ok (.invokevirtual 232, 3) := by decide +kernel
theorem dX12_goesOn_137 : decode cX12_goesOn 137 = .ok (.aload_n 0, 1) := by decide +kernel
theorem dX12_goesOn_138 : decode cX12_goesOn 138 = .ok (.iload_n 1, 1) := by decide +kernel
theorem dX12_goesOn_139 : decode cX12_goesOn 139 = .ok (.invokevirtual 240, 3) := by decide +kernel
theorem dX12_goesOn_142 : decode cX12_goesOn 142 = .ok (.iconst 1, 1) := by decide +kernel
theorem dX12_goesOn_143 : decode cX12_goesOn 143 = .ok (.ireturn, 1) := by decide +kernel
theorem dX12_goesOn_144 : decode cX12_goesOn 144 = .ok (.aload_n 0, 1) := by decide +kernel
theorem dX12_goesOn_145 : decode cX12_goesOn 145 = .ok (.invokevirtual 250, 3) := by decide +kernel
theorem dX12_goesOn_148 : decode cX12_goesOn 148 = .ok (.invokestatic 278, 3) := by decide +kernel
theorem dX12_goesOn_151 : decode cX12_goesOn 151 = .ok (.ifCond .eq 25, 3) := by decide +kernel
theorem dX12_goesOn_154 : decode cX12_goesOn 154 = .ok (.aload_n 0, 1) := by decide +kernel
theorem dX12_goesOn_155 : decode cX12_goesOn 155 = .ok (.aload_n 0, 1) := by decide +kernel
theorem dX12_goesOn_156 : decode cX12_goesOn 156 = .ok (.invokevirtual 250, 3) := by decide +kernel
theorem dX12_goesOn_159 : decode cX12_goesOn 159 = .ok (.iconst 0, 1) := by decide +kernel
theorem dX12_goesOn_160 : decode cX12_goesOn 160 = .ok (.invokevirtual 259, 3) := by decide +kernel
theorem dX12_goesOn_163 : decode cX12_goesOn 163 = .ok (.aload_n 0, 1) := by decide +kernel
theorem dX12_goesOn_164 : decode cX12_goesOn 164 = .ok (.dup, 1) := by decide +kernel
theorem dX12_goesOn_165 : decode cX12_goesOn 165 = .ok (.getfield 226, 3) := by decide +kernel
theorem dX12_goesOn_168 : decode cX12_goesOn 168 = .ok (.iconst 1, 1) := by decide +kernel
theorem dX12_goesOn_169 : decode cX12_goesOn 169 = .ok (.isub, 1) := by decide +kernel
theorem dX12_goesOn_170 : decode cX12_goesOn 170 = .ok (.putfield 226, 3) := by decide +kernel
theorem dX12_goesOn_173 : decode cX12_goesOn 173 = .ok (.goto 12, 3) := by decide +kernel
theorem dX12_goesOn_176 : decode cX12_goesOn 176 = .ok (.aload_n 0, 1) := by decide +kernel
theorem dX12_goesOn_177 : decode cX12_goesOn 177 = .ok (.iconst 1, 1) := by decide +kernel
theorem dX12_goesOn_178 : decode cX12_goesOn 178 = .ok (.aload_n 0, 1) := by decide +kernel
theorem dX12_goesOn_179 : decode cX12_goesOn 179 = .ok (.getfield 210, 3) := by decide +kernel
theorem dX12_goesOn_182 : decode cX12_goesOn 182 = .ok (.invokevirtual 232, 3) := by decide +kernel
theorem dX12_goesOn_185 : decode cX12_goesOn 185 = .ok (.iconst 0, 1) := by decide +kernel
theorem dX12_goesOn_186 : decode cX12_goesOn 186 = .ok (.ireturn, 1) := by decide +kernel
theorem dX12_pieceOfC_0 : decode cX12_pieceOfC 0 = .ok (.aload_n 0, 1) := by decide +kernel
theorem dX12_pieceOfC_1 : decode cX12_pieceOfC 1 = .ok (.invokevirtual 219, 3) := by decide +kernel
theorem dX12_pieceOfC_4 : decode cX12_pieceOfC 4 = .ok (.ifCond .eq 28, 3) := by decide +kernel
theorem dX12_pieceOfC_7 : decode cX12_pieceOfC 7 = .ok (.aload_n 0, 1) := by decide +kernel
theorem dX12_pieceOfC_8 : decode cX12_pieceOfC 8 = .ok (.invokevirtual 236, 3) := by decide +kernel
theorem dX12_pieceOfC_11 : decode cX12_pieceOfC 11 = .ok (.bipush 33, 2) := by decide +kernel
theorem dX12_pieceOfC_13 : decode cX12_pieceOfC 13 = .ok (.if_icmp .eq 12, 3) := by decide +kernel
theorem dX12_pieceOfC_16 : decode cX12_pieceOfC 16 = .ok (.aload_n 0, 1) := by decide +kernel
theorem dX12_pieceOfC_17 : decode cX12_pieceOfC 17 = .ok (.invokevirtual 236, 3) := by decide +kernel
theorem dX12_pieceOfC_20 : decode cX12_pieceOfC 20 = .ok (.bipush 40, 2) := by decide +kernel
theorem dX12_pieceOfC_22 : decode cX12_pieceOfC 22 = .ok (.if_icmp .ne 10, 3) := by decide +kernel
theorem dX12_pieceOfC_25 : decode cX12_pieceOfC 25 = .ok (.aload_n 0, 1) := by decide +kernel
theorem dX12_pieceOfC_26 : decode cX12_pieceOfC 26 = .ok (.invokevirtual 262, 3) := by decide +kernel
theorem dX12_pieceOfC_29 : decode cX12_pieceOfC 29 = .ok (.goto (-29), 3) := by decide +kernel
theorem dX12_pieceOfC_32 : decode cX12_pieceOfC 32 = .ok (.iconst 1, 1) := by decide +kernel
theorem dX12_pieceOfC_33 : decode cX12_pieceOfC 33 = .ok (.istore_n 1, 1) := by decide +kernel
theorem dX12_pieceOfC_34 : decode cX12_pieceOfC 34 = .ok (.aload_n 0, 1) := by decide +kernel
theorem dX12_pieceOfC_35 : decode cX12_pieceOfC 35 = .ok (.iconst 0, 1) := by decide +kernel
theorem dX12_pieceOfC_36 : decode cX12_pieceOfC 36 = .ok (.putfield 275, 3) := by decide +kernel
theorem dX12_pieceOfC_39 : decode cX12_pieceOfC 39 = .ok (.iload_n 1, 1) := by decide +kernel
theorem dX12_pieceOfC_40 : decode cX12_pieceOfC 40 = .ok (.ifCond .eq 49, 3) := by decide +kernel
theorem dX12_pieceOfC_43 : decode cX12_pieceOfC 43 = .ok (.aload_n 0, 1) := by decide +kernel
theorem dX12_pieceOfC_44 : decode cX12_pieceOfC 44 = .ok (.invokevirtual 219, 3) := by decide +kernel
theorem dX12_pieceOfC_47 : decode cX12_pieceOfC 47 = .ok (.ifCond .eq 42, 3) := by decide +kernel
theorem dX12_pieceOfC_50 : decode cX12_pieceOfC 50 = .ok (.aload_n 0, 1) := by decide +kernel
theorem dX12_pieceOfC_51 : decode cX12_pieceOfC 51 = .ok (.getfield 275, 3) := by decide +kernel
theorem dX12_pieceOfC_54 : decode cX12_pieceOfC 54 = .ok (.ifCond .ne 7, 3) := by decide +kernel
theorem dX12_pieceOfC_57 : decode cX12_pieceOfC 57 = .ok (.aload_n 0, 1) := by decide +kernel
theorem dX12_pieceOfC_58 : decode cX12_pieceOfC 58 = .ok (.invokevirtual 281, 3) := by decide +kernel
theorem dX12_pieceOfC_61 : decode cX12_pieceOfC 61 = .ok (.aload_n 0, 1) := by decide +kernel
theorem dX12_pieceOfC_62 : decode cX12_pieceOfC 62 = .ok (.iconst 0, 1) := by decide +kernel
theorem dX12_pieceOfC_63 : decode cX12_pieceOfC 63 = .ok (.putfield 275, 3) := by decide +kernel
theorem dX12_pieceOfC_66 : decode cX12_pieceOfC 66 = .ok (.aload_n 0, 1) := by decide +kernel
theorem dX12_pieceOfC_67 : decode cX12_pieceOfC 67 = .ok (.invokevirtual 219, 3) := by decide +kernel
theorem dX12_pieceOfC_70 : decode cX12_pieceOfC 70 = .ok (.ifCond .eq 14, 3) := by decide +kernel
theorem dX12_pieceOfC_73 : decode cX12_pieceOfC 73 = .ok (.aload_n 0, 1) := by decide +kernel
theorem dX12_pieceOfC_74 : decode cX12_pieceOfC 74 = .ok (.invokevirtual 284, 3) := by decide +kernel
theorem dX12_pieceOfC_77 : decode cX12_pieceOfC 77 = .ok (.ifCond .eq 7, 3) := by decide +kernel
theorem dX12_pieceOfC_80 : decode cX12_pieceOfC 80 = .ok (.iconst 1, 1) := by decide +kernel
theorem dX12_pieceOfC_81 : decode cX12_pieceOfC 81 = .ok (.goto 4, 3) := by decide +kernel
theorem dX12_pieceOfC_84 : decode cX12_pieceOfC 84 = .ok (.iconst 0, 1) := by decide +kernel
theorem dX12_pieceOfC_85 : decode cX12_pieceOfC 85 = .ok (.istore_n 1, 1) := by decide +kernel
theorem dX12_pieceOfC_86 : decode cX12_pieceOfC 86 = .ok (.goto (-47), 3) := by decide +kernel
theorem dX12_pieceOfC_89 : decode cX12_pieceOfC 89 = .ok (.aload_n 0, 1) := by decide +kernel
theorem dX12_pieceOfC_90 : decode cX12_pieceOfC 90 = .ok (.invokevirtual 219, 3) := by decide +kernel
theorem dX12_pieceOfC_93 : decode cX12_pieceOfC 93 = .ok (.ifCond .eq 7, 3) := by decide +kernel
theorem dX12_pieceOfC_96 : decode cX12_pieceOfC 96 = .ok (.aload_n 0, 1) := by decide +kernel
theorem dX12_pieceOfC_97 : decode cX12_pieceOfC 97 = .ok (.invokevirtual 287, 3) := by decide +kernel
theorem dX12_pieceOfC_100 : decode cX12_pieceOfC 100 = .ok (.return_, 1) := by decide +kernel
theorem dX12_goesBehind_0 : decode cX12_goesBehind 0 = .ok (.aload_n 0, 1) := by decide +kernel
theorem dX12_goesBehind_1 : decode cX12_goesBehind 1 = .ok (.invokevirtual 236, 3) := by decide +kernel
theorem dX12_goesBehind_4 : decode cX12_goesBehind 4 = .ok (.istore_n 1, 1) := by decide +kernel
theorem dX12_goesBehind_5 : decode cX12_goesBehind 5 = .ok (.iload_n 1, 1) := by decide +kernel
theorem dX12_goesBehind_6 : decode cX12_goesBehind 6 = .ok (.bipush 38, 2) := by decide +kernel
theorem dX12_goesBehind_8 : decode cX12_goesBehind 8 = .ok (.if_icmp .eq 9, 3) := by decide +kernel
theorem dX12_goesBehind_11 : decode cX12_goesBehind 11 = .ok (.iload_n 1, 1) := by decide +kernel
theorem dX12_goesBehind_12 : decode cX12_goesBehind 12 = .ok (.bipush 124, 2) := by decide +kernel
theorem dX12_goesBehind_14 : decode cX12_goesBehind 14 = .ok (.if_icmp .ne 25, 3) := by decide +kernel
theorem dX12_goesBehind_17 : decode cX12_goesBehind 17 = .ok (.aload_n 0, 1) := by decide +kernel
theorem dX12_goesBehind_18 : decode cX12_goesBehind 18 = .ok (.iload_n 1, 1) := by decide +kernel
theorem dX12_goesBehind_19 : decode cX12_goesBehind 19 = .ok (.bipush 124, 2) := by decide +kernel
theorem dX12_goesBehind_21 : decode cX12_goesBehind 21 = .ok (.if_icmp .ne 7, 3) := by decide +kernel
theorem dX12_goesBehind_24 : decode cX12_goesBehind 24 = .ok (.iconst 1, 1) := by decide +kernel
theorem dX12_goesBehind_25 : decode cX12_goesBehind 25 = .ok (.goto 4, 3) := by decide +kernel
theorem dX12_goesBehind_28 : decode cX12_goesBehind 28 = .ok (.iconst 0, 1) := by decide +kernel
theorem dX12_goesBehind_29 : decode cX12_goesBehind 29 = .ok (.invokevirtual 290, 3) := by decide +kernel
theorem dX12_goesBehind_32 : decode cX12_goesBehind 32 = .ok (.aload_n 0, 1) := by decide +kernel
theorem dX12_goesBehind_33 : decode cX12_goesBehind 33 = .ok (.iload_n 1, 1) := by decide +kernel
theorem dX12_goesBehind_34 : decode cX12_goesBehind 34 = .ok (.invokevirtual 240, 3) := by decide +kernel
theorem dX12_goesBehind_37 : decode cX12_goesBehind 37 = .ok (.iconst 1, 1) := by decide +kernel
theorem dX12_goesBehind_38 : decode cX12_goesBehind 38 = .ok (.ireturn, 1) := by decide +kernel
theorem dX12_goesBehind_39 : decode cX12_goesBehind 39 = .ok (.iload_n 1, 1) := by decide +kernel
theorem dX12_goesBehind_40 : decode cX12_goesBehind 40 = .ok (.bipush 41, 2) := by decide +kernel
theorem dX12_goesBehind_42 : decode cX12_goesBehind 42 = .ok (.if_icmp .eq 14, 3) := by decide +kernel
theorem dX12_goesBehind_45 : decode cX12_goesBehind 45 = .ok (.aload_n 0, 1) := by decide +kernel
theorem dX12_goesBehind_46 : decode cX12_goesBehind 46 = .ok (.iconst 1, 1) := by decide +kernel
theorem dX12_goesBehind_47 : decode cX12_goesBehind 47 = .ok (.aload_n 0, 1) := by decide +kernel
theorem dX12_goesBehind_48 : decode cX12_goesBehind 48 = .ok (.getfield 210, 3) := by decide +kernel
theorem dX12_goesBehind_51 : decode cX12_goesBehind 51 = .ok (.invokevirtual 232, 3) := by decide +kernel
theorem dX12_goesBehind_54 : decode cX12_goesBehind 54 = .ok (.iconst 0, 1) := by decide +kernel
theorem dX12_goesBehind_55 : decode cX12_goesBehind 55 = .ok (.ireturn, 1) := by decide +kernel
theorem dX12_goesBehind_56 : decode cX12_goesBehind 56 = .ok (.aload_n 0, 1) := by decide +kernel
theorem dX12_goesBehind_57 : decode cX12_goesBehind 57 = .ok (.iconst 1, 1) := by decide +kernel
theorem dX12_goesBehind_58 : decode cX12_goesBehind 58 = .ok (.invokevirtual 290, 3) := by decide +kernel
theorem dX12_goesBehind_61 : decode cX12_goesBehind 61 = .ok (.aload_n 0, 1) := by decide +kernel
theorem dX12_goesBehind_62 : decode cX12_goesBehind 62 = .ok (.dup, 1) := by decide +kernel
theorem dX12_goesBehind_63 : decode cX12_goesBehind 63 = .ok (.getfield 226, 3) := by decide +kernel
theorem dX12_goesBehind_66 : decode cX12_goesBehind 66 = .ok (.iconst 1, 1) := by decide +kernel
theorem dX12_goesBehind_67 : decode cX12_goesBehind 67 = .ok (.isub, 1) := by decide +kernel
theorem dX12_goesBehind_68 : decode cX12_goesBehind 68 = .ok (.putfield 226, 3) := by decide +kernel
theorem dX12_goesBehind_71 : decode cX12_goesBehind 71 = .ok (.aload_n 0, 1) := by decide +kernel
theorem dX12_goesBehind_72 : decode cX12_goesBehind 72 = .ok (.dup, 1) := by decide +kernel
theorem dX12_goesBehind_73 : decode cX12_goesBehind 73 = .ok (.getfield 229, 3) := by decide +kernel
theorem dX12_goesBehind_76 : decode cX12_goesBehind 76 = .ok (.iconst 1, 1) := by decide +kernel
theorem dX12_goesBehind_77 : decode cX12_goesBehind 77 = .ok (.isub, 1) := by decide +kernel
theorem dX12_goesBehind_78 : decode cX12_goesBehind 78 = .ok (.putfield 229, 3) := by decide +kernel
theorem dX12_goesBehind_81 : decode cX12_goesBehind 81 = .ok (.aload_n 0, 1) := by decide +kernel
theorem dX12_goesBehind_82 : decode cX12_goesBehind 82 = .ok (.dup, 1) := by decide +kernel
theorem dX12_goesBehind_83 : decode cX12_goesBehind 83 = .ok (.getfield 210, 3) := by decide +kernel
theorem dX12_goesBehind_86 : decode cX12_goesBehind 86 = .ok (.iconst 1, 1) := by decide +kernel
theorem dX12_goesBehind_87 : decode cX12_goesBehind 87 = .ok (.iadd, 1) := by decide +kernel
theorem dX12_goesBehind_88 : decode cX12_goesBehind 88 = .ok (.putfield 210, 3) := by decide +kernel
theorem dX12_goesBehind_91 : decode cX12_goesBehind 91 = .ok (.aload_n 0, 1) := by decide +kernel
theorem dX12_goesBehind_92 : decode cX12_goesBehind 92 = .ok (.aload_n 0, 1) := by decide +kernel
theorem dX12_goesBehind_93 : decode cX12_goesBehind 93 = .ok (.getfield 226, 3) := by decide +kernel
theorem dX12_goesBehind_96 : decode cX12_goesBehind 96 = .ok (.ifCond .ne 7, 3) := by decide +kernel
theorem dX12_goesBehind_99 : decode cX12_goesBehind 99 = .ok (.iconst 1, 1) := by decide +kernel
theorem dX12_goesBehind_100 : decode cX12_goesBehind 100 = .ok (.goto 4, 3) := by decide +kernel
theorem dX12_goesBehind_103 : decode cX12_goesBehind 103 = .ok (.iconst 0, 1) := by decide +kernel
theorem dX12_goesBehind_104 : decode cX12_goesBehind 104 = .ok (.putfield 293, 3) := by decide +kernel
theorem dX12_goesBehind_107 : decode cX12_goesBehind 107 = .ok (.aload_n 0, 1) := by decide +kernel
theorem dX12_goesBehind_108 : decode cX12_goesBehind 108 = .ok (.getfield 293, 3) := by decide +kernel
theorem dX12_goesBehind_111 : decode cX12_goesBehind 111 = .ok (.ifCond .ne 7, 3) := by decide +kernel
theorem dX12_goesBehind_114 : decode cX12_goesBehind 114 = .ok (.aload_n 0, 1) := by decide +kernel
theorem dX12_goesBehind_115 : decode cX12_goesBehind 115 = .ok (.invokevirtual 287, 3) := by decide +kernel
theorem dX12_goesBehind_118 : decode cX12_goesBehind 118 = .ok (.iconst 0, 1) := by decide +kernel
theorem dX12_goesBehind_119 : decode cX12_goesBehind 119 = .ok (.ireturn, 1) := by decide +kernel
theorem dX12_condition_0 : decode cX12_condition 0 = .ok (.aload_n 0, 1) := by decide +kernel
theorem dX12_condition_1 : decode cX12_condition 1 = .ok (.iconst 0, 1) := by decide +kernel
theorem dX12_condition_2 : decode cX12_condition 2 = .ok (.putfield 226, 3) := by decide +kernel
theorem dX12_condition_5 : decode cX12_condition 5 = .ok (.aload_n 0, 1) := by decide +kernel
theorem dX12_condition_6 : decode cX12_condition 6 = .ok (.iconst 0, 1) := by decide +kernel
theorem dX12_condition_7 : decode cX12_condition 7 = .ok (.putfield 229, 3) := by decide +kernel
theorem dX12_condition_10 : decode cX12_condition 10 = .ok (.aload_n 0, 1) := by decide +kernel
theorem dX12_condition_11 : decode cX12_condition 11 = .ok (.iconst 0, 1) := by decide +kernel
theorem dX12_condition_12 : decode cX12_condition 12 = .ok (.putfield 293, 3) := by decide +kernel
theorem dX12_condition_15 : decode cX12_condition 15 = .ok (.aload_n 0, 1) := by decide +kernel
theorem dX12_condition_16 : decode cX12_condition 16 = .ok (.invokevirtual 236, 3) := by decide +kernel
theorem dX12_condition_19 : decode cX12_condition 19 = .ok (.bipush 40, 2) := by decide +kernel
theorem dX12_condition_21 : decode cX12_condition 21 = .ok (.if_icmp .eq 12, 3) := by decide +kernel
theorem dX12_condition_24 : decode cX12_condition 24 = .ok (.aload_n 0, 1) := by decide +kernel
theorem dX12_condition_25 : decode cX12_condition 25 = .ok (.iconst 1, 1) := by decide +kernel
theorem dX12_condition_26 : decode cX12_condition 26 = .ok (.aload_n 0, 1) := by decide +kernel
theorem dX12_condition_27 : decode cX12_condition 27 = .ok (.getfield 210, 3) := by decide +kernel
theorem dX12_condition_30 : decode cX12_condition 30 = .ok (.invokevirtual 232, 3) := by decide +kernel
theorem dX12_condition_33 : decode cX12_condition 33 = .ok (.aload_n 0, 1) := by decide +kernel
theorem dX12_condition_34 : decode cX12_condition 34 = .ok (.invokevirtual 219, 3) := by decide +kernel
theorem dX12_condition_37 : decode cX12_condition 37 = .ok (.ifCond .ne 4, 3) := by decide +kernel
theorem dX12_condition_40 : decode cX12_condition 40 = .ok (.return_, 1) := by decide +kernel
theorem dX12_condition_41 : decode cX12_condition 41 = .ok (.aload_n 0, 1) := by decide +kernel
theorem dX12_condition_42 : decode cX12_condition 42 = .ok (.invokevirtual 262, 3) := by decide +kernel
theorem dX12_condition_45 : decode cX12_condition 45 = .ok (.iconst 1, 1) := by decide +kernel
theorem dX12_condition_46 : decode cX12_condition 46 = .ok (.istore_n 1, 1) := by decide +kernel
theorem dX12_condition_47 : decode cX12_condition 47 = .ok (.aload_n 0, 1) := by decide +kernel
theorem dX12_condition_48 : decode cX12_condition 48 = .ok (.invokevirtual 219, 3) := by decide +kernel
theorem dX12_condition_51 : decode cX12_condition 51 = .ok (.ifCond .eq 33, 3) := by decide +kernel
theorem dX12_condition_54 : decode cX12_condition 54 = .ok (.aload_n 0, 1) := by decide +kernel
theorem dX12_condition_55 : decode cX12_condition 55 = .ok (.getfield 293, 3) := by decide +kernel
theorem dX12_condition_58 : decode cX12_condition 58 = .ok (.ifCond .ne 26, 3) := by decide +kernel
theorem dX12_condition_61 : decode cX12_condition 61 = .ok (.iload_n 1, 1) := by decide +kernel
theorem dX12_condition_62 : decode cX12_condition 62 = .ok (.ifCond .eq 7, 3) := by decide +kernel
theorem dX12_condition_65 : decode cX12_condition 65 = .ok (.aload_n 0, 1) := by decide +kernel
theorem dX12_condition_66 : decode cX12_condition 66 = .ok (.invokevirtual 296, 3) := by decide +kernel
theorem dX12_condition_69 : decode cX12_condition 69 = .ok (.aload_n 0, 1) := by decide +kernel
theorem dX12_condition_70 : decode cX12_condition 70 = .ok (.invokevirtual 219, 3) := by decide +kernel
theorem dX12_condition_73 : decode cX12_condition 73 = .ok (.ifCond .eq (-26), 3) := by decide +kernel
theorem dX12_condition_76 : decode cX12_condition 76 = .ok (.aload_n 0, 1) := by decide +kernel
theorem dX12_condition_77 : decode cX12_condition 77 = .ok (.invokevirtual 299, 3) := by decide +kernel
theorem dX12_condition_80 : decode cX12_condition 80 = .ok (.istore_n 1, 1) := by decide +kernel
theorem dX12_condition_81 : decode cX12_condition 81 = .ok (.goto (-34), 3) := by decide +kernel
theorem dX12_condition_84 : decode cX12_condition 84 = .ok (.return_, 1) := by decide +kernel
theorem dX12_isClause_0 : decode cX12_isClause 0 = .ok (.iload_n 0, 1) := by decide +kernel
theorem dX12_isClause_1 : decode cX12_isClause 1 = .ok (.bipush 70, 2) := by decide +kernel
theorem dX12_isClause_3 : decode cX12_isClause 3 = .ok (.if_icmp .eq 45, 3) := by decide +kernel
theorem dX12_isClause_6 : decode cX12_isClause 6 = .ok (.iload_n 0, 1) := by decide +kernel
theorem dX12_isClause_7 : decode cX12_isClause 7 = .ok (.bipush 102, 2) := by decide +kernel
theorem dX12_isClause_9 : decode cX12_isClause 9 = .ok (.if_icmp .eq 39, 3) := by decide +kernel
theorem dX12_isClause_12 : decode cX12_isClause 12 = .ok (.iload_n 0, 1) := by decide +kernel
theorem dX12_isClause_13 : decode cX12_isClause 13 = .ok (.bipush 77, 2) := by decide +kernel
theorem dX12_isClause_15 : decode cX12_isClause 15 = .ok (.if_icmp .eq 33, 3) := by decide +kernel
theorem dX12_isClause_18 : decode cX12_isClause 18 = .ok (.iload_n 0, 1) := by decide +kernel
theorem dX12_isClause_19 : decode cX12_isClause 19 = .ok (.bipush 109, 2) := by decide +kernel
theorem dX12_isClause_21 : decode cX12_isClause 21 = .ok (.if_icmp .eq 27, 3) := by decide +kernel
theorem dX12_isClause_24 : decode cX12_isClause 24 = .ok (.iload_n 0, 1) := by decide +kernel
theorem dX12_isClause_25 : decode cX12_isClause 25 = .ok (.bipush 80, 2) := by decide +kernel
theorem dX12_isClause_27 : decode cX12_isClause 27 = .ok (.if_icmp .eq 21, 3) := by decide +kernel
theorem dX12_isClause_30 : decode cX12_isClause 30 = .ok (.iload_n 0, 1) := by decide +kernel
theorem dX12_isClause_31 : decode cX12_isClause 31 = .ok (.bipush 81, 2) := by decide +kernel
theorem dX12_isClause_33 : decode cX12_isClause 33 = .ok (.if_icmp .eq 15, 3) := by decide +kernel
theorem dX12_isClause_36 : decode cX12_isClause 36 = .ok (.iload_n 0, 1) := by decide +kernel
theorem dX12_isClause_37 : decode cX12_isClause 37 = .ok (.bipush 83, 2) := by decide +kernel
theorem dX12_isClause_39 : decode cX12_isClause 39 = .ok (.if_icmp .eq 9, 3) := by decide +kernel
theorem dX12_isClause_42 : decode cX12_isClause 42 = .ok (.iload_n 0, 1) := by decide +kernel
theorem dX12_isClause_43 : decode cX12_isClause 43 = .ok (.bipush 68, 2) := by decide +kernel
theorem dX12_isClause_45 : decode cX12_isClause 45 = .ok (.if_icmp .ne 7, 3) := by decide +kernel
theorem dX12_isClause_48 : decode cX12_isClause 48 = .ok (.iconst 1, 1) := by decide +kernel
theorem dX12_isClause_49 : decode cX12_isClause 49 = .ok (.goto 4, 3) := by decide +kernel
theorem dX12_isClause_52 : decode cX12_isClause 52 = .ok (.iconst 0, 1) := by decide +kernel
theorem dX12_isClause_53 : decode cX12_isClause 53 = .ok (.ireturn, 1) := by decide +kernel
theorem dX12_clause_0 : decode cX12_clause 0 = .ok (.aload_n 0, 1) := by decide +kernel
theorem dX12_clause_1 : decode cX12_clause 1 = .ok (.invokevirtual 236, 3) := by decide +kernel
theorem dX12_clause_4 : decode cX12_clause 4 = .ok (.istore_n 1, 1) := by decide +kernel
theorem dX12_clause_5 : decode cX12_clause 5 = .ok (.iload_n 1, 1) := by decide +kernel
theorem dX12_clause_6 : decode cX12_clause 6 = .ok (.invokestatic 302, 3) := by decide +kernel
theorem dX12_clause_9 : decode cX12_clause 9 = .ok (.ifCond .ne 15, 3) := by decide +kernel
theorem dX12_clause_12 : decode cX12_clause 12 = .ok (.aload_n 0, 1) := by decide +kernel
theorem dX12_clause_13 : decode cX12_clause 13 = .ok (.iconst 1, 1) := by decide +kernel
theorem dX12_clause_14 : decode cX12_clause 14 = .ok (.aload_n 0, 1) := by decide +kernel
theorem dX12_clause_15 : decode cX12_clause 15 = .ok (.getfield 210, 3) := by decide +kernel
theorem dX12_clause_18 : decode cX12_clause 18 = .ok (.invokevirtual 232, 3) := by decide +kernel
theorem dX12_clause_21 : decode cX12_clause 21 = .ok (.goto 21, 3) := by decide +kernel
theorem dX12_clause_24 : decode cX12_clause 24 = .ok (.aload_n 0, 1) := by decide +kernel
theorem dX12_clause_25 : decode cX12_clause 25 = .ok (.getfield 305, 3) := by decide +kernel
theorem dX12_clause_28 : decode cX12_clause 28 = .ok (.bipush 12, 2) := by decide +kernel
theorem dX12_clause_30 : decode cX12_clause 30 = .ok (.if_icmp .ne 12, 3) := by decide +kernel
theorem dX12_clause_33 : decode cX12_clause 33 = .ok (.aload_n 0, 1) := by decide +kernel
theorem dX12_clause_34 : decode cX12_clause 34 = .ok (.iconst 4, 1) := by decide +kernel
theorem dX12_clause_35 : decode cX12_clause 35 = .ok (.aload_n 0, 1) := by decide +kernel
theorem dX12_clause_36 : decode cX12_clause 36 = .ok (.getfield 210, 3) := by decide +kernel
theorem dX12_clause_39 : decode cX12_clause 39 = .ok (.invokevirtual 232, 3) := by decide +kernel
theorem dX12_clause_42 : decode cX12_clause 42 = .ok (.aload_n 0, 1) := by decide +kernel
theorem dX12_clause_43 : decode cX12_clause 43 = .ok (.invokevirtual 219, 3) := by decide +kernel
theorem dX12_clause_46 : decode cX12_clause 46 = .ok (.ifCond .ne 4, 3) := by decide +kernel
theorem dX12_clause_49 : decode cX12_clause 49 = .ok (.return_, 1) := by decide +kernel
theorem dX12_clause_50 : decode cX12_clause 50 = .ok (.aload_n 0, 1) := by decide +kernel
theorem dX12_clause_51 : decode cX12_clause 51 = .ok (.getfield 87, 3) := by decide +kernel
theorem dX12_clause_54 : decode cX12_clause 54 = .ok (.aload_n 0, 1) := by decide +kernel
theorem dX12_clause_55 : decode cX12_clause 55 = .ok (.getfield 305, 3) := by decide +kernel
theorem dX12_clause_58 : decode cX12_clause 58 = .ok (.iload_n 1, 1) := by decide +kernel
theorem dX12_clause_59 : decode cX12_clause 59 = .ok (.iastore, 1) := by decide +kernel
theorem dX12_clause_60 : decode cX12_clause 60 = .ok (.aload_n 0, 1) := by decide +kernel
theorem dX12_clause_61 : decode cX12_clause 61 = .ok (.getfield 90, 3) := by decide +kernel
theorem dX12_clause_64 : decode cX12_clause 64 = .ok (.aload_n 0, 1) := by decide +kernel
theorem dX12_clause_65 : decode cX12_clause 65 = .ok (.getfield 305, 3) := by decide +kernel
theorem dX12_clause_68 : decode cX12_clause 68 = .ok (.aload_n 0, 1) := by decide +kernel
theorem dX12_clause_69 : decode cX12_clause 69 = .ok (.getfield 223, 3) := by decide +kernel
theorem dX12_clause_72 : decode cX12_clause 72 = .ok (.iastore, 1) := by decide +kernel
theorem dX12_clause_73 : decode cX12_clause 73 = .ok (.aload_n 0, 1) := by decide +kernel
theorem dX12_clause_74 : decode cX12_clause 74 = .ok (.dup, 1) := by decide +kernel
theorem dX12_clause_75 : decode cX12_clause 75 = .ok (.getfield 210, 3) := by decide +kernel
theorem dX12_clause_78 : decode cX12_clause 78 = .ok (.iconst 1, 1) := by decide +kernel
theorem dX12_clause_79 : decode cX12_clause 79 = .ok (.iadd, 1) := by decide +kernel
theorem dX12_clause_80 : decode cX12_clause 80 = .ok (.putfield 210, 3) := by decide +kernel
theorem dX12_clause_83 : decode cX12_clause 83 = .ok (.aload_n 0, 1) := by decide +kernel
theorem dX12_clause_84 : decode cX12_clause 84 = .ok (.invokevirtual 308, 3) := by decide +kernel
theorem dX12_clause_87 : decode cX12_clause 87 = .ok (.aload_n 0, 1) := by decide +kernel
theorem dX12_clause_88 : decode cX12_clause 88 = .ok (.getfield 93, 3) := by decide +kernel
theorem dX12_clause_91 : decode cX12_clause 91 = .ok (.aload_n 0, 1) := by decide +kernel
theorem dX12_clause_92 : decode cX12_clause 92 = .ok (.getfield 305, 3) := by decide +kernel
theorem dX12_clause_95 : decode cX12_clause 95 = .ok (.aload_n 0, 1) := by decide +kernel
theorem dX12_clause_96 : decode cX12_clause 96 = .ok (.getfield 223, 3) := by decide +kernel
theorem dX12_clause_99 : decode cX12_clause 99 = .ok (.iastore, 1) := by decide +kernel
theorem dX12_clause_100 : decode cX12_clause 100 = .ok (.aload_n 0, 1) := by decide +kernel
theorem dX12_clause_101 : decode cX12_clause 101 = .ok (.dup, 1) := by decide +kernel
theorem dX12_clause_102 : decode cX12_clause 102 = .ok (.getfield 305, 3) := by decide +kernel
theorem dX12_clause_105 : decode cX12_clause 105 = .ok (.iconst 1, 1) := by decide +kernel
theorem dX12_clause_106 : decode cX12_clause 106 = .ok (.iadd, 1) := by decide +kernel
theorem dX12_clause_107 : decode cX12_clause 107 = .ok (.putfield 305, 3) := by decide +kernel
theorem dX12_clause_110 : decode cX12_clause 110 = .ok (.return_, 1) := by decide +kernel
theorem dX12_custom_0 : decode cX12_custom 0 = .ok (.iload_n 1, 1) := by decide +kernel
theorem dX12_custom_1 : decode cX12_custom 1 = .ok (.i2l, 1) := by decide +kernel
theorem dX12_custom_2 : decode cX12_custom 2 = .ok (.lconst 0, 1) := by decide +kernel
theorem dX12_custom_3 : decode cX12_custom 3 = .ok (.ldc2_w 196, 3) := by decide +kernel
theorem dX12_custom_6 : decode cX12_custom 6 = .ok (.invokestatic 164, 3) := by decide +kernel
theorem dX12_custom_9 : decode cX12_custom 9 = .ok (.ifCond .eq 23, 3) := by decide +kernel
theorem dX12_custom_12 : decode cX12_custom 12 = .ok (.iload_n 2, 1) := by decide +kernel
theorem dX12_custom_13 : decode cX12_custom 13 = .ok (.i2l, 1) := by decide +kernel
theorem dX12_custom_14 : decode cX12_custom 14 = .ok (.lconst 1, 1) := by decide +kernel
theorem dX12_custom_15 : decode cX12_custom 15 = .ok (.ldc2_w 311, 3) := by decide +kernel
theorem dX12_custom_18 : decode cX12_custom 18 = .ok (.invokestatic 164, 3) := by decide +kernel
theorem dX12_custom_21 : decode cX12_custom 21 = .ok (.ifCond .eq 11, 3) := by decide +kernel
theorem dX12_custom_24 : decode cX12_custom 24 = .ok (.iload_n 2, 1) := by decide +kernel
theorem dX12_custom_25 : decode cX12_custom 25 = .ok (.aload_n 0, 1) := by decide +kernel
theorem dX12_custom_26 : decode cX12_custom 26 = .ok (.getfield 203, 3) := by decide +kernel
theorem dX12_custom_29 : decode cX12_custom 29 = .ok (.if_icmp .le 5, 3) := by decide +kernel
theorem dX12_custom_32 : decode cX12_custom 32 = .ok (.iconst (-1), 1) := by decide +kernel
theorem dX12_custom_33 : decode cX12_custom 33 = .ok (.ireturn, 1) := by decide +kernel
theorem dX12_custom_34 : decode cX12_custom 34 = .ok (.aload_n 0, 1) := by decide +kernel
theorem dX12_custom_35 : decode cX12_custom 35 = .ok (.iconst 0, 1) := by decide +kernel
theorem dX12_custom_36 : decode cX12_custom 36 = .ok (.putfield 203, 3) := by decide +kernel
theorem dX12_custom_39 : decode cX12_custom 39 = .ok (.aload_n 0, 1) := by decide +kernel
theorem dX12_custom_40 : decode cX12_custom 40 = .ok (.iconst 0, 1) := by decide +kernel
theorem dX12_custom_41 : decode cX12_custom 41 = .ok (.putfield 210, 3) := by decide +kernel
theorem dX12_custom_44 : decode cX12_custom 44 = .ok (.aload_n 0, 1) := by decide +kernel
theorem dX12_custom_45 : decode cX12_custom 45 = .ok (.iload_n 2, 1) := by decide +kernel
theorem dX12_custom_46 : decode cX12_custom 46 = .ok (.putfield 213, 3) := by decide +kernel
theorem dX12_custom_49 : decode cX12_custom 49 = .ok (.aload_n 0, 1) := by decide +kernel
theorem dX12_custom_50 : decode cX12_custom 50 = .ok (.iconst 0, 1) := by decide +kernel
theorem dX12_custom_51 : decode cX12_custom 51 = .ok (.putfield 216, 3) := by decide +kernel
theorem dX12_custom_54 : decode cX12_custom 54 = .ok (.aload_n 0, 1) := by decide +kernel
theorem dX12_custom_55 : decode cX12_custom 55 = .ok (.iconst 0, 1) := by decide +kernel
theorem dX12_custom_56 : decode cX12_custom 56 = .ok (.putfield 305, 3) := by decide +kernel
theorem dX12_custom_59 : decode cX12_custom 59 = .ok (.aload_n 0, 1) := by decide +kernel
theorem dX12_custom_60 : decode cX12_custom 60 = .ok (.iconst 0, 1) := by decide +kernel
theorem dX12_custom_61 : decode cX12_custom 61 = .ok (.putfield 223, 3) := by decide +kernel
theorem dX12_custom_64 : decode cX12_custom 64 = .ok (.iconst 1, 1) := by decide +kernel
theorem dX12_custom_65 : decode cX12_custom 65 = .ok (.istore_n 3, 1) := by decide +kernel
theorem dX12_custom_66 : decode cX12_custom 66 = .ok (.iload_n 3, 1) := by decide +kernel
theorem dX12_custom_67 : decode cX12_custom 67 = .ok (.ifCond .eq 73, 3) := by decide +kernel
theorem dX12_custom_70 : decode cX12_custom 70 = .ok (.aload_n 0, 1) := by decide +kernel
theorem dX12_custom_71 : decode cX12_custom 71 = .ok (.invokevirtual 219, 3) := by decide +kernel
theorem dX12_custom_74 : decode cX12_custom 74 = .ok (.ifCond .eq 66, 3) := by decide +kernel
theorem dX12_custom_77 : decode cX12_custom 77 = .ok (.aload_n 0, 1) := by decide +kernel
theorem dX12_custom_78 : decode cX12_custom 78 = .ok (.invokevirtual 313, 3) := by decide +kernel
theorem dX12_custom_81 : decode cX12_custom 81 = .ok (.aload_n 0, 1) := by decide +kernel
theorem dX12_custom_82 : decode cX12_custom 82 = .ok (.invokevirtual 219, 3) := by decide +kernel
theorem dX12_custom_85 : decode cX12_custom 85 = .ok (.ifCond .eq 18, 3) := by decide +kernel
theorem dX12_custom_88 : decode cX12_custom 88 = .ok (.aload_n 0, 1) := by decide +kernel
theorem dX12_custom_89 : decode cX12_custom 89 = .ok (.getfield 210, 3) := by decide +kernel
theorem dX12_custom_92 : decode cX12_custom 92 = .ok (.aload_n 0, 1) := by decide +kernel
theorem dX12_custom_93 : decode cX12_custom 93 = .ok (.getfield 213, 3) := by decide +kernel
theorem dX12_custom_96 : decode cX12_custom 96 = .ok (.if_icmp .ge 7, 3) := by decide +kernel
theorem dX12_custom_99 : decode cX12_custom 99 = .ok (.iconst 1, 1) := by decide +kernel
theorem dX12_custom_100 : decode cX12_custom 100 = .ok (.goto 4, 3) := by decide +kernel
theorem dX12_custom_103 : decode cX12_custom 103 = .ok (.iconst 0, 1) := by decide +kernel
theorem dX12_custom_104 : decode cX12_custom 104 = .ok (.istore_n 3, 1) := by decide +kernel
theorem dX12_custom_105 : decode cX12_custom 105 = .ok (.iload_n 3, 1) := by decide +kernel
theorem dX12_custom_106 : decode cX12_custom 106 = .ok (.ifCond .eq (-40), 3) := by decide +kernel
theorem dX12_custom_109 : decode cX12_custom 109 = .ok (.aload_n 0, 1) := by decide +kernel
theorem dX12_custom_110 : decode cX12_custom 110 = .ok (.invokevirtual 236, 3) := by decide +kernel
theorem dX12_custom_113 : decode cX12_custom 113 = .ok (.bipush 59, 2) := by decide +kernel
theorem dX12_custom_115 : decode cX12_custom 115 = .ok (.if_icmp .eq 12, 3) := by decide +kernel
theorem dX12_custom_118 : decode cX12_custom 118 = .ok (.aload_n 0, 1) := by decide +kernel
theorem dX12_custom_119 : decode cX12_custom 119 = .ok (.iconst 1, 1) := by decide +kernel
theorem dX12_custom_120 : decode cX12_custom 120 = .ok (.aload_n 0, 1) := by decide +kernel
theorem dX12_custom_121 : decode cX12_custom 121 = .ok (.getfield 210, 3) := by decide +kernel
theorem dX12_custom_124 : decode cX12_custom 124 = .ok (.invokevirtual 232, 3) := by decide +kernel
theorem dX12_custom_127 : decode cX12_custom 127 = .ok (.aload_n 0, 1) := by decide +kernel
theorem dX12_custom_128 : decode cX12_custom 128 = .ok (.dup, 1) := by decide +kernel
theorem dX12_custom_129 : decode cX12_custom 129 = .ok (.getfield 210, 3) := by decide +kernel
theorem dX12_custom_132 : decode cX12_custom 132 = .ok (.iconst 1, 1) := by decide +kernel
theorem dX12_custom_133 : decode cX12_custom 133 = .ok (.iadd, 1) := by decide +kernel
theorem dX12_custom_134 : decode cX12_custom 134 = .ok (.putfield 210, 3) := by decide +kernel
theorem dX12_custom_137 : decode cX12_custom 137 = .ok (.goto (-71), 3) := by decide +kernel
theorem dX12_custom_140 : decode cX12_custom 140 = .ok (.aload_n 0, 1) := by decide +kernel
theorem dX12_custom_141 : decode cX12_custom 141 = .ok (.getfield 216, 3) := by decide +kernel
theorem dX12_custom_144 : decode cX12_custom 144 = .ok (.ifCond .ge 8, 3) := by decide +kernel
theorem dX12_custom_147 : decode cX12_custom 147 = .ok (.aload_n 0, 1) := by decide +kernel
theorem dX12_custom_148 : decode cX12_custom 148 = .ok (.getfield 216, 3) := by decide +kernel
theorem dX12_custom_151 : decode cX12_custom 151 = .ok (.ireturn, 1) := by decide +kernel
theorem dX12_custom_152 : decode cX12_custom 152 = .ok (.iconst 0, 1) := by decide +kernel
theorem dX12_custom_153 : decode cX12_custom 153 = .ok (.istore 4, 2) := by decide +kernel
theorem dX12_custom_155 : decode cX12_custom 155 = .ok (.iload 4, 2) := by decide +kernel
theorem dX12_custom_157 : decode cX12_custom 157 = .ok (.aload_n 0, 1) := by decide +kernel
theorem dX12_custom_158 : decode cX12_custom 158 = .ok (.getfield 305, 3) := by decide +kernel
theorem dX12_custom_161 : decode cX12_custom 161 = .ok (.if_icmp .ge 78, 3) := by decide +kernel
theorem dX12_custom_164 : decode cX12_custom 164 = .ok (.aload_n 0, 1) := by decide +kernel
theorem dX12_custom_165 : decode cX12_custom 165 = .ok (.getfield 72, 3) := by decide +kernel
theorem dX12_custom_168 : decode cX12_custom 168 = .ok (.bipush 12, 2) := by decide +kernel
theorem dX12_custom_170 : decode cX12_custom 170 = .ok (.iload_n 1, 1) := by decide +kernel
theorem dX12_custom_171 : decode cX12_custom 171 = .ok (.imul, 1) := by decide +kernel
theorem dX12_custom_172 : decode cX12_custom 172 = .ok (.iload 4, 2) := by decide +kernel
theorem dX12_custom_174 : decode cX12_custom 174 = .ok (.iadd, 1) := by decide +kernel
theorem dX12_custom_175 : decode cX12_custom 175 = .ok (.aload_n 0, 1) := by decide +kernel
theorem dX12_custom_176 : decode cX12_custom 176 = .ok (.getfield 87, 3) := by decide +kernel
theorem dX12_custom_179 : decode cX12_custom 179 = .ok (.iload 4, 2) := by decide +kernel
theorem dX12_custom_181 : decode cX12_custom 181 = .ok (.iaload, 1) := by decide +kernel
theorem dX12_custom_182 : decode cX12_custom 182 = .ok (.iastore, 1) := by decide +kernel
theorem dX12_custom_183 : decode cX12_custom 183 = .ok (.aload_n 0, 1) := by decide +kernel
theorem dX12_custom_184 : decode cX12_custom 184 = .ok (.getfield 75, 3) := by decide +kernel
theorem dX12_custom_187 : decode cX12_custom 187 = .ok (.bipush 12, 2) := by decide +kernel
theorem dX12_custom_189 : decode cX12_custom 189 = .ok (.iload_n 1, 1) := by decide +kernel
theorem dX12_custom_190 : decode cX12_custom 190 = .ok (.imul, 1) := by decide +kernel
theorem dX12_custom_191 : decode cX12_custom 191 = .ok (.iload 4, 2) := by decide +kernel
theorem dX12_custom_193 : decode cX12_custom 193 = .ok (.iadd, 1) := by decide +kernel
theorem dX12_custom_194 : decode cX12_custom 194 = .ok (.sipush 160, 3) := by decide +kernel
theorem dX12_custom_197 : decode cX12_custom 197 = .ok (.iload_n 1, 1) := by decide +kernel
theorem dX12_custom_198 : decode cX12_custom 198 = .ok (.imul, 1) := by decide +kernel
theorem dX12_custom_199 : decode cX12_custom 199 = .ok (.aload_n 0, 1) := by decide +kernel
theorem dX12_custom_200 : decode cX12_custom 200 = .ok (.getfield 90, 3) := by decide +kernel
theorem dX12_custom_203 : decode cX12_custom 203 = .ok (.iload 4, 2) := by decide +kernel
theorem dX12_custom_205 : decode cX12_custom 205 = .ok (.iaload, 1) := by decide +kernel
theorem dX12_custom_206 : decode cX12_custom 206 = .ok (.iadd, 1) := by decide +kernel
theorem dX12_custom_207 : decode cX12_custom 207 = .ok (.iastore, 1) := by decide +kernel
theorem dX12_custom_208 : decode cX12_custom 208 = .ok (.aload_n 0, 1) := by decide +kernel
theorem dX12_custom_209 : decode cX12_custom 209 = .ok (.getfield 78, 3) := by decide +kernel
theorem dX12_custom_212 : decode cX12_custom 212 = .ok (.bipush 12, 2) := by decide +kernel
theorem dX12_custom_214 : decode cX12_custom 214 = .ok (.iload_n 1, 1) := by decide +kernel
theorem dX12_custom_215 : decode cX12_custom 215 = .ok (.imul, 1) := by decide +kernel
theorem dX12_custom_216 : decode cX12_custom 216 = .ok (.iload 4, 2) := by decide +kernel
theorem dX12_custom_218 : decode cX12_custom 218 = .ok (.iadd, 1) := by decide +kernel
theorem dX12_custom_219 : decode cX12_custom 219 = .ok (.sipush 160, 3) := by decide +kernel
theorem dX12_custom_222 : decode cX12_custom 222 = .ok (.iload_n 1, 1) := by decide +kernel
theorem dX12_custom_223 : decode cX12_custom 223 = .ok (.imul, 1) := by decide +kernel
theorem dX12_custom_224 : decode cX12_custom 224 = .ok (.aload_n 0, 1) := by decide +kernel
theorem dX12_custom_225 : decode cX12_custom 225 = .ok (.getfield 93, 3) := by decide +kernel
theorem dX12_custom_228 : decode cX12_custom 228 = .ok (.iload 4, 2) := by decide +kernel
theorem dX12_custom_230 : decode cX12_custom 230 = .ok (.iaload, 1) := by decide +kernel
theorem dX12_custom_231 : decode cX12_custom 231 = .ok (.iadd, 1) := by decide +kernel
theorem dX12_custom_232 : decode cX12_custom 232 = .ok (.iastore, 1) := by decide +kernel
theorem dX12_custom_233 : decode cX12_custom 233 = .ok (.iinc 4 1, 3) := by decide +kernel
theorem dX12_custom_236 : decode cX12_custom 236 = .ok (.goto (-81), 3) := by decide +kernel
theorem dX12_custom_239 : decode cX12_custom 239 = .ok (.iconst 0, 1) := by decide +kernel
theorem dX12_custom_240 : decode cX12_custom 240 = .ok (.istore 4, 2) := by decide +kernel
theorem dX12_custom_242 : decode cX12_custom 242 = .ok (.iload 4, 2) := by decide +kernel
theorem dX12_custom_244 : decode cX12_custom 244 = .ok (.aload_n 0, 1) := by decide +kernel
theorem dX12_custom_245 : decode cX12_custom 245 = .ok (.getfield 223, 3) := by decide +kernel
theorem dX12_custom_248 : decode cX12_custom 248 = .ok (.if_icmp .ge 49, 3) := by decide +kernel
theorem dX12_custom_251 : decode cX12_custom 251 = .ok (.aload_n 0, 1) := by decide +kernel
theorem dX12_custom_252 : decode cX12_custom 252 = .ok (.getfield 81, 3) := by decide +kernel
theorem dX12_custom_255 : decode cX12_custom 255 = .ok (.sipush 160, 3) := by decide +kernel
theorem dX12_custom_258 : decode cX12_custom 258 = .ok (.iload_n 1, 1) := by decide +kernel
theorem dX12_custom_259 : decode cX12_custom 259 = .ok (.imul, 1) := by decide +kernel
theorem dX12_custom_260 : decode cX12_custom 260 = .ok (.iload 4, 2) := by decide +kernel
theorem dX12_custom_262 : decode cX12_custom 262 = .ok (.iadd, 1) := by decide +kernel
theorem dX12_custom_263 : decode cX12_custom 263 = .ok (.aload_n 0, 1) := by decide +kernel
theorem dX12_custom_264 : decode cX12_custom 264 = .ok (.getfield 96, 3) := by decide +kernel
theorem dX12_custom_267 : decode cX12_custom 267 = .ok (.iload 4, 2) := by decide +kernel
theorem dX12_custom_269 : decode cX12_custom 269 = .ok (.iaload, 1) := by decide +kernel
theorem dX12_custom_270 : decode cX12_custom 270 = .ok (.iastore, 1) := by decide +kernel
theorem dX12_custom_271 : decode cX12_custom 271 = .ok (.aload_n 0, 1) := by decide +kernel
theorem dX12_custom_272 : decode cX12_custom 272 = .ok (.getfield 84, 3) := by decide +kernel
theorem dX12_custom_275 : decode cX12_custom 275 = .ok (.sipush 160, 3) := by decide +kernel
theorem dX12_custom_278 : decode cX12_custom 278 = .ok (.iload_n 1, 1) := by decide +kernel
theorem dX12_custom_279 : decode cX12_custom 279 = .ok (.imul, 1) := by decide +kernel
theorem dX12_custom_280 : decode cX12_custom 280 = .ok (.iload 4, 2) := by decide +kernel
theorem dX12_custom_282 : decode cX12_custom 282 = .ok (.iadd, 1) := by decide +kernel
theorem dX12_custom_283 : decode cX12_custom 283 = .ok (.aload_n 0, 1) := by decide +kernel
theorem dX12_custom_284 : decode cX12_custom 284 = .ok (.getfield 99, 3) := by decide +kernel
theorem dX12_custom_287 : decode cX12_custom 287 = .ok (.iload 4, 2) := by decide +kernel
theorem dX12_custom_289 : decode cX12_custom 289 = .ok (.iaload, 1) := by decide +kernel
theorem dX12_custom_290 : decode cX12_custom 290 = .ok (.iastore, 1) := by decide +kernel
theorem dX12_custom_291 : decode cX12_custom 291 = .ok (.iinc 4 1, 3) := by decide +kernel
theorem dX12_custom_294 : decode cX12_custom 294 = .ok (.goto (-52), 3) := by decide +kernel
theorem dX12_custom_297 : decode cX12_custom 297 = .ok (.aload_n 0, 1) := by decide +kernel
theorem dX12_custom_298 : decode cX12_custom 298 = .ok (.getfield 69, 3) := by decide +kernel
theorem dX12_custom_301 : decode cX12_custom 301 = .ok (.iload_n 1, 1) := by decide +kernel
theorem dX12_custom_302 : decode cX12_custom 302 = .ok (.aload_n 0, 1) := by decide +kernel
theorem dX12_custom_303 : decode cX12_custom 303 = .ok (.getfield 305, 3) := by decide +kernel
theorem dX12_custom_306 : decode cX12_custom 306 = .ok (.iastore, 1) := by decide +kernel
theorem dX12_custom_307 : decode cX12_custom 307 = .ok (.aload_n 0, 1) := by decide +kernel
theorem dX12_custom_308 : decode cX12_custom 308 = .ok (.iconst 0, 1) := by decide +kernel
theorem dX12_custom_309 : decode cX12_custom 309 = .ok (.putfield 182, 3) := by decide +kernel
theorem dX12_custom_312 : decode cX12_custom 312 = .ok (.aload_n 0, 1) := by decide +kernel
theorem dX12_custom_313 : decode cX12_custom 313 = .ok (.getfield 305, 3) := by decide +kernel
theorem dX12_custom_316 : decode cX12_custom 316 = .ok (.ireturn, 1) := by decide +kernel
theorem dX12_customs_0 : decode cX12_customs 0 = .ok (.iload_n 1, 1) := by decide +kernel
theorem dX12_customs_1 : decode cX12_customs 1 = .ok (.i2l, 1) := by decide +kernel
theorem dX12_customs_2 : decode cX12_customs 2 = .ok (.lconst 0, 1) := by decide +kernel
theorem dX12_customs_3 : decode cX12_customs 3 = .ok (.ldc2_w 196, 3) := by decide +kernel
theorem dX12_customs_6 : decode cX12_customs 6 = .ok (.invokestatic 164, 3) := by decide +kernel
theorem dX12_customs_9 : decode cX12_customs 9 = .ok (.ifCond .eq 27, 3) := by decide +kernel
theorem dX12_customs_12 : decode cX12_customs 12 = .ok (.iload_n 2, 1) := by decide +kernel
theorem dX12_customs_13 : decode cX12_customs 13 = .ok (.i2l, 1) := by decide +kernel
theorem dX12_customs_14 : decode cX12_customs 14 = .ok (.lconst 0, 1) := by decide +kernel
theorem dX12_customs_15 : decode cX12_customs 15 = .ok (.ldc2_w 196, 3) := by decide +kernel
theorem dX12_customs_18 : decode cX12_customs 18 = .ok (.invokestatic 164, 3) := by decide +kernel
theorem dX12_customs_21 : decode cX12_customs 21 = .ok (.ifCond .eq 15, 3) := by decide +kernel
theorem dX12_customs_24 : decode cX12_customs 24 = .ok (.iload_n 3, 1) := by decide +kernel
theorem dX12_customs_25 : decode cX12_customs 25 = .ok (.i2l, 1) := by decide +kernel
theorem dX12_customs_26 : decode cX12_customs 26 = .ok (.lconst 0, 1) := by decide +kernel
theorem dX12_customs_27 : decode cX12_customs 27 = .ok (.ldc2_w 316, 3) := by decide +kernel
theorem dX12_customs_30 : decode cX12_customs 30 = .ok (.invokestatic 164, 3) := by decide +kernel
theorem dX12_customs_33 : decode cX12_customs 33 = .ok (.ifCond .ne 5, 3) := by decide +kernel
theorem dX12_customs_36 : decode cX12_customs 36 = .ok (.iconst 0, 1) := by decide +kernel
theorem dX12_customs_37 : decode cX12_customs 37 = .ok (.ireturn, 1) := by decide +kernel
theorem dX12_customs_38 : decode cX12_customs 38 = .ok (.aload_n 0, 1) := by decide +kernel
theorem dX12_customs_39 : decode cX12_customs 39 = .ok (.iload_n 1, 1) := by decide +kernel
theorem dX12_customs_40 : decode cX12_customs 40 = .ok (.putfield 13, 3) := by decide +kernel
theorem dX12_customs_43 : decode cX12_customs 43 = .ok (.aload_n 0, 1) := by decide +kernel
theorem dX12_customs_44 : decode cX12_customs 44 = .ok (.iload_n 2, 1) := by decide +kernel
theorem dX12_customs_45 : decode cX12_customs 45 = .ok (.putfield 17, 3) := by decide +kernel
theorem dX12_customs_48 : decode cX12_customs 48 = .ok (.aload_n 0, 1) := by decide +kernel
theorem dX12_customs_49 : decode cX12_customs 49 = .ok (.iload_n 3, 1) := by decide +kernel
theorem dX12_customs_50 : decode cX12_customs 50 = .ok (.putfield 20, 3) := by decide +kernel
theorem dX12_customs_53 : decode cX12_customs 53 = .ok (.aload_n 0, 1) := by decide +kernel
theorem dX12_customs_54 : decode cX12_customs 54 = .ok (.iconst 0, 1) := by decide +kernel
theorem dX12_customs_55 : decode cX12_customs 55 = .ok (.putfield 182, 3) := by decide +kernel
theorem dX12_customs_58 : decode cX12_customs 58 = .ok (.iconst 1, 1) := by decide +kernel
theorem dX12_customs_59 : decode cX12_customs 59 = .ok (.ireturn, 1) := by decide +kernel
theorem dX12_canTie_0 : decode cX12_canTie 0 = .ok (.aload_n 0, 1) := by decide +kernel
theorem dX12_canTie_1 : decode cX12_canTie 1 = .ok (.getfield 57, 3) := by decide +kernel
theorem dX12_canTie_4 : decode cX12_canTie 4 = .ok (.iload_n 1, 1) := by decide +kernel
theorem dX12_canTie_5 : decode cX12_canTie 5 = .ok (.iaload, 1) := by decide +kernel
theorem dX12_canTie_6 : decode cX12_canTie 6 = .ok (.aload_n 0, 1) := by decide +kernel
theorem dX12_canTie_7 : decode cX12_canTie 7 = .ok (.getfield 36, 3) := by decide +kernel
theorem dX12_canTie_10 : decode cX12_canTie 10 = .ok (.iload_n 2, 1) := by decide +kernel
theorem dX12_canTie_11 : decode cX12_canTie 11 = .ok (.iaload, 1) := by decide +kernel
theorem dX12_canTie_12 : decode cX12_canTie 12 = .ok (.if_icmp .ne 28, 3) := by decide +kernel
theorem dX12_canTie_15 : decode cX12_canTie 15 = .ok (.aload_n 0, 1) := by decide +kernel
theorem dX12_canTie_16 : decode cX12_canTie 16 = .ok (.getfield 60, 3) := by decide +kernel
theorem dX12_canTie_19 : decode cX12_canTie 19 = .ok (.iload_n 1, 1) := by decide +kernel
theorem dX12_canTie_20 : decode cX12_canTie 20 = .ok (.iaload, 1) := by decide +kernel
theorem dX12_canTie_21 : decode cX12_canTie 21 = .ok (.iconst (-1), 1) := by decide +kernel
theorem dX12_canTie_22 : decode cX12_canTie 22 = .ok (.if_icmp .eq 20, 3) := by decide +kernel
theorem dX12_canTie_25 : decode cX12_canTie 25 = .ok (.aload_n 0, 1) := by decide +kernel
theorem dX12_canTie_26 : decode cX12_canTie 26 = .ok (.getfield 60, 3) := by decide +kernel
theorem dX12_canTie_29 : decode cX12_canTie 29 = .ok (.iload_n 1, 1) := by decide +kernel
theorem dX12_canTie_30 : decode cX12_canTie 30 = .ok (.iaload, 1) := by decide +kernel
theorem dX12_canTie_31 : decode cX12_canTie 31 = .ok (.aload_n 0, 1) := by decide +kernel
theorem dX12_canTie_32 : decode cX12_canTie 32 = .ok (.getfield 39, 3) := by decide +kernel
theorem dX12_canTie_35 : decode cX12_canTie 35 = .ok (.iload_n 2, 1) := by decide +kernel
theorem dX12_canTie_36 : decode cX12_canTie 36 = .ok (.iaload, 1) := by decide +kernel
theorem dX12_canTie_37 : decode cX12_canTie 37 = .ok (.if_icmp .eq 5, 3) := by decide +kernel
theorem dX12_canTie_40 : decode cX12_canTie 40 = .ok (.iconst 0, 1) := by decide +kernel
theorem dX12_canTie_41 : decode cX12_canTie 41 = .ok (.ireturn, 1) := by decide +kernel
theorem dX12_canTie_42 : decode cX12_canTie 42 = .ok (.aload_n 0, 1) := by decide +kernel
theorem dX12_canTie_43 : decode cX12_canTie 43 = .ok (.getfield 54, 3) := by decide +kernel
theorem dX12_canTie_46 : decode cX12_canTie 46 = .ok (.iload_n 1, 1) := by decide +kernel
theorem dX12_canTie_47 : decode cX12_canTie 47 = .ok (.iaload, 1) := by decide +kernel
theorem dX12_canTie_48 : decode cX12_canTie 48 = .ok (.i2l, 1) := by decide +kernel
theorem dX12_canTie_49 : decode cX12_canTie 49 = .ok (.aload_n 0, 1) := by decide +kernel
theorem dX12_canTie_50 : decode cX12_canTie 50 = .ok (.getfield 42, 3) := by decide +kernel
theorem dX12_canTie_53 : decode cX12_canTie 53 = .ok (.iload_n 2, 1) := by decide +kernel
theorem dX12_canTie_54 : decode cX12_canTie 54 = .ok (.iaload, 1) := by decide +kernel
theorem dX12_canTie_55 : decode cX12_canTie 55 = .ok (.i2l, 1) := by decide +kernel
theorem dX12_canTie_56 : decode cX12_canTie 56 = .ok (.aload_n 0, 1) := by decide +kernel
theorem dX12_canTie_57 : decode cX12_canTie 57 = .ok (.getfield 45, 3) := by decide +kernel
theorem dX12_canTie_60 : decode cX12_canTie 60 = .ok (.iload_n 2, 1) := by decide +kernel
theorem dX12_canTie_61 : decode cX12_canTie 61 = .ok (.iaload, 1) := by decide +kernel
theorem dX12_canTie_62 : decode cX12_canTie 62 = .ok (.i2l, 1) := by decide +kernel
theorem dX12_canTie_63 : decode cX12_canTie 63 = .ok (.invokestatic 164, 3) := by decide +kernel
theorem dX12_canTie_66 : decode cX12_canTie 66 = .ok (.ireturn, 1) := by decide +kernel
theorem dX12_isElder_0 : decode cX12_isElder 0 = .ok (.aload_n 0, 1) := by decide +kernel
theorem dX12_isElder_1 : decode cX12_isElder 1 = .ok (.getfield 54, 3) := by decide +kernel
theorem dX12_isElder_4 : decode cX12_isElder 4 = .ok (.iload_n 1, 1) := by decide +kernel
theorem dX12_isElder_5 : decode cX12_isElder 5 = .ok (.iaload, 1) := by decide +kernel
theorem dX12_isElder_6 : decode cX12_isElder 6 = .ok (.aload_n 0, 1) := by decide +kernel
theorem dX12_isElder_7 : decode cX12_isElder 7 = .ok (.getfield 54, 3) := by decide +kernel
theorem dX12_isElder_10 : decode cX12_isElder 10 = .ok (.iload_n 2, 1) := by decide +kernel
theorem dX12_isElder_11 : decode cX12_isElder 11 = .ok (.iaload, 1) := by decide +kernel
theorem dX12_isElder_12 : decode cX12_isElder 12 = .ok (.if_icmp .lt 23, 3) := by decide +kernel
theorem dX12_isElder_15 : decode cX12_isElder 15 = .ok (.aload_n 0, 1) := by decide +kernel
theorem dX12_isElder_16 : decode cX12_isElder 16 = .ok (.getfield 54, 3) := by decide +kernel
theorem dX12_isElder_19 : decode cX12_isElder 19 = .ok (.iload_n 1, 1) := by decide +kernel
theorem dX12_isElder_20 : decode cX12_isElder 20 = .ok (.iaload, 1) := by decide +kernel
theorem dX12_isElder_21 : decode cX12_isElder 21 = .ok (.aload_n 0, 1) := by decide +kernel
theorem dX12_isElder_22 : decode cX12_isElder 22 = .ok (.getfield 54, 3) := by decide +kernel
theorem dX12_isElder_25 : decode cX12_isElder 25 = .ok (.iload_n 2, 1) := by decide +kernel
theorem dX12_isElder_26 : decode cX12_isElder 26 = .ok (.iaload, 1) := by decide +kernel
theorem dX12_isElder_27 : decode cX12_isElder 27 = .ok (.if_icmp .ne 12, 3) := by decide +kernel
theorem dX12_isElder_30 : decode cX12_isElder 30 = .ok (.iload_n 1, 1) := by decide +kernel
theorem dX12_isElder_31 : decode cX12_isElder 31 = .ok (.iload_n 2, 1) := by decide +kernel
theorem dX12_isElder_32 : decode cX12_isElder 32 = .ok (.if_icmp .ge 7, 3) := by decide +kernel
theorem dX12_isElder_35 : decode cX12_isElder 35 = .ok (.iconst 1, 1) := by decide +kernel
theorem dX12_isElder_36 : decode cX12_isElder 36 = .ok (.goto 4, 3) := by decide +kernel
theorem dX12_isElder_39 : decode cX12_isElder 39 = .ok (.iconst 0, 1) := by decide +kernel
theorem dX12_isElder_40 : decode cX12_isElder 40 = .ok (.ireturn, 1) := by decide +kernel
theorem dX12_takes_0 : decode cX12_takes 0 = .ok (.aload_n 0, 1) := by decide +kernel
theorem dX12_takes_1 : decode cX12_takes 1 = .ok (.iload_n 1, 1) := by decide +kernel
theorem dX12_takes_2 : decode cX12_takes 2 = .ok (.putfield 318, 3) := by decide +kernel
theorem dX12_takes_5 : decode cX12_takes 5 = .ok (.aload_n 0, 1) := by decide +kernel
theorem dX12_takes_6 : decode cX12_takes 6 = .ok (.iconst 0, 1) := by decide +kernel
theorem dX12_takes_7 : decode cX12_takes 7 = .ok (.putfield 321, 3) := by decide +kernel
theorem dX12_takes_10 : decode cX12_takes 10 = .ok (.iconst 0, 1) := by decide +kernel
theorem dX12_takes_11 : decode cX12_takes 11 = .ok (.istore_n 3, 1) := by decide +kernel
theorem dX12_takes_12 : decode cX12_takes 12 = .ok (.iload_n 3, 1) := by decide +kernel
theorem dX12_takes_13 : decode cX12_takes 13 = .ok (.aload_n 0, 1) := by decide +kernel
theorem dX12_takes_14 : decode cX12_takes 14 = .ok (.getfield 175, 3) := by decide +kernel
theorem dX12_takes_17 : decode cX12_takes 17 = .ok (.if_icmp .ge 88, 3) := by decide +kernel
theorem dX12_takes_20 : decode cX12_takes 20 = .ok (.iload_n 2, 1) := by decide +kernel
theorem dX12_takes_21 : decode cX12_takes 21 = .ok (.iload_n 3, 1) := by decide +kernel
theorem dX12_takes_22 : decode cX12_takes 22 = .ok (.invokestatic 324, 3) := by decide +kernel
theorem dX12_takes_25 : decode cX12_takes 25 = .ok (.ifCond .ne 6, 3) := by decide +kernel
theorem dX12_takes_28 : decode cX12_takes 28 = .ok (.goto 71, 3) := by decide +kernel
theorem dX12_takes_31 : decode cX12_takes 31 = .ok (.aload_n 0, 1) := by decide +kernel
theorem dX12_takes_32 : decode cX12_takes 32 = .ok (.getfield 321, 3) := by decide +kernel
theorem dX12_takes_35 : decode cX12_takes 35 = .ok (.istore 4, 2) := by decide +kernel
theorem dX12_takes_37 : decode cX12_takes 37 = .ok (.iload 4, 2) := by decide +kernel
theorem dX12_takes_39 : decode cX12_takes 39 = .ok (.ifCond .le 42, 3) := by decide +kernel
theorem dX12_takes_42 : decode cX12_takes 42 = .ok (.aload_n 0, 1) := by decide +kernel
theorem dX12_takes_43 : decode cX12_takes 43 = .ok (.iload_n 3, 1) := by decide +kernel
theorem dX12_takes_44 : decode cX12_takes 44 = .ok (.aload_n 0, 1) := by decide +kernel
theorem dX12_takes_45 : decode cX12_takes 45 = .ok (.getfield 105, 3) := by decide +kernel
theorem dX12_takes_48 : decode cX12_takes 48 = .ok (.iload 4, 2) := by decide +kernel
theorem dX12_takes_50 : decode cX12_takes 50 = .ok (.iconst 1, 1) := by decide +kernel
theorem dX12_takes_51 : decode cX12_takes 51 = .ok (.isub, 1) := by decide +kernel
theorem dX12_takes_52 : decode cX12_takes 52 = .ok (.iaload, 1) := by decide +kernel
theorem dX12_takes_53 : decode cX12_takes 53 = .ok (.invokevirtual 327, 3) := by decide +kernel
theorem dX12_takes_56 : decode cX12_takes 56 = .ok (.ifCond .eq 25, 3) := by decide +kernel
theorem dX12_takes_59 : decode cX12_takes 59 = .ok (.aload_n 0, 1) := by decide +kernel
theorem dX12_takes_60 : decode cX12_takes 60 = .ok (.getfield 105, 3) := by decide +kernel
theorem dX12_takes_63 : decode cX12_takes 63 = .ok (.iload 4, 2) := by decide +kernel
theorem dX12_takes_65 : decode cX12_takes 65 = .ok (.aload_n 0, 1) := by decide +kernel
theorem dX12_takes_66 : decode cX12_takes 66 = .ok (.getfield 105, 3) := by decide +kernel
theorem dX12_takes_69 : decode cX12_takes 69 = .ok (.iload 4, 2) := by decide +kernel
theorem dX12_takes_71 : decode cX12_takes 71 = .ok (.iconst 1, 1) := by decide +kernel
theorem dX12_takes_72 : decode cX12_takes 72 = .ok (.isub, 1) := by decide +kernel
theorem dX12_takes_73 : decode cX12_takes 73 = .ok (.iaload, 1) := by decide +kernel
theorem dX12_takes_74 : decode cX12_takes 74 = .ok (.iastore, 1) := by decide +kernel
theorem dX12_takes_75 : decode cX12_takes 75 = .ok (.iinc 4 (-1), 3) := by decide +kernel
theorem dX12_takes_78 : decode cX12_takes 78 = .ok (.goto (-41), 3) := by decide +kernel
theorem dX12_takes_81 : decode cX12_takes 81 = .ok (.aload_n 0, 1) := by decide +kernel
theorem dX12_takes_82 : decode cX12_takes 82 = .ok (.getfield 105, 3) := by decide +kernel
theorem dX12_takes_85 : decode cX12_takes 85 = .ok (.iload 4, 2) := by decide +kernel
theorem dX12_takes_87 : decode cX12_takes 87 = .ok (.iload_n 3, 1) := by decide +kernel
theorem dX12_takes_88 : decode cX12_takes 88 = .ok (.iastore, 1) := by decide +kernel
theorem dX12_takes_89 : decode cX12_takes 89 = .ok (.aload_n 0, 1) := by decide +kernel
theorem dX12_takes_90 : decode cX12_takes 90 = .ok (.dup, 1) := by decide +kernel
theorem dX12_takes_91 : decode cX12_takes 91 = .ok (.getfield 321, 3) := by decide +kernel
theorem dX12_takes_94 : decode cX12_takes 94 = .ok (.iconst 1, 1) := by decide +kernel
theorem dX12_takes_95 : decode cX12_takes 95 = .ok (.iadd, 1) := by decide +kernel
theorem dX12_takes_96 : decode cX12_takes 96 = .ok (.putfield 321, 3) := by decide +kernel
theorem dX12_takes_99 : decode cX12_takes 99 = .ok (.iinc 3 1, 3) := by decide +kernel
theorem dX12_takes_102 : decode cX12_takes 102 = .ok (.goto (-90), 3) := by decide +kernel
theorem dX12_takes_105 : decode cX12_takes 105 = .ok (.return_, 1) := by decide +kernel
theorem dX12_isGone_0 : decode cX12_isGone 0 = .ok (.aload_n 0, 1) := by decide +kernel
theorem dX12_isGone_1 : decode cX12_isGone 1 = .ok (.getfield 66, 3) := by decide +kernel
theorem dX12_isGone_4 : decode cX12_isGone 4 = .ok (.iload_n 1, 1) := by decide +kernel
theorem dX12_isGone_5 : decode cX12_isGone 5 = .ok (.iaload, 1) := by decide +kernel
theorem dX12_isGone_6 : decode cX12_isGone 6 = .ok (.iconst (-1), 1) := by decide +kernel
theorem dX12_isGone_7 : decode cX12_isGone 7 = .ok (.if_icmp .eq 17, 3) := by decide +kernel
theorem dX12_isGone_10 : decode cX12_isGone 10 = .ok (.aload_n 0, 1) := by decide +kernel
theorem dX12_isGone_11 : decode cX12_isGone 11 = .ok (.getfield 66, 3) := by decide +kernel
theorem dX12_isGone_14 : decode cX12_isGone 14 = .ok (.iload_n 1, 1) := by decide +kernel
theorem dX12_isGone_15 : decode cX12_isGone 15 = .ok (.iaload, 1) := by decide +kernel
theorem dX12_isGone_16 : decode cX12_isGone 16 = .ok (.iload_n 2, 1) := by decide +kernel
theorem dX12_isGone_17 : decode cX12_isGone 17 = .ok (.if_icmp .gt 7, 3) := by decide +kernel
theorem dX12_isGone_20 : decode cX12_isGone 20 = .ok (.iconst 1, 1) := by decide +kernel
theorem dX12_isGone_21 : decode cX12_isGone 21 = .ok (.goto 4, 3) := by decide +kernel
theorem dX12_isGone_24 : decode cX12_isGone 24 = .ok (.iconst 0, 1) := by decide +kernel
theorem dX12_isGone_25 : decode cX12_isGone 25 = .ok (.ireturn, 1) := by decide +kernel
theorem dX12_canBe_0 : decode cX12_canBe 0 = .ok (.iconst 0, 1) := by decide +kernel
theorem dX12_canBe_1 : decode cX12_canBe 1 = .ok (.istore_n 1, 1) := by decide +kernel
theorem dX12_canBe_2 : decode cX12_canBe 2 = .ok (.iload_n 1, 1) := by decide +kernel
theorem dX12_canBe_3 : decode cX12_canBe 3 = .ok (.aload_n 0, 1) := by decide +kernel
theorem dX12_canBe_4 : decode cX12_canBe 4 = .ok (.getfield 321, 3) := by decide +kernel
theorem dX12_canBe_7 : decode cX12_canBe 7 = .ok (.if_icmp .ge 134, 3) := by decide +kernel
theorem dX12_canBe_10 : decode cX12_canBe 10 = .ok (.aload_n 0, 1) := by decide +kernel
theorem dX12_canBe_11 : decode cX12_canBe 11 = .ok (.aload_n 0, 1) := by decide +kernel
theorem dX12_canBe_12 : decode cX12_canBe 12 = .ok (.getfield 105, 3) := by decide +kernel
theorem dX12_canBe_15 : decode cX12_canBe 15 = .ok (.iload_n 1, 1) := by decide +kernel
theorem dX12_canBe_16 : decode cX12_canBe 16 = .ok (.iaload, 1) := by decide +kernel
theorem dX12_canBe_17 : decode cX12_canBe 17 = .ok (.aload_n 0, 1) := by decide +kernel
theorem dX12_canBe_18 : decode cX12_canBe 18 = .ok (.getfield 318, 3) := by decide +kernel
theorem dX12_canBe_21 : decode cX12_canBe 21 = .ok (.invokevirtual 330, 3) := by decide +kernel
theorem dX12_canBe_24 : decode cX12_canBe 24 = .ok (.ifCond .ne 5, 3) := by decide +kernel
theorem dX12_canBe_27 : decode cX12_canBe 27 = .ok (.iconst 0, 1) := by decide +kernel
theorem dX12_canBe_28 : decode cX12_canBe 28 = .ok (.ireturn, 1) := by decide +kernel
theorem dX12_canBe_29 : decode cX12_canBe 29 = .ok (.iconst 0, 1) := by decide +kernel
theorem dX12_canBe_30 : decode cX12_canBe 30 = .ok (.istore_n 2, 1) := by decide +kernel
theorem dX12_canBe_31 : decode cX12_canBe 31 = .ok (.iload_n 2, 1) := by decide +kernel
theorem dX12_canBe_32 : decode cX12_canBe 32 = .ok (.iload_n 1, 1) := by decide +kernel
theorem dX12_canBe_33 : decode cX12_canBe 33 = .ok (.if_icmp .ge 102, 3) := by decide +kernel
theorem dX12_canBe_36 : decode cX12_canBe 36 = .ok (.aload_n 0, 1) := by decide +kernel
theorem dX12_canBe_37 : decode cX12_canBe 37 = .ok (.getfield 54, 3) := by decide +kernel
theorem dX12_canBe_40 : decode cX12_canBe 40 = .ok (.aload_n 0, 1) := by decide +kernel
theorem dX12_canBe_41 : decode cX12_canBe 41 = .ok (.getfield 105, 3) := by decide +kernel
theorem dX12_canBe_44 : decode cX12_canBe 44 = .ok (.iload_n 1, 1) := by decide +kernel
theorem dX12_canBe_45 : decode cX12_canBe 45 = .ok (.iaload, 1) := by decide +kernel
theorem dX12_canBe_46 : decode cX12_canBe 46 = .ok (.iaload, 1) := by decide +kernel
theorem dX12_canBe_47 : decode cX12_canBe 47 = .ok (.aload_n 0, 1) := by decide +kernel
theorem dX12_canBe_48 : decode cX12_canBe 48 = .ok (.getfield 54, 3) := by decide +kernel
theorem dX12_canBe_51 : decode cX12_canBe 51 = .ok (.aload_n 0, 1) := by decide +kernel
theorem dX12_canBe_52 : decode cX12_canBe 52 = .ok (.getfield 105, 3) := by decide +kernel
theorem dX12_canBe_55 : decode cX12_canBe 55 = .ok (.iload_n 2, 1) := by decide +kernel
theorem dX12_canBe_56 : decode cX12_canBe 56 = .ok (.iaload, 1) := by decide +kernel
theorem dX12_canBe_57 : decode cX12_canBe 57 = .ok (.iaload, 1) := by decide +kernel
theorem dX12_canBe_58 : decode cX12_canBe 58 = .ok (.isub, 1) := by decide +kernel
theorem dX12_canBe_59 : decode cX12_canBe 59 = .ok (.istore_n 3, 1) := by decide +kernel
theorem dX12_canBe_60 : decode cX12_canBe 60 = .ok (.iload_n 3, 1) := by decide +kernel
theorem dX12_canBe_61 : decode cX12_canBe 61 = .ok (.iconst 1, 1) := by decide +kernel
theorem dX12_canBe_62 : decode cX12_canBe 62 = .ok (.if_icmp .eq 14, 3) := by decide +kernel
theorem dX12_canBe_65 : decode cX12_canBe 65 = .ok (.iload_n 3, 1) := by decide +kernel
theorem dX12_canBe_66 : decode cX12_canBe 66 = .ok (.ifCond .ne 12, 3) := by decide +kernel
theorem dX12_canBe_69 : decode cX12_canBe 69 = .ok (.iload_n 1, 1) := by decide +kernel
theorem dX12_canBe_70 : decode cX12_canBe 70 = .ok (.iload_n 2, 1) := by decide +kernel
theorem dX12_canBe_71 : decode cX12_canBe 71 = .ok (.isub, 1) := by decide +kernel
theorem dX12_canBe_72 : decode cX12_canBe 72 = .ok (.iconst 1, 1) := by decide +kernel
theorem dX12_canBe_73 : decode cX12_canBe 73 = .ok (.if_icmp .le 5, 3) := by decide +kernel
theorem dX12_canBe_76 : decode cX12_canBe 76 = .ok (.iconst 0, 1) := by decide +kernel
theorem dX12_canBe_77 : decode cX12_canBe 77 = .ok (.ireturn, 1) := by decide +kernel
theorem dX12_canBe_78 : decode cX12_canBe 78 = .ok (.aload_n 0, 1) := by decide +kernel
theorem dX12_canBe_79 : decode cX12_canBe 79 = .ok (.getfield 51, 3) := by decide +kernel
theorem dX12_canBe_82 : decode cX12_canBe 82 = .ok (.aload_n 0, 1) := by decide +kernel
theorem dX12_canBe_83 : decode cX12_canBe 83 = .ok (.getfield 105, 3) := by decide +kernel
theorem dX12_canBe_86 : decode cX12_canBe 86 = .ok (.iload_n 2, 1) := by decide +kernel
theorem dX12_canBe_87 : decode cX12_canBe 87 = .ok (.iaload, 1) := by decide +kernel
theorem dX12_canBe_88 : decode cX12_canBe 88 = .ok (.iaload, 1) := by decide +kernel
theorem dX12_canBe_89 : decode cX12_canBe 89 = .ok (.aload_n 0, 1) := by decide +kernel
theorem dX12_canBe_90 : decode cX12_canBe 90 = .ok (.getfield 51, 3) := by decide +kernel
theorem dX12_canBe_93 : decode cX12_canBe 93 = .ok (.aload_n 0, 1) := by decide +kernel
theorem dX12_canBe_94 : decode cX12_canBe 94 = .ok (.getfield 105, 3) := by decide +kernel
theorem dX12_canBe_97 : decode cX12_canBe 97 = .ok (.iload_n 1, 1) := by decide +kernel
theorem dX12_canBe_98 : decode cX12_canBe 98 = .ok (.iaload, 1) := by decide +kernel
theorem dX12_canBe_99 : decode cX12_canBe 99 = .ok (.iaload, 1) := by decide +kernel
theorem dX12_canBe_100 : decode cX12_canBe 100 = .ok (.if_icmp .ne 29, 3) := by decide +kernel
theorem dX12_canBe_103 : decode cX12_canBe 103 = .ok (.aload_n 0, 1) := by decide +kernel
theorem dX12_canBe_104 : decode cX12_canBe 104 = .ok (.aload_n 0, 1) := by decide +kernel
theorem dX12_canBe_105 : decode cX12_canBe 105 = .ok (.getfield 105, 3) := by decide +kernel
theorem dX12_canBe_108 : decode cX12_canBe 108 = .ok (.iload_n 2, 1) := by decide +kernel
theorem dX12_canBe_109 : decode cX12_canBe 109 = .ok (.iaload, 1) := by decide +kernel
theorem dX12_canBe_110 : decode cX12_canBe 110 = .ok (.aload_n 0, 1) := by decide +kernel
theorem dX12_canBe_111 : decode cX12_canBe 111 = .ok (.getfield 54, 3) := by decide +kernel
theorem dX12_canBe_114 : decode cX12_canBe 114 = .ok (.aload_n 0, 1) := by decide +kernel
theorem dX12_canBe_115 : decode cX12_canBe 115 = .ok (.getfield 105, 3) := by decide +kernel
theorem dX12_canBe_118 : decode cX12_canBe 118 = .ok (.iload_n 1, 1) := by decide +kernel
theorem dX12_canBe_119 : decode cX12_canBe 119 = .ok (.iaload, 1) := by decide +kernel
theorem dX12_canBe_120 : decode cX12_canBe 120 = .ok (.iaload, 1) := by decide +kernel
theorem dX12_canBe_121 : decode cX12_canBe 121 = .ok (.invokevirtual 333, 3) := by decide +kernel
theorem dX12_canBe_124 : decode cX12_canBe 124 = .ok (.ifCond .ne 5, 3) := by decide +kernel
theorem dX12_canBe_127 : decode cX12_canBe 127 = .ok (.iconst 0, 1) := by decide +kernel
theorem dX12_canBe_128 : decode cX12_canBe 128 = .ok (.ireturn, 1) := by decide +kernel
theorem dX12_canBe_129 : decode cX12_canBe 129 = .ok (.iinc 2 1, 3) := by decide +kernel
theorem dX12_canBe_132 : decode cX12_canBe 132 = .ok (.goto (-101), 3) := by decide +kernel
theorem dX12_canBe_135 : decode cX12_canBe 135 = .ok (.iinc 1 1, 3) := by decide +kernel
theorem dX12_canBe_138 : decode cX12_canBe 138 = .ok (.goto (-136), 3) := by decide +kernel
theorem dX12_canBe_141 : decode cX12_canBe 141 = .ok (.iconst 1, 1) := by decide +kernel
theorem dX12_canBe_142 : decode cX12_canBe 142 = .ok (.ireturn, 1) := by decide +kernel
theorem dX12_value_0 : decode cX12_value 0 = .ok (.aload_n 0, 1) := by decide +kernel
theorem dX12_value_1 : decode cX12_value 1 = .ok (.getfield 105, 3) := by decide +kernel
theorem dX12_value_4 : decode cX12_value 4 = .ok (.iload_n 2, 1) := by decide +kernel
theorem dX12_value_5 : decode cX12_value 5 = .ok (.iaload, 1) := by decide +kernel
theorem dX12_value_6 : decode cX12_value 6 = .ok (.istore 4, 2) := by decide +kernel
theorem dX12_value_8 : decode cX12_value 8 = .ok (.iconst 1, 1) := by decide +kernel
theorem dX12_value_9 : decode cX12_value 9 = .ok (.iload_n 3, 1) := by decide +kernel
theorem dX12_value_10 : decode cX12_value 10 = .ok (.iadd, 1) := by decide +kernel
theorem dX12_value_11 : decode cX12_value 11 = .ok (.istore 5, 2) := by decide +kernel
theorem dX12_value_13 : decode cX12_value 13 = .ok (.iconst 0, 1) := by decide +kernel
theorem dX12_value_14 : decode cX12_value 14 = .ok (.istore 6, 2) := by decide +kernel
theorem dX12_value_16 : decode cX12_value 16 = .ok (.iconst 0, 1) := by decide +kernel
theorem dX12_value_17 : decode cX12_value 17 = .ok (.istore 7, 2) := by decide +kernel
theorem dX12_value_19 : decode cX12_value 19 = .ok (.iload 7, 2) := by decide +kernel
theorem dX12_value_21 : decode cX12_value 21 = .ok (.iload_n 2, 1) := by decide +kernel
theorem dX12_value_22 : decode cX12_value 22 = .ok (.if_icmp .ge 78, 3) := by decide +kernel
theorem dX12_value_25 : decode cX12_value 25 = .ok (.aload_n 0, 1) := by decide +kernel
theorem dX12_value_26 : decode cX12_value 26 = .ok (.getfield 29, 3) := by decide +kernel
theorem dX12_value_29 : decode cX12_value 29 = .ok (.aload_n 0, 1) := by decide +kernel
theorem dX12_value_30 : decode cX12_value 30 = .ok (.getfield 51, 3) := by decide +kernel
theorem dX12_value_33 : decode cX12_value 33 = .ok (.aload_n 0, 1) := by decide +kernel
theorem dX12_value_34 : decode cX12_value 34 = .ok (.getfield 105, 3) := by decide +kernel
theorem dX12_value_37 : decode cX12_value 37 = .ok (.iload 7, 2) := by decide +kernel
theorem dX12_value_39 : decode cX12_value 39 = .ok (.iaload, 1) := by decide +kernel
theorem dX12_value_40 : decode cX12_value 40 = .ok (.iaload, 1) := by decide +kernel
theorem dX12_value_41 : decode cX12_value 41 = .ok (.iaload, 1) := by decide +kernel
theorem dX12_value_42 : decode cX12_value 42 = .ok (.aload_n 0, 1) := by decide +kernel
theorem dX12_value_43 : decode cX12_value 43 = .ok (.getfield 29, 3) := by decide +kernel
theorem dX12_value_46 : decode cX12_value 46 = .ok (.aload_n 0, 1) := by decide +kernel
theorem dX12_value_47 : decode cX12_value 47 = .ok (.getfield 51, 3) := by decide +kernel
theorem dX12_value_50 : decode cX12_value 50 = .ok (.iload 4, 2) := by decide +kernel
theorem dX12_value_52 : decode cX12_value 52 = .ok (.iaload, 1) := by decide +kernel
theorem dX12_value_53 : decode cX12_value 53 = .ok (.iaload, 1) := by decide +kernel
theorem dX12_value_54 : decode cX12_value 54 = .ok (.if_icmp .eq 6, 3) := by decide +kernel
theorem dX12_value_57 : decode cX12_value 57 = .ok (.goto 37, 3) := by decide +kernel
theorem dX12_value_60 : decode cX12_value 60 = .ok (.iinc 5 1, 3) := by decide +kernel
theorem dX12_value_63 : decode cX12_value 63 = .ok (.iload 6, 2) := by decide +kernel
theorem dX12_value_65 : decode cX12_value 65 = .ok (.aload_n 0, 1) := by decide +kernel
theorem dX12_value_66 : decode cX12_value 66 = .ok (.aload_n 0, 1) := by decide +kernel
theorem dX12_value_67 : decode cX12_value 67 = .ok (.getfield 105, 3) := by decide +kernel
theorem dX12_value_70 : decode cX12_value 70 = .ok (.iload 7, 2) := by decide +kernel
theorem dX12_value_72 : decode cX12_value 72 = .ok (.iaload, 1) := by decide +kernel
theorem dX12_value_73 : decode cX12_value 73 = .ok (.aload_n 0, 1) := by decide +kernel
theorem dX12_value_74 : decode cX12_value 74 = .ok (.getfield 54, 3) := by decide +kernel
theorem dX12_value_77 : decode cX12_value 77 = .ok (.iload 4, 2) := by decide +kernel
theorem dX12_value_79 : decode cX12_value 79 = .ok (.iaload, 1) := by decide +kernel
theorem dX12_value_80 : decode cX12_value 80 = .ok (.invokevirtual 333, 3) := by decide +kernel
theorem dX12_value_83 : decode cX12_value 83 = .ok (.ifCond .eq 7, 3) := by decide +kernel
theorem dX12_value_86 : decode cX12_value 86 = .ok (.iconst 1, 1) := by decide +kernel
theorem dX12_value_87 : decode cX12_value 87 = .ok (.goto 4, 3) := by decide +kernel
theorem dX12_value_90 : decode cX12_value 90 = .ok (.iconst 0, 1) := by decide +kernel
theorem dX12_value_91 : decode cX12_value 91 = .ok (.iadd, 1) := by decide +kernel
theorem dX12_value_92 : decode cX12_value 92 = .ok (.istore 6, 2) := by decide +kernel
theorem dX12_value_94 : decode cX12_value 94 = .ok (.iinc 7 1, 3) := by decide +kernel
theorem dX12_value_97 : decode cX12_value 97 = .ok (.goto (-78), 3) := by decide +kernel
theorem dX12_value_100 : decode cX12_value 100 = .ok (.iload_n 1, 1) := by decide +kernel
theorem dX12_value_101 : decode cX12_value 101 = .ok (.tableswitch 236 97 121 #[225, 118, 236, 236, 233, 236, 236, 236, 236, 236, 236, 236, 236, 115, 236, 236, 236, 236, 236, 159, 236, 236, 141, 120, 133], 115) := by decide +kernel
theorem dX12_value_216 : decode cX12_value 216 = .ok (.iload 5, 2) := by decide +kernel
theorem dX12_value_218 : decode cX12_value 218 = .ok (.ireturn, 1) := by decide +kernel
theorem dX12_value_219 : decode cX12_value 219 = .ok (.iload_n 2, 1) := by decide +kernel
theorem dX12_value_220 : decode cX12_value 220 = .ok (.ireturn, 1) := by decide +kernel
theorem dX12_value_221 : decode cX12_value 221 = .ok (.aload_n 0, 1) := by decide +kernel
theorem dX12_value_222 : decode cX12_value 222 = .ok (.getfield 29, 3) := by decide +kernel
theorem dX12_value_225 : decode cX12_value 225 = .ok (.aload_n 0, 1) := by decide +kernel
theorem dX12_value_226 : decode cX12_value 226 = .ok (.getfield 51, 3) := by decide +kernel
theorem dX12_value_229 : decode cX12_value 229 = .ok (.iload 4, 2) := by decide +kernel
theorem dX12_value_231 : decode cX12_value 231 = .ok (.iaload, 1) := by decide +kernel
theorem dX12_value_232 : decode cX12_value 232 = .ok (.iaload, 1) := by decide +kernel
theorem dX12_value_233 : decode cX12_value 233 = .ok (.ireturn, 1) := by decide +kernel
theorem dX12_value_234 : decode cX12_value 234 = .ok (.aload_n 0, 1) := by decide +kernel
theorem dX12_value_235 : decode cX12_value 235 = .ok (.getfield 54, 3) := by decide +kernel
theorem dX12_value_238 : decode cX12_value 238 = .ok (.iload 4, 2) := by decide +kernel
theorem dX12_value_240 : decode cX12_value 240 = .ok (.iaload, 1) := by decide +kernel
theorem dX12_value_241 : decode cX12_value 241 = .ok (.ireturn, 1) := by decide +kernel
theorem dX12_value_242 : decode cX12_value 242 = .ok (.aload_n 0, 1) := by decide +kernel
theorem dX12_value_243 : decode cX12_value 243 = .ok (.getfield 54, 3) := by decide +kernel
theorem dX12_value_246 : decode cX12_value 246 = .ok (.iload 4, 2) := by decide +kernel
theorem dX12_value_248 : decode cX12_value 248 = .ok (.iaload, 1) := by decide +kernel
theorem dX12_value_249 : decode cX12_value 249 = .ok (.aload_n 0, 1) := by decide +kernel
theorem dX12_value_250 : decode cX12_value 250 = .ok (.getfield 42, 3) := by decide +kernel
theorem dX12_value_253 : decode cX12_value 253 = .ok (.aload_n 0, 1) := by decide +kernel
theorem dX12_value_254 : decode cX12_value 254 = .ok (.getfield 318, 3) := by decide +kernel
theorem dX12_value_257 : decode cX12_value 257 = .ok (.iaload, 1) := by decide +kernel
theorem dX12_value_258 : decode cX12_value 258 = .ok (.isub, 1) := by decide +kernel
theorem dX12_value_259 : decode cX12_value 259 = .ok (.ireturn, 1) := by decide +kernel
theorem dX12_value_260 : decode cX12_value 260 = .ok (.iload_n 2, 1) := by decide +kernel
theorem dX12_value_261 : decode cX12_value 261 = .ok (.ifCond .le 26, 3) := by decide +kernel
theorem dX12_value_264 : decode cX12_value 264 = .ok (.aload_n 0, 1) := by decide +kernel
theorem dX12_value_265 : decode cX12_value 265 = .ok (.getfield 54, 3) := by decide +kernel
theorem dX12_value_268 : decode cX12_value 268 = .ok (.aload_n 0, 1) := by decide +kernel
theorem dX12_value_269 : decode cX12_value 269 = .ok (.getfield 105, 3) := by decide +kernel
theorem dX12_value_272 : decode cX12_value 272 = .ok (.iload_n 2, 1) := by decide +kernel
theorem dX12_value_273 : decode cX12_value 273 = .ok (.iconst 1, 1) := by decide +kernel
theorem dX12_value_274 : decode cX12_value 274 = .ok (.isub, 1) := by decide +kernel
theorem dX12_value_275 : decode cX12_value 275 = .ok (.iaload, 1) := by decide +kernel
theorem dX12_value_276 : decode cX12_value 276 = .ok (.iaload, 1) := by decide +kernel
theorem dX12_value_277 : decode cX12_value 277 = .ok (.aload_n 0, 1) := by decide +kernel
theorem dX12_value_278 : decode cX12_value 278 = .ok (.getfield 54, 3) := by decide +kernel
theorem dX12_value_281 : decode cX12_value 281 = .ok (.iload 4, 2) := by decide +kernel
theorem dX12_value_283 : decode cX12_value 283 = .ok (.iaload, 1) := by decide +kernel
theorem dX12_value_284 : decode cX12_value 284 = .ok (.if_icmp .eq 36, 3) := by decide +kernel
theorem dX12_value_287 : decode cX12_value 287 = .ok (.iload_n 2, 1) := by decide +kernel
theorem dX12_value_288 : decode cX12_value 288 = .ok (.iconst 1, 1) := by decide +kernel
theorem dX12_value_289 : decode cX12_value 289 = .ok (.iadd, 1) := by decide +kernel
theorem dX12_value_290 : decode cX12_value 290 = .ok (.aload_n 0, 1) := by decide +kernel
theorem dX12_value_291 : decode cX12_value 291 = .ok (.getfield 321, 3) := by decide +kernel
theorem dX12_value_294 : decode cX12_value 294 = .ok (.if_icmp .ge 30, 3) := by decide +kernel
theorem dX12_value_297 : decode cX12_value 297 = .ok (.aload_n 0, 1) := by decide +kernel
theorem dX12_value_298 : decode cX12_value 298 = .ok (.getfield 54, 3) := by decide +kernel
theorem dX12_value_301 : decode cX12_value 301 = .ok (.aload_n 0, 1) := by decide +kernel
theorem dX12_value_302 : decode cX12_value 302 = .ok (.getfield 105, 3) := by decide +kernel
theorem dX12_value_305 : decode cX12_value 305 = .ok (.iload_n 2, 1) := by decide +kernel
theorem dX12_value_306 : decode cX12_value 306 = .ok (.iconst 1, 1) := by decide +kernel
theorem dX12_value_307 : decode cX12_value 307 = .ok (.iadd, 1) := by decide +kernel
theorem dX12_value_308 : decode cX12_value 308 = .ok (.iaload, 1) := by decide +kernel
theorem dX12_value_309 : decode cX12_value 309 = .ok (.iaload, 1) := by decide +kernel
theorem dX12_value_310 : decode cX12_value 310 = .ok (.aload_n 0, 1) := by decide +kernel
theorem dX12_value_311 : decode cX12_value 311 = .ok (.getfield 54, 3) := by decide +kernel
theorem dX12_value_314 : decode cX12_value 314 = .ok (.iload 4, 2) := by decide +kernel
theorem dX12_value_316 : decode cX12_value 316 = .ok (.iaload, 1) := by decide +kernel
theorem dX12_value_317 : decode cX12_value 317 = .ok (.if_icmp .ne 7, 3) := by decide +kernel
theorem dX12_value_320 : decode cX12_value 320 = .ok (.iconst 1, 1) := by decide +kernel
theorem dX12_value_321 : decode cX12_value 321 = .ok (.goto 4, 3) := by decide +kernel
theorem dX12_value_324 : decode cX12_value 324 = .ok (.iconst 0, 1) := by decide +kernel
theorem dX12_value_325 : decode cX12_value 325 = .ok (.ireturn, 1) := by decide +kernel
theorem dX12_value_326 : decode cX12_value 326 = .ok (.aload_n 0, 1) := by decide +kernel
theorem dX12_value_327 : decode cX12_value 327 = .ok (.getfield 51, 3) := by decide +kernel
theorem dX12_value_330 : decode cX12_value 330 = .ok (.iload 4, 2) := by decide +kernel
theorem dX12_value_332 : decode cX12_value 332 = .ok (.iaload, 1) := by decide +kernel
theorem dX12_value_333 : decode cX12_value 333 = .ok (.ireturn, 1) := by decide +kernel
theorem dX12_value_334 : decode cX12_value 334 = .ok (.iload 6, 2) := by decide +kernel
theorem dX12_value_336 : decode cX12_value 336 = .ok (.ireturn, 1) := by decide +kernel
theorem dX12_value_337 : decode cX12_value 337 = .ok (.aload_n 0, 1) := by decide +kernel
theorem dX12_value_338 : decode cX12_value 338 = .ok (.getfield 321, 3) := by decide +kernel
theorem dX12_value_341 : decode cX12_value 341 = .ok (.ireturn, 1) := by decide +kernel
theorem dX12_worked_0 : decode cX12_worked 0 = .ok (.iload_n 0, 1) := by decide +kernel
theorem dX12_worked_1 : decode cX12_worked 1 = .ok (.lookupswitch 125 #[(37, 91), (42, 75), (43, 67), (45, 71), (47, 79), (60, 103), (62, 114)], 67) := by decide +kernel
theorem dX12_worked_68 : decode cX12_worked 68 = .ok (.iload_n 1, 1) := by decide +kernel
theorem dX12_worked_69 : decode cX12_worked 69 = .ok (.iload_n 2, 1) := by decide +kernel
theorem dX12_worked_70 : decode cX12_worked 70 = .ok (.iadd, 1) := by decide +kernel
theorem dX12_worked_71 : decode cX12_worked 71 = .ok (.ireturn, 1) := by decide +kernel
theorem dX12_worked_72 : decode cX12_worked 72 = .ok (.iload_n 1, 1) := by decide +kernel
theorem dX12_worked_73 : decode cX12_worked 73 = .ok (.iload_n 2, 1) := by decide +kernel
theorem dX12_worked_74 : decode cX12_worked 74 = .ok (.isub, 1) := by decide +kernel
theorem dX12_worked_75 : decode cX12_worked 75 = .ok (.ireturn, 1) := by decide +kernel
theorem dX12_worked_76 : decode cX12_worked 76 = .ok (.iload_n 1, 1) := by decide +kernel
theorem dX12_worked_77 : decode cX12_worked 77 = .ok (.iload_n 2, 1) := by decide +kernel
theorem dX12_worked_78 : decode cX12_worked 78 = .ok (.imul, 1) := by decide +kernel
theorem dX12_worked_79 : decode cX12_worked 79 = .ok (.ireturn, 1) := by decide +kernel
theorem dX12_worked_80 : decode cX12_worked 80 = .ok (.iload_n 2, 1) := by decide +kernel
theorem dX12_worked_81 : decode cX12_worked 81 = .ok (.ifCond .ne 7, 3) := by decide +kernel
theorem dX12_worked_84 : decode cX12_worked 84 = .ok (.iconst 0, 1) := by decide +kernel
theorem dX12_worked_85 : decode cX12_worked 85 = .ok (.goto 6, 3) := by decide +kernel
theorem dX12_worked_88 : decode cX12_worked 88 = .ok (.iload_n 1, 1) := by decide +kernel
theorem dX12_worked_89 : decode cX12_worked 89 = .ok (.iload_n 2, 1) := by decide +kernel
theorem dX12_worked_90 : decode cX12_worked 90 = .ok (.idiv, 1) := by decide +kernel
theorem dX12_worked_91 : decode cX12_worked 91 = .ok (.ireturn, 1) := by decide +kernel
theorem dX12_worked_92 : decode cX12_worked 92 = .ok (.iload_n 2, 1) := by decide +kernel
theorem dX12_worked_93 : decode cX12_worked 93 = .ok (.ifCond .ne 7, 3) := by decide +kernel
theorem dX12_worked_96 : decode cX12_worked 96 = .ok (.iconst 0, 1) := by decide +kernel
theorem dX12_worked_97 : decode cX12_worked 97 = .ok (.goto 6, 3) := by decide +kernel
theorem dX12_worked_100 : decode cX12_worked 100 = .ok (.iload_n 1, 1) := by decide +kernel
theorem dX12_worked_101 : decode cX12_worked 101 = .ok (.iload_n 2, 1) := by decide +kernel
theorem dX12_worked_102 : decode cX12_worked 102 = .ok (.irem, 1) := by decide +kernel
theorem dX12_worked_103 : decode cX12_worked 103 = .ok (.ireturn, 1) := by decide +kernel
theorem dX12_worked_104 : decode cX12_worked 104 = .ok (.iload_n 1, 1) := by decide +kernel
theorem dX12_worked_105 : decode cX12_worked 105 = .ok (.iload_n 2, 1) := by decide +kernel
theorem dX12_worked_106 : decode cX12_worked 106 = .ok (.if_icmp .ge 7, 3) := by decide +kernel
theorem dX12_worked_109 : decode cX12_worked 109 = .ok (.iconst 1, 1) := by decide +kernel
theorem dX12_worked_110 : decode cX12_worked 110 = .ok (.goto 4, 3) := by decide +kernel
theorem dX12_worked_113 : decode cX12_worked 113 = .ok (.iconst 0, 1) := by decide +kernel
theorem dX12_worked_114 : decode cX12_worked 114 = .ok (.ireturn, 1) := by decide +kernel
theorem dX12_worked_115 : decode cX12_worked 115 = .ok (.iload_n 1, 1) := by decide +kernel
theorem dX12_worked_116 : decode cX12_worked 116 = .ok (.iload_n 2, 1) := by decide +kernel
theorem dX12_worked_117 : decode cX12_worked 117 = .ok (.if_icmp .le 7, 3) := by decide +kernel
theorem dX12_worked_120 : decode cX12_worked 120 = .ok (.iconst 1, 1) := by decide +kernel
theorem dX12_worked_121 : decode cX12_worked 121 = .ok (.goto 4, 3) := by decide +kernel
theorem dX12_worked_124 : decode cX12_worked 124 = .ok (.iconst 0, 1) := by decide +kernel
theorem dX12_worked_125 : decode cX12_worked 125 = .ok (.ireturn, 1) := by decide +kernel
theorem dX12_worked_126 : decode cX12_worked 126 = .ok (.iload_n 1, 1) := by decide +kernel
theorem dX12_worked_127 : decode cX12_worked 127 = .ok (.iload_n 2, 1) := by decide +kernel
theorem dX12_worked_128 : decode cX12_worked 128 = .ok (.if_icmp .ne 7, 3) := by decide +kernel
theorem dX12_worked_131 : decode cX12_worked 131 = .ok (.iconst 1, 1) := by decide +kernel
theorem dX12_worked_132 : decode cX12_worked 132 = .ok (.goto 4, 3) := by decide +kernel
theorem dX12_worked_135 : decode cX12_worked 135 = .ok (.iconst 0, 1) := by decide +kernel
theorem dX12_worked_136 : decode cX12_worked 136 = .ok (.ireturn, 1) := by decide +kernel
theorem dX12_does_0 : decode cX12_does 0 = .ok (.iload_n 2, 1) := by decide +kernel
theorem dX12_does_1 : decode cX12_does 1 = .ok (.iconst 1, 1) := by decide +kernel
theorem dX12_does_2 : decode cX12_does 2 = .ok (.iadd, 1) := by decide +kernel
theorem dX12_does_3 : decode cX12_does 3 = .ok (.istore_n 3, 1) := by decide +kernel
theorem dX12_does_4 : decode cX12_does 4 = .ok (.iload_n 1, 1) := by decide +kernel
theorem dX12_does_5 : decode cX12_does 5 = .ok (.bipush 38, 2) := by decide +kernel
theorem dX12_does_7 : decode cX12_does 7 = .ok (.if_icmp .eq 9, 3) := by decide +kernel
theorem dX12_does_10 : decode cX12_does 10 = .ok (.iload_n 1, 1) := by decide +kernel
theorem dX12_does_11 : decode cX12_does 11 = .ok (.bipush 124, 2) := by decide +kernel
theorem dX12_does_13 : decode cX12_does 13 = .ok (.if_icmp .ne 58, 3) := by decide +kernel
theorem dX12_does_16 : decode cX12_does 16 = .ok (.aload_n 0, 1) := by decide +kernel
theorem dX12_does_17 : decode cX12_does 17 = .ok (.getfield 117, 3) := by decide +kernel
theorem dX12_does_20 : decode cX12_does 20 = .ok (.iload_n 2, 1) := by decide +kernel
theorem dX12_does_21 : decode cX12_does 21 = .ok (.baload, 1) := by decide +kernel
theorem dX12_does_22 : decode cX12_does 22 = .ok (.ifCond .ne 23, 3) := by decide +kernel
theorem dX12_does_25 : decode cX12_does 25 = .ok (.aload_n 0, 1) := by decide +kernel
theorem dX12_does_26 : decode cX12_does 26 = .ok (.getfield 114, 3) := by decide +kernel
theorem dX12_does_29 : decode cX12_does 29 = .ok (.iload_n 2, 1) := by decide +kernel
theorem dX12_does_30 : decode cX12_does 30 = .ok (.iaload, 1) := by decide +kernel
theorem dX12_does_31 : decode cX12_does 31 = .ok (.iload_n 1, 1) := by decide +kernel
theorem dX12_does_32 : decode cX12_does 32 = .ok (.bipush 38, 2) := by decide +kernel
theorem dX12_does_34 : decode cX12_does 34 = .ok (.if_icmp .ne 7, 3) := by decide +kernel
theorem dX12_does_37 : decode cX12_does 37 = .ok (.iconst 1, 1) := by decide +kernel
theorem dX12_does_38 : decode cX12_does 38 = .ok (.goto 4, 3) := by decide +kernel
theorem dX12_does_41 : decode cX12_does 41 = .ok (.iconst 0, 1) := by decide +kernel
theorem dX12_does_42 : decode cX12_does 42 = .ok (.if_icmp .eq 4, 3) := by decide +kernel
theorem dX12_does_45 : decode cX12_does 45 = .ok (.return_, 1) := by decide +kernel
theorem dX12_does_46 : decode cX12_does 46 = .ok (.aload_n 0, 1) := by decide +kernel
theorem dX12_does_47 : decode cX12_does 47 = .ok (.getfield 114, 3) := by decide +kernel
theorem dX12_does_50 : decode cX12_does 50 = .ok (.iload_n 2, 1) := by decide +kernel
theorem dX12_does_51 : decode cX12_does 51 = .ok (.aload_n 0, 1) := by decide +kernel
theorem dX12_does_52 : decode cX12_does 52 = .ok (.getfield 114, 3) := by decide +kernel
theorem dX12_does_55 : decode cX12_does 55 = .ok (.iload_n 3, 1) := by decide +kernel
theorem dX12_does_56 : decode cX12_does 56 = .ok (.iaload, 1) := by decide +kernel
theorem dX12_does_57 : decode cX12_does 57 = .ok (.iastore, 1) := by decide +kernel
theorem dX12_does_58 : decode cX12_does 58 = .ok (.aload_n 0, 1) := by decide +kernel
theorem dX12_does_59 : decode cX12_does 59 = .ok (.getfield 117, 3) := by decide +kernel
theorem dX12_does_62 : decode cX12_does 62 = .ok (.iload_n 2, 1) := by decide +kernel
theorem dX12_does_63 : decode cX12_does 63 = .ok (.aload_n 0, 1) := by decide +kernel
theorem dX12_does_64 : decode cX12_does 64 = .ok (.getfield 117, 3) := by decide +kernel
theorem dX12_does_67 : decode cX12_does 67 = .ok (.iload_n 3, 1) := by decide +kernel
theorem dX12_does_68 : decode cX12_does 68 = .ok (.baload, 1) := by decide +kernel
theorem dX12_does_69 : decode cX12_does 69 = .ok (.bastore, 1) := by decide +kernel
theorem dX12_does_70 : decode cX12_does 70 = .ok (.return_, 1) := by decide +kernel
theorem dX12_does_71 : decode cX12_does 71 = .ok (.aload_n 0, 1) := by decide +kernel
theorem dX12_does_72 : decode cX12_does 72 = .ok (.getfield 117, 3) := by decide +kernel
theorem dX12_does_75 : decode cX12_does 75 = .ok (.iload_n 2, 1) := by decide +kernel
theorem dX12_does_76 : decode cX12_does 76 = .ok (.aload_n 0, 1) := by decide +kernel
theorem dX12_does_77 : decode cX12_does 77 = .ok (.getfield 117, 3) := by decide +kernel
theorem dX12_does_80 : decode cX12_does 80 = .ok (.iload_n 2, 1) := by decide +kernel
theorem dX12_does_81 : decode cX12_does 81 = .ok (.baload, 1) := by decide +kernel
theorem dX12_does_82 : decode cX12_does 82 = .ok (.ifCond .ne 33, 3) := by decide +kernel
theorem dX12_does_85 : decode cX12_does 85 = .ok (.aload_n 0, 1) := by decide +kernel
theorem dX12_does_86 : decode cX12_does 86 = .ok (.getfield 117, 3) := by decide +kernel
theorem dX12_does_89 : decode cX12_does 89 = .ok (.iload_n 3, 1) := by decide +kernel
theorem dX12_does_90 : decode cX12_does 90 = .ok (.baload, 1) := by decide +kernel
theorem dX12_does_91 : decode cX12_does 91 = .ok (.ifCond .ne 24, 3) := by decide +kernel
theorem dX12_does_94 : decode cX12_does 94 = .ok (.iload_n 1, 1) := by decide +kernel
theorem dX12_does_95 : decode cX12_does 95 = .ok (.bipush 47, 2) := by decide +kernel
theorem dX12_does_97 : decode cX12_does 97 = .ok (.if_icmp .eq 9, 3) := by decide +kernel
theorem dX12_does_100 : decode cX12_does 100 = .ok (.iload_n 1, 1) := by decide +kernel
theorem dX12_does_101 : decode cX12_does 101 = .ok (.bipush 37, 2) := by decide +kernel
theorem dX12_does_103 : decode cX12_does 103 = .ok (.if_icmp .ne 16, 3) := by decide +kernel
theorem dX12_does_106 : decode cX12_does 106 = .ok (.aload_n 0, 1) := by decide +kernel
theorem dX12_does_107 : decode cX12_does 107 = .ok (.getfield 114, 3) := by decide +kernel
theorem dX12_does_110 : decode cX12_does 110 = .ok (.iload_n 3, 1) := by decide +kernel
theorem dX12_does_111 : decode cX12_does 111 = .ok (.iaload, 1) := by decide +kernel
theorem dX12_does_112 : decode cX12_does 112 = .ok (.ifCond .ne 7, 3) := by decide +kernel
theorem dX12_does_115 : decode cX12_does 115 = .ok (.iconst 1, 1) := by decide +kernel
theorem dX12_does_116 : decode cX12_does 116 = .ok (.goto 4, 3) := by decide +kernel
theorem dX12_does_119 : decode cX12_does 119 = .ok (.iconst 0, 1) := by decide +kernel
theorem dX12_does_120 : decode cX12_does 120 = .ok (.bastore, 1) := by decide +kernel
theorem dX12_does_121 : decode cX12_does 121 = .ok (.aload_n 0, 1) := by decide +kernel
theorem dX12_does_122 : decode cX12_does 122 = .ok (.getfield 114, 3) := by decide +kernel
theorem dX12_does_125 : decode cX12_does 125 = .ok (.iload_n 2, 1) := by decide +kernel
theorem dX12_does_126 : decode cX12_does 126 = .ok (.iload_n 1, 1) := by decide +kernel
theorem dX12_does_127 : decode cX12_does 127 = .ok (.aload_n 0, 1) := by decide +kernel
theorem dX12_does_128 : decode cX12_does 128 = .ok (.getfield 114, 3) := by decide +kernel
theorem dX12_does_131 : decode cX12_does 131 = .ok (.iload_n 2, 1) := by decide +kernel
theorem dX12_does_132 : decode cX12_does 132 = .ok (.iaload, 1) := by decide +kernel
theorem dX12_does_133 : decode cX12_does 133 = .ok (.aload_n 0, 1) := by decide +kernel
theorem dX12_does_134 : decode cX12_does 134 = .ok (.getfield 114, 3) := by decide +kernel
theorem dX12_does_137 : decode cX12_does 137 = .ok (.iload_n 3, 1) := by decide +kernel
theorem dX12_does_138 : decode cX12_does 138 = .ok (.iaload, 1) := by decide +kernel
theorem dX12_does_139 : decode cX12_does 139 = .ok (.invokestatic 336, 3) := by decide +kernel
theorem dX12_does_142 : decode cX12_does 142 = .ok (.iastore, 1) := by decide +kernel
theorem dX12_does_143 : decode cX12_does 143 = .ok (.return_, 1) := by decide +kernel
theorem dX12_holds_0 : decode cX12_holds 0 = .ok (.iconst 0, 1) := by decide +kernel
theorem dX12_holds_1 : decode cX12_holds 1 = .ok (.istore 4, 2) := by decide +kernel
theorem dX12_holds_3 : decode cX12_holds 3 = .ok (.aload_n 0, 1) := by decide +kernel
theorem dX12_holds_4 : decode cX12_holds 4 = .ok (.getfield 75, 3) := by decide +kernel
theorem dX12_holds_7 : decode cX12_holds 7 = .ok (.iload_n 1, 1) := by decide +kernel
theorem dX12_holds_8 : decode cX12_holds 8 = .ok (.iaload, 1) := by decide +kernel
theorem dX12_holds_9 : decode cX12_holds 9 = .ok (.istore 5, 2) := by decide +kernel
theorem dX12_holds_11 : decode cX12_holds 11 = .ok (.iload 5, 2) := by decide +kernel
theorem dX12_holds_13 : decode cX12_holds 13 = .ok (.aload_n 0, 1) := by decide +kernel
theorem dX12_holds_14 : decode cX12_holds 14 = .ok (.getfield 78, 3) := by decide +kernel
theorem dX12_holds_17 : decode cX12_holds 17 = .ok (.iload_n 1, 1) := by decide +kernel
theorem dX12_holds_18 : decode cX12_holds 18 = .ok (.iaload, 1) := by decide +kernel
theorem dX12_holds_19 : decode cX12_holds 19 = .ok (.if_icmp .ge 126, 3) := by decide +kernel
theorem dX12_holds_22 : decode cX12_holds 22 = .ok (.aload_n 0, 1) := by decide +kernel
theorem dX12_holds_23 : decode cX12_holds 23 = .ok (.getfield 81, 3) := by decide +kernel
theorem dX12_holds_26 : decode cX12_holds 26 = .ok (.iload 5, 2) := by decide +kernel
theorem dX12_holds_28 : decode cX12_holds 28 = .ok (.iaload, 1) := by decide +kernel
theorem dX12_holds_29 : decode cX12_holds 29 = .ok (.iconst 2, 1) := by decide +kernel
theorem dX12_holds_30 : decode cX12_holds 30 = .ok (.if_icmp .le 24, 3) := by decide +kernel
theorem dX12_holds_33 : decode cX12_holds 33 = .ok (.iinc 4 (-1), 3) := by decide +kernel
theorem dX12_holds_36 : decode cX12_holds 36 = .ok (.aload_n 0, 1) := by decide +kernel
theorem dX12_holds_37 : decode cX12_holds 37 = .ok (.aload_n 0, 1) := by decide +kernel
theorem dX12_holds_38 : decode cX12_holds 38 = .ok (.getfield 81, 3) := by decide +kernel
theorem dX12_holds_41 : decode cX12_holds 41 = .ok (.iload 5, 2) := by decide +kernel
theorem dX12_holds_43 : decode cX12_holds 43 = .ok (.iaload, 1) := by decide +kernel
theorem dX12_holds_44 : decode cX12_holds 44 = .ok (.iload 4, 2) := by decide +kernel
theorem dX12_holds_46 : decode cX12_holds 46 = .ok (.iconst 1, 1) := by decide +kernel
theorem dX12_holds_47 : decode cX12_holds 47 = .ok (.isub, 1) := by decide +kernel
theorem dX12_holds_48 : decode cX12_holds 48 = .ok (.invokevirtual 340, 3) := by decide +kernel
theorem dX12_holds_51 : decode cX12_holds 51 = .ok (.goto 88, 3) := by decide +kernel
theorem dX12_holds_54 : decode cX12_holds 54 = .ok (.aload_n 0, 1) := by decide +kernel
theorem dX12_holds_55 : decode cX12_holds 55 = .ok (.getfield 81, 3) := by decide +kernel
theorem dX12_holds_58 : decode cX12_holds 58 = .ok (.iload 5, 2) := by decide +kernel
theorem dX12_holds_60 : decode cX12_holds 60 = .ok (.iaload, 1) := by decide +kernel
theorem dX12_holds_61 : decode cX12_holds 61 = .ok (.iconst 2, 1) := by decide +kernel
theorem dX12_holds_62 : decode cX12_holds 62 = .ok (.if_icmp .ne 26, 3) := by decide +kernel
theorem dX12_holds_65 : decode cX12_holds 65 = .ok (.aload_n 0, 1) := by decide +kernel
theorem dX12_holds_66 : decode cX12_holds 66 = .ok (.getfield 114, 3) := by decide +kernel
theorem dX12_holds_69 : decode cX12_holds 69 = .ok (.iload 4, 2) := by decide +kernel
theorem dX12_holds_71 : decode cX12_holds 71 = .ok (.iconst 1, 1) := by decide +kernel
theorem dX12_holds_72 : decode cX12_holds 72 = .ok (.isub, 1) := by decide +kernel
theorem dX12_holds_73 : decode cX12_holds 73 = .ok (.iconst 1, 1) := by decide +kernel
theorem dX12_holds_74 : decode cX12_holds 74 = .ok (.aload_n 0, 1) := by decide +kernel
theorem dX12_holds_75 : decode cX12_holds 75 = .ok (.getfield 114, 3) := by decide +kernel
theorem dX12_holds_78 : decode cX12_holds 78 = .ok (.iload 4, 2) := by decide +kernel
theorem dX12_holds_80 : decode cX12_holds 80 = .ok (.iconst 1, 1) := by decide +kernel
theorem dX12_holds_81 : decode cX12_holds 81 = .ok (.isub, 1) := by decide +kernel
