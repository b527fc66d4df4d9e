theorem dX12_holds_82 : decode cX12_holds 82 = .ok (.iaload, 1) := by decide +kernel
theorem dX12_holds_83 : decode cX12_holds 83 = .ok (.isub, 1) := by decide +kernel
theorem dX12_holds_84 : decode cX12_holds 84 = .ok (.iastore, 1) := by decide +kernel
theorem dX12_holds_85 : decode cX12_holds 85 = .ok (.goto 54, 3) := by decide +kernel
theorem dX12_holds_88 : decode cX12_holds 88 = .ok (.aload_n 0, 1) := by decide +kernel
theorem dX12_holds_89 : decode cX12_holds 89 = .ok (.getfield 117, 3) := by decide +kernel
theorem dX12_holds_92 : decode cX12_holds 92 = .ok (.iload 4, 2) := by decide +kernel
theorem dX12_holds_94 : decode cX12_holds 94 = .ok (.iconst 0, 1) := by decide +kernel
theorem dX12_holds_95 : decode cX12_holds 95 = .ok (.bastore, 1) := by decide +kernel
theorem dX12_holds_96 : decode cX12_holds 96 = .ok (.aload_n 0, 1) := by decide +kernel
theorem dX12_holds_97 : decode cX12_holds 97 = .ok (.getfield 114, 3) := by decide +kernel
theorem dX12_holds_100 : decode cX12_holds 100 = .ok (.iload 4, 2) := by decide +kernel
theorem dX12_holds_102 : decode cX12_holds 102 = .ok (.aload_n 0, 1) := by decide +kernel
theorem dX12_holds_103 : decode cX12_holds 103 = .ok (.getfield 81, 3) := by decide +kernel
theorem dX12_holds_106 : decode cX12_holds 106 = .ok (.iload 5, 2) := by decide +kernel
theorem dX12_holds_108 : decode cX12_holds 108 = .ok (.iaload, 1) := by decide +kernel
theorem dX12_holds_109 : decode cX12_holds 109 = .ok (.ifCond .ne 13, 3) := by decide +kernel
theorem dX12_holds_112 : decode cX12_holds 112 = .ok (.aload_n 0, 1) := by decide +kernel
theorem dX12_holds_113 : decode cX12_holds 113 = .ok (.getfield 84, 3) := by decide +kernel
theorem dX12_holds_116 : decode cX12_holds 116 = .ok (.iload 5, 2) := by decide +kernel
theorem dX12_holds_118 : decode cX12_holds 118 = .ok (.iaload, 1) := by decide +kernel
theorem dX12_holds_119 : decode cX12_holds 119 = .ok (.goto 16, 3) := by decide +kernel
theorem dX12_holds_122 : decode cX12_holds 122 = .ok (.aload_n 0, 1) := by decide +kernel
theorem dX12_holds_123 : decode cX12_holds 123 = .ok (.aload_n 0, 1) := by decide +kernel
theorem dX12_holds_124 : decode cX12_holds 124 = .ok (.getfield 84, 3) := by decide +kernel
theorem dX12_holds_127 : decode cX12_holds 127 = .ok (.iload 5, 2) := by decide +kernel
theorem dX12_holds_129 : decode cX12_holds 129 = .ok (.iaload, 1) := by decide +kernel
theorem dX12_holds_130 : decode cX12_holds 130 = .ok (.iload_n 2, 1) := by decide +kernel
theorem dX12_holds_131 : decode cX12_holds 131 = .ok (.iload_n 3, 1) := by decide +kernel
theorem dX12_holds_132 : decode cX12_holds 132 = .ok (.invokevirtual 343, 3) := by decide +kernel
theorem dX12_holds_135 : decode cX12_holds 135 = .ok (.iastore, 1) := by decide +kernel
theorem dX12_holds_136 : decode cX12_holds 136 = .ok (.iinc 4 1, 3) := by decide +kernel
theorem dX12_holds_139 : decode cX12_holds 139 = .ok (.iinc 5 1, 3) := by decide +kernel
theorem dX12_holds_142 : decode cX12_holds 142 = .ok (.goto (-131), 3) := by decide +kernel
theorem dX12_holds_145 : decode cX12_holds 145 = .ok (.aload_n 0, 1) := by decide +kernel
theorem dX12_holds_146 : decode cX12_holds 146 = .ok (.getfield 117, 3) := by decide +kernel
theorem dX12_holds_149 : decode cX12_holds 149 = .ok (.iconst 0, 1) := by decide +kernel
theorem dX12_holds_150 : decode cX12_holds 150 = .ok (.baload, 1) := by decide +kernel
theorem dX12_holds_151 : decode cX12_holds 151 = .ok (.ifCond .ne 17, 3) := by decide +kernel
theorem dX12_holds_154 : decode cX12_holds 154 = .ok (.aload_n 0, 1) := by decide +kernel
theorem dX12_holds_155 : decode cX12_holds 155 = .ok (.getfield 114, 3) := by decide +kernel
theorem dX12_holds_158 : decode cX12_holds 158 = .ok (.iconst 0, 1) := by decide +kernel
theorem dX12_holds_159 : decode cX12_holds 159 = .ok (.iaload, 1) := by decide +kernel
theorem dX12_holds_160 : decode cX12_holds 160 = .ok (.iconst 1, 1) := by decide +kernel
theorem dX12_holds_161 : decode cX12_holds 161 = .ok (.if_icmp .ne 7, 3) := by decide +kernel
theorem dX12_holds_164 : decode cX12_holds 164 = .ok (.iconst 1, 1) := by decide +kernel
theorem dX12_holds_165 : decode cX12_holds 165 = .ok (.goto 4, 3) := by decide +kernel
theorem dX12_holds_168 : decode cX12_holds 168 = .ok (.iconst 0, 1) := by decide +kernel
theorem dX12_holds_169 : decode cX12_holds 169 = .ok (.ireturn, 1) := by decide +kernel
theorem dX12_deadOf_0 : decode cX12_deadOf 0 = .ok (.iload_n 1, 1) := by decide +kernel
theorem dX12_deadOf_1 : decode cX12_deadOf 1 = .ok (.iconst 1, 1) := by decide +kernel
theorem dX12_deadOf_2 : decode cX12_deadOf 2 = .ok (.isub, 1) := by decide +kernel
theorem dX12_deadOf_3 : decode cX12_deadOf 3 = .ok (.istore_n 2, 1) := by decide +kernel
theorem dX12_deadOf_4 : decode cX12_deadOf 4 = .ok (.iload_n 2, 1) := by decide +kernel
theorem dX12_deadOf_5 : decode cX12_deadOf 5 = .ok (.ifCond .lt 128, 3) := by decide +kernel
theorem dX12_deadOf_8 : decode cX12_deadOf 8 = .ok (.aload_n 0, 1) := by decide +kernel
theorem dX12_deadOf_9 : decode cX12_deadOf 9 = .ok (.getfield 105, 3) := by decide +kernel
theorem dX12_deadOf_12 : decode cX12_deadOf 12 = .ok (.iload_n 2, 1) := by decide +kernel
theorem dX12_deadOf_13 : decode cX12_deadOf 13 = .ok (.iaload, 1) := by decide +kernel
theorem dX12_deadOf_14 : decode cX12_deadOf 14 = .ok (.istore_n 3, 1) := by decide +kernel
theorem dX12_deadOf_15 : decode cX12_deadOf 15 = .ok (.aload_n 0, 1) := by decide +kernel
theorem dX12_deadOf_16 : decode cX12_deadOf 16 = .ok (.getfield 29, 3) := by decide +kernel
theorem dX12_deadOf_19 : decode cX12_deadOf 19 = .ok (.aload_n 0, 1) := by decide +kernel
theorem dX12_deadOf_20 : decode cX12_deadOf 20 = .ok (.getfield 51, 3) := by decide +kernel
theorem dX12_deadOf_23 : decode cX12_deadOf 23 = .ok (.iload_n 3, 1) := by decide +kernel
theorem dX12_deadOf_24 : decode cX12_deadOf 24 = .ok (.iaload, 1) := by decide +kernel
theorem dX12_deadOf_25 : decode cX12_deadOf 25 = .ok (.iaload, 1) := by decide +kernel
theorem dX12_deadOf_26 : decode cX12_deadOf 26 = .ok (.aload_n 0, 1) := by decide +kernel
theorem dX12_deadOf_27 : decode cX12_deadOf 27 = .ok (.getfield 29, 3) := by decide +kernel
theorem dX12_deadOf_30 : decode cX12_deadOf 30 = .ok (.aload_n 0, 1) := by decide +kernel
theorem dX12_deadOf_31 : decode cX12_deadOf 31 = .ok (.getfield 51, 3) := by decide +kernel
theorem dX12_deadOf_34 : decode cX12_deadOf 34 = .ok (.aload_n 0, 1) := by decide +kernel
theorem dX12_deadOf_35 : decode cX12_deadOf 35 = .ok (.getfield 105, 3) := by decide +kernel
theorem dX12_deadOf_38 : decode cX12_deadOf 38 = .ok (.iload_n 1, 1) := by decide +kernel
theorem dX12_deadOf_39 : decode cX12_deadOf 39 = .ok (.iaload, 1) := by decide +kernel
theorem dX12_deadOf_40 : decode cX12_deadOf 40 = .ok (.iaload, 1) := by decide +kernel
theorem dX12_deadOf_41 : decode cX12_deadOf 41 = .ok (.iaload, 1) := by decide +kernel
theorem dX12_deadOf_42 : decode cX12_deadOf 42 = .ok (.if_icmp .ne 85, 3) := by decide +kernel
theorem dX12_deadOf_45 : decode cX12_deadOf 45 = .ok (.aload_n 0, 1) := by decide +kernel
theorem dX12_deadOf_46 : decode cX12_deadOf 46 = .ok (.iload_n 3, 1) := by decide +kernel
theorem dX12_deadOf_47 : decode cX12_deadOf 47 = .ok (.aload_n 0, 1) := by decide +kernel
theorem dX12_deadOf_48 : decode cX12_deadOf 48 = .ok (.getfield 54, 3) := by decide +kernel
theorem dX12_deadOf_51 : decode cX12_deadOf 51 = .ok (.aload_n 0, 1) := by decide +kernel
theorem dX12_deadOf_52 : decode cX12_deadOf 52 = .ok (.getfield 105, 3) := by decide +kernel
theorem dX12_deadOf_55 : decode cX12_deadOf 55 = .ok (.iload_n 1, 1) := by decide +kernel
theorem dX12_deadOf_56 : decode cX12_deadOf 56 = .ok (.iaload, 1) := by decide +kernel
theorem dX12_deadOf_57 : decode cX12_deadOf 57 = .ok (.iaload, 1) := by decide +kernel
theorem dX12_deadOf_58 : decode cX12_deadOf 58 = .ok (.invokevirtual 333, 3) := by decide +kernel
theorem dX12_deadOf_61 : decode cX12_deadOf 61 = .ok (.ifCond .ne 6, 3) := by decide +kernel
theorem dX12_deadOf_64 : decode cX12_deadOf 64 = .ok (.goto 63, 3) := by decide +kernel
theorem dX12_deadOf_67 : decode cX12_deadOf 67 = .ok (.iconst 1, 1) := by decide +kernel
theorem dX12_deadOf_68 : decode cX12_deadOf 68 = .ok (.istore 4, 2) := by decide +kernel
theorem dX12_deadOf_70 : decode cX12_deadOf 70 = .ok (.iload_n 2, 1) := by decide +kernel
theorem dX12_deadOf_71 : decode cX12_deadOf 71 = .ok (.iconst 1, 1) := by decide +kernel
theorem dX12_deadOf_72 : decode cX12_deadOf 72 = .ok (.iadd, 1) := by decide +kernel
theorem dX12_deadOf_73 : decode cX12_deadOf 73 = .ok (.istore 5, 2) := by decide +kernel
theorem dX12_deadOf_75 : decode cX12_deadOf 75 = .ok (.iload 5, 2) := by decide +kernel
theorem dX12_deadOf_77 : decode cX12_deadOf 77 = .ok (.iload_n 1, 1) := by decide +kernel
theorem dX12_deadOf_78 : decode cX12_deadOf 78 = .ok (.if_icmp .ge 42, 3) := by decide +kernel
theorem dX12_deadOf_81 : decode cX12_deadOf 81 = .ok (.iload 4, 2) := by decide +kernel
theorem dX12_deadOf_83 : decode cX12_deadOf 83 = .ok (.ifCond .eq 28, 3) := by decide +kernel
theorem dX12_deadOf_86 : decode cX12_deadOf 86 = .ok (.aload_n 0, 1) := by decide +kernel
theorem dX12_deadOf_87 : decode cX12_deadOf 87 = .ok (.getfield 51, 3) := by decide +kernel
theorem dX12_deadOf_90 : decode cX12_deadOf 90 = .ok (.aload_n 0, 1) := by decide +kernel
theorem dX12_deadOf_91 : decode cX12_deadOf 91 = .ok (.getfield 105, 3) := by decide +kernel
theorem dX12_deadOf_94 : decode cX12_deadOf 94 = .ok (.iload 5, 2) := by decide +kernel
theorem dX12_deadOf_96 : decode cX12_deadOf 96 = .ok (.iaload, 1) := by decide +kernel
theorem dX12_deadOf_97 : decode cX12_deadOf 97 = .ok (.iaload, 1) := by decide +kernel
theorem dX12_deadOf_98 : decode cX12_deadOf 98 = .ok (.aload_n 0, 1) := by decide +kernel
theorem dX12_deadOf_99 : decode cX12_deadOf 99 = .ok (.getfield 51, 3) := by decide +kernel
theorem dX12_deadOf_102 : decode cX12_deadOf 102 = .ok (.iload_n 3, 1) := by decide +kernel
theorem dX12_deadOf_103 : decode cX12_deadOf 103 = .ok (.iaload, 1) := by decide +kernel
theorem dX12_deadOf_104 : decode cX12_deadOf 104 = .ok (.if_icmp .eq 7, 3) := by decide +kernel
theorem dX12_deadOf_107 : decode cX12_deadOf 107 = .ok (.iconst 1, 1) := by decide +kernel
theorem dX12_deadOf_108 : decode cX12_deadOf 108 = .ok (.goto 4, 3) := by decide +kernel
theorem dX12_deadOf_111 : decode cX12_deadOf 111 = .ok (.iconst 0, 1) := by decide +kernel
theorem dX12_deadOf_112 : decode cX12_deadOf 112 = .ok (.istore 4, 2) := by decide +kernel
theorem dX12_deadOf_114 : decode cX12_deadOf 114 = .ok (.iinc 5 1, 3) := by decide +kernel
theorem dX12_deadOf_117 : decode cX12_deadOf 117 = .ok (.goto (-42), 3) := by decide +kernel
theorem dX12_deadOf_120 : decode cX12_deadOf 120 = .ok (.iload 4, 2) := by decide +kernel
theorem dX12_deadOf_122 : decode cX12_deadOf 122 = .ok (.ifCond .eq 5, 3) := by decide +kernel
theorem dX12_deadOf_125 : decode cX12_deadOf 125 = .ok (.iload_n 3, 1) := by decide +kernel
theorem dX12_deadOf_126 : decode cX12_deadOf 126 = .ok (.ireturn, 1) := by decide +kernel
theorem dX12_deadOf_127 : decode cX12_deadOf 127 = .ok (.iinc 2 (-1), 3) := by decide +kernel
theorem dX12_deadOf_130 : decode cX12_deadOf 130 = .ok (.goto (-126), 3) := by decide +kernel
theorem dX12_deadOf_133 : decode cX12_deadOf 133 = .ok (.iconst (-1), 1) := by decide +kernel
theorem dX12_deadOf_134 : decode cX12_deadOf 134 = .ok (.ireturn, 1) := by decide +kernel
theorem dX12_isThere_0 : decode cX12_isThere 0 = .ok (.aload_n 0, 1) := by decide +kernel
theorem dX12_isThere_1 : decode cX12_isThere 1 = .ok (.getfield 29, 3) := by decide +kernel
theorem dX12_isThere_4 : decode cX12_isThere 4 = .ok (.aload_n 0, 1) := by decide +kernel
theorem dX12_isThere_5 : decode cX12_isThere 5 = .ok (.getfield 51, 3) := by decide +kernel
theorem dX12_isThere_8 : decode cX12_isThere 8 = .ok (.aload_n 0, 1) := by decide +kernel
theorem dX12_isThere_9 : decode cX12_isThere 9 = .ok (.getfield 105, 3) := by decide +kernel
theorem dX12_isThere_12 : decode cX12_isThere 12 = .ok (.iload_n 2, 1) := by decide +kernel
theorem dX12_isThere_13 : decode cX12_isThere 13 = .ok (.iaload, 1) := by decide +kernel
theorem dX12_isThere_14 : decode cX12_isThere 14 = .ok (.iaload, 1) := by decide +kernel
theorem dX12_isThere_15 : decode cX12_isThere 15 = .ok (.iaload, 1) := by decide +kernel
theorem dX12_isThere_16 : decode cX12_isThere 16 = .ok (.istore_n 3, 1) := by decide +kernel
theorem dX12_isThere_17 : decode cX12_isThere 17 = .ok (.iload_n 1, 1) := by decide +kernel
theorem dX12_isThere_18 : decode cX12_isThere 18 = .ok (.bipush 83, 2) := by decide +kernel
theorem dX12_isThere_20 : decode cX12_isThere 20 = .ok (.if_icmp .ne 24, 3) := by decide +kernel
theorem dX12_isThere_23 : decode cX12_isThere 23 = .ok (.aload_n 0, 1) := by decide +kernel
theorem dX12_isThere_24 : decode cX12_isThere 24 = .ok (.getfield 63, 3) := by decide +kernel
theorem dX12_isThere_27 : decode cX12_isThere 27 = .ok (.aload_n 0, 1) := by decide +kernel
theorem dX12_isThere_28 : decode cX12_isThere 28 = .ok (.getfield 105, 3) := by decide +kernel
theorem dX12_isThere_31 : decode cX12_isThere 31 = .ok (.iload_n 2, 1) := by decide +kernel
theorem dX12_isThere_32 : decode cX12_isThere 32 = .ok (.iaload, 1) := by decide +kernel
theorem dX12_isThere_33 : decode cX12_isThere 33 = .ok (.iaload, 1) := by decide +kernel
theorem dX12_isThere_34 : decode cX12_isThere 34 = .ok (.iconst (-1), 1) := by decide +kernel
theorem dX12_isThere_35 : decode cX12_isThere 35 = .ok (.if_icmp .eq 7, 3) := by decide +kernel
theorem dX12_isThere_38 : decode cX12_isThere 38 = .ok (.iconst 1, 1) := by decide +kernel
theorem dX12_isThere_39 : decode cX12_isThere 39 = .ok (.goto 4, 3) := by decide +kernel
theorem dX12_isThere_42 : decode cX12_isThere 42 = .ok (.iconst 0, 1) := by decide +kernel
theorem dX12_isThere_43 : decode cX12_isThere 43 = .ok (.ireturn, 1) := by decide +kernel
theorem dX12_isThere_44 : decode cX12_isThere 44 = .ok (.iload_n 1, 1) := by decide +kernel
theorem dX12_isThere_45 : decode cX12_isThere 45 = .ok (.bipush 68, 2) := by decide +kernel
theorem dX12_isThere_47 : decode cX12_isThere 47 = .ok (.if_icmp .ne 18, 3) := by decide +kernel
theorem dX12_isThere_50 : decode cX12_isThere 50 = .ok (.aload_n 0, 1) := by decide +kernel
theorem dX12_isThere_51 : decode cX12_isThere 51 = .ok (.iload_n 2, 1) := by decide +kernel
theorem dX12_isThere_52 : decode cX12_isThere 52 = .ok (.invokevirtual 346, 3) := by decide +kernel
theorem dX12_isThere_55 : decode cX12_isThere 55 = .ok (.iconst (-1), 1) := by decide +kernel
theorem dX12_isThere_56 : decode cX12_isThere 56 = .ok (.if_icmp .eq 7, 3) := by decide +kernel
theorem dX12_isThere_59 : decode cX12_isThere 59 = .ok (.iconst 1, 1) := by decide +kernel
theorem dX12_isThere_60 : decode cX12_isThere 60 = .ok (.goto 4, 3) := by decide +kernel
theorem dX12_isThere_63 : decode cX12_isThere 63 = .ok (.iconst 0, 1) := by decide +kernel
theorem dX12_isThere_64 : decode cX12_isThere 64 = .ok (.ireturn, 1) := by decide +kernel
theorem dX12_isThere_65 : decode cX12_isThere 65 = .ok (.iload_n 3, 1) := by decide +kernel
theorem dX12_isThere_66 : decode cX12_isThere 66 = .ok (.ifCond .ne 29, 3) := by decide +kernel
theorem dX12_isThere_69 : decode cX12_isThere 69 = .ok (.iload_n 1, 1) := by decide +kernel
theorem dX12_isThere_70 : decode cX12_isThere 70 = .ok (.bipush 70, 2) := by decide +kernel
theorem dX12_isThere_72 : decode cX12_isThere 72 = .ok (.if_icmp .eq 15, 3) := by decide +kernel
theorem dX12_isThere_75 : decode cX12_isThere 75 = .ok (.iload_n 1, 1) := by decide +kernel
theorem dX12_isThere_76 : decode cX12_isThere 76 = .ok (.bipush 77, 2) := by decide +kernel
theorem dX12_isThere_78 : decode cX12_isThere 78 = .ok (.if_icmp .eq 9, 3) := by decide +kernel
theorem dX12_isThere_81 : decode cX12_isThere 81 = .ok (.iload_n 1, 1) := by decide +kernel
theorem dX12_isThere_82 : decode cX12_isThere 82 = .ok (.bipush 80, 2) := by decide +kernel
theorem dX12_isThere_84 : decode cX12_isThere 84 = .ok (.if_icmp .ne 7, 3) := by decide +kernel
theorem dX12_isThere_87 : decode cX12_isThere 87 = .ok (.iconst 1, 1) := by decide +kernel
theorem dX12_isThere_88 : decode cX12_isThere 88 = .ok (.goto 30, 3) := by decide +kernel
theorem dX12_isThere_91 : decode cX12_isThere 91 = .ok (.iconst 0, 1) := by decide +kernel
theorem dX12_isThere_92 : decode cX12_isThere 92 = .ok (.goto 26, 3) := by decide +kernel
theorem dX12_isThere_95 : decode cX12_isThere 95 = .ok (.iload_n 1, 1) := by decide +kernel
theorem dX12_isThere_96 : decode cX12_isThere 96 = .ok (.bipush 102, 2) := by decide +kernel
theorem dX12_isThere_98 : decode cX12_isThere 98 = .ok (.if_icmp .eq 15, 3) := by decide +kernel
theorem dX12_isThere_101 : decode cX12_isThere 101 = .ok (.iload_n 1, 1) := by decide +kernel
theorem dX12_isThere_102 : decode cX12_isThere 102 = .ok (.bipush 109, 2) := by decide +kernel
theorem dX12_isThere_104 : decode cX12_isThere 104 = .ok (.if_icmp .eq 9, 3) := by decide +kernel
theorem dX12_isThere_107 : decode cX12_isThere 107 = .ok (.iload_n 1, 1) := by decide +kernel
theorem dX12_isThere_108 : decode cX12_isThere 108 = .ok (.bipush 81, 2) := by decide +kernel
theorem dX12_isThere_110 : decode cX12_isThere 110 = .ok (.if_icmp .ne 7, 3) := by decide +kernel
theorem dX12_isThere_113 : decode cX12_isThere 113 = .ok (.iconst 1, 1) := by decide +kernel
theorem dX12_isThere_114 : decode cX12_isThere 114 = .ok (.goto 4, 3) := by decide +kernel
theorem dX12_isThere_117 : decode cX12_isThere 117 = .ok (.iconst 0, 1) := by decide +kernel
theorem dX12_isThere_118 : decode cX12_isThere 118 = .ok (.ireturn, 1) := by decide +kernel
theorem dX12_letterOf_0 : decode cX12_letterOf 0 = .ok (.aload_n 0, 1) := by decide +kernel
theorem dX12_letterOf_1 : decode cX12_letterOf 1 = .ok (.getfield 54, 3) := by decide +kernel
theorem dX12_letterOf_4 : decode cX12_letterOf 4 = .ok (.aload_n 0, 1) := by decide +kernel
theorem dX12_letterOf_5 : decode cX12_letterOf 5 = .ok (.getfield 105, 3) := by decide +kernel
theorem dX12_letterOf_8 : decode cX12_letterOf 8 = .ok (.iload_n 1, 1) := by decide +kernel
theorem dX12_letterOf_9 : decode cX12_letterOf 9 = .ok (.iaload, 1) := by decide +kernel
theorem dX12_letterOf_10 : decode cX12_letterOf 10 = .ok (.iaload, 1) := by decide +kernel
theorem dX12_letterOf_11 : decode cX12_letterOf 11 = .ok (.aload_n 0, 1) := by decide +kernel
theorem dX12_letterOf_12 : decode cX12_letterOf 12 = .ok (.getfield 20, 3) := by decide +kernel
theorem dX12_letterOf_15 : decode cX12_letterOf 15 = .ok (.if_icmp .ge 10, 3) := by decide +kernel
theorem dX12_letterOf_18 : decode cX12_letterOf 18 = .ok (.aload_n 0, 1) := by decide +kernel
theorem dX12_letterOf_19 : decode cX12_letterOf 19 = .ok (.getfield 13, 3) := by decide +kernel
theorem dX12_letterOf_22 : decode cX12_letterOf 22 = .ok (.goto 7, 3) := by decide +kernel
theorem dX12_letterOf_25 : decode cX12_letterOf 25 = .ok (.aload_n 0, 1) := by decide +kernel
theorem dX12_letterOf_26 : decode cX12_letterOf 26 = .ok (.getfield 17, 3) := by decide +kernel
theorem dX12_letterOf_29 : decode cX12_letterOf 29 = .ok (.istore_n 3, 1) := by decide +kernel
theorem dX12_letterOf_30 : decode cX12_letterOf 30 = .ok (.iload_n 3, 1) := by decide +kernel
theorem dX12_letterOf_31 : decode cX12_letterOf 31 = .ok (.iconst (-1), 1) := by decide +kernel
theorem dX12_letterOf_32 : decode cX12_letterOf 32 = .ok (.if_icmp .ne 5, 3) := by decide +kernel
theorem dX12_letterOf_35 : decode cX12_letterOf 35 = .ok (.iconst 0, 1) := by decide +kernel
theorem dX12_letterOf_36 : decode cX12_letterOf 36 = .ok (.ireturn, 1) := by decide +kernel
theorem dX12_letterOf_37 : decode cX12_letterOf 37 = .ok (.bipush 12, 2) := by decide +kernel
theorem dX12_letterOf_39 : decode cX12_letterOf 39 = .ok (.iload_n 3, 1) := by decide +kernel
theorem dX12_letterOf_40 : decode cX12_letterOf 40 = .ok (.imul, 1) := by decide +kernel
theorem dX12_letterOf_41 : decode cX12_letterOf 41 = .ok (.istore 4, 2) := by decide +kernel
theorem dX12_letterOf_43 : decode cX12_letterOf 43 = .ok (.iload 4, 2) := by decide +kernel
theorem dX12_letterOf_45 : decode cX12_letterOf 45 = .ok (.bipush 12, 2) := by decide +kernel
theorem dX12_letterOf_47 : decode cX12_letterOf 47 = .ok (.iload_n 3, 1) := by decide +kernel
theorem dX12_letterOf_48 : decode cX12_letterOf 48 = .ok (.imul, 1) := by decide +kernel
theorem dX12_letterOf_49 : decode cX12_letterOf 49 = .ok (.aload_n 0, 1) := by decide +kernel
theorem dX12_letterOf_50 : decode cX12_letterOf 50 = .ok (.getfield 69, 3) := by decide +kernel
theorem dX12_letterOf_53 : decode cX12_letterOf 53 = .ok (.iload_n 3, 1) := by decide +kernel
theorem dX12_letterOf_54 : decode cX12_letterOf 54 = .ok (.iaload, 1) := by decide +kernel
theorem dX12_letterOf_55 : decode cX12_letterOf 55 = .ok (.iadd, 1) := by decide +kernel
theorem dX12_letterOf_56 : decode cX12_letterOf 56 = .ok (.if_icmp .ge 43, 3) := by decide +kernel
theorem dX12_letterOf_59 : decode cX12_letterOf 59 = .ok (.aload_n 0, 1) := by decide +kernel
theorem dX12_letterOf_60 : decode cX12_letterOf 60 = .ok (.aload_n 0, 1) := by decide +kernel
theorem dX12_letterOf_61 : decode cX12_letterOf 61 = .ok (.getfield 72, 3) := by decide +kernel
theorem dX12_letterOf_64 : decode cX12_letterOf 64 = .ok (.iload 4, 2) := by decide +kernel
theorem dX12_letterOf_66 : decode cX12_letterOf 66 = .ok (.iaload, 1) := by decide +kernel
theorem dX12_letterOf_67 : decode cX12_letterOf 67 = .ok (.iload_n 1, 1) := by decide +kernel
theorem dX12_letterOf_68 : decode cX12_letterOf 68 = .ok (.invokevirtual 350, 3) := by decide +kernel
theorem dX12_letterOf_71 : decode cX12_letterOf 71 = .ok (.ifCond .eq 22, 3) := by decide +kernel
theorem dX12_letterOf_74 : decode cX12_letterOf 74 = .ok (.aload_n 0, 1) := by decide +kernel
theorem dX12_letterOf_75 : decode cX12_letterOf 75 = .ok (.iload 4, 2) := by decide +kernel
theorem dX12_letterOf_77 : decode cX12_letterOf 77 = .ok (.iload_n 1, 1) := by decide +kernel
theorem dX12_letterOf_78 : decode cX12_letterOf 78 = .ok (.iload_n 2, 1) := by decide +kernel
theorem dX12_letterOf_79 : decode cX12_letterOf 79 = .ok (.invokevirtual 353, 3) := by decide +kernel
theorem dX12_letterOf_82 : decode cX12_letterOf 82 = .ok (.ifCond .eq 11, 3) := by decide +kernel
theorem dX12_letterOf_85 : decode cX12_letterOf 85 = .ok (.aload_n 0, 1) := by decide +kernel
theorem dX12_letterOf_86 : decode cX12_letterOf 86 = .ok (.getfield 72, 3) := by decide +kernel
theorem dX12_letterOf_89 : decode cX12_letterOf 89 = .ok (.iload 4, 2) := by decide +kernel
theorem dX12_letterOf_91 : decode cX12_letterOf 91 = .ok (.iaload, 1) := by decide +kernel
theorem dX12_letterOf_92 : decode cX12_letterOf 92 = .ok (.ireturn, 1) := by decide +kernel
theorem dX12_letterOf_93 : decode cX12_letterOf 93 = .ok (.iinc 4 1, 3) := by decide +kernel
theorem dX12_letterOf_96 : decode cX12_letterOf 96 = .ok (.goto (-53), 3) := by decide +kernel
theorem dX12_letterOf_99 : decode cX12_letterOf 99 = .ok (.iconst 0, 1) := by decide +kernel
theorem dX12_letterOf_100 : decode cX12_letterOf 100 = .ok (.ireturn, 1) := by decide +kernel
theorem dX12_parentBy_0 : decode cX12_parentBy 0 = .ok (.iload_n 0, 1) := by decide +kernel
theorem dX12_parentBy_1 : decode cX12_parentBy 1 = .ok (.bipush 70, 2) := by decide +kernel
theorem dX12_parentBy_3 : decode cX12_parentBy 3 = .ok (.if_icmp .ne 7, 3) := by decide +kernel
theorem dX12_parentBy_6 : decode cX12_parentBy 6 = .ok (.iconst 0, 1) := by decide +kernel
theorem dX12_parentBy_7 : decode cX12_parentBy 7 = .ok (.goto 34, 3) := by decide +kernel
theorem dX12_parentBy_10 : decode cX12_parentBy 10 = .ok (.iload_n 0, 1) := by decide +kernel
theorem dX12_parentBy_11 : decode cX12_parentBy 11 = .ok (.bipush 102, 2) := by decide +kernel
theorem dX12_parentBy_13 : decode cX12_parentBy 13 = .ok (.if_icmp .ne 7, 3) := by decide +kernel
theorem dX12_parentBy_16 : decode cX12_parentBy 16 = .ok (.iconst 1, 1) := by decide +kernel
theorem dX12_parentBy_17 : decode cX12_parentBy 17 = .ok (.goto 24, 3) := by decide +kernel
theorem dX12_parentBy_20 : decode cX12_parentBy 20 = .ok (.iload_n 0, 1) := by decide +kernel
theorem dX12_parentBy_21 : decode cX12_parentBy 21 = .ok (.bipush 77, 2) := by decide +kernel
theorem dX12_parentBy_23 : decode cX12_parentBy 23 = .ok (.if_icmp .ne 7, 3) := by decide +kernel
theorem dX12_parentBy_26 : decode cX12_parentBy 26 = .ok (.iconst 2, 1) := by decide +kernel
theorem dX12_parentBy_27 : decode cX12_parentBy 27 = .ok (.goto 14, 3) := by decide +kernel
theorem dX12_parentBy_30 : decode cX12_parentBy 30 = .ok (.iload_n 0, 1) := by decide +kernel
theorem dX12_parentBy_31 : decode cX12_parentBy 31 = .ok (.bipush 109, 2) := by decide +kernel
theorem dX12_parentBy_33 : decode cX12_parentBy 33 = .ok (.if_icmp .ne 7, 3) := by decide +kernel
theorem dX12_parentBy_36 : decode cX12_parentBy 36 = .ok (.iconst 3, 1) := by decide +kernel
theorem dX12_parentBy_37 : decode cX12_parentBy 37 = .ok (.goto 4, 3) := by decide +kernel
theorem dX12_parentBy_40 : decode cX12_parentBy 40 = .ok (.iconst (-1), 1) := by decide +kernel
theorem dX12_parentBy_41 : decode cX12_parentBy 41 = .ok (.ireturn, 1) := by decide +kernel
theorem dX12_told_0 : decode cX12_told 0 = .ok (.iload_n 1, 1) := by decide +kernel
theorem dX12_told_1 : decode cX12_told 1 = .ok (.lookupswitch 86 #[(68, 55), (80, 66), (81, 76), (83, 43)], 43) := by decide +kernel
theorem dX12_told_44 : decode cX12_told 44 = .ok (.aload_n 0, 1) := by decide +kernel
theorem dX12_told_45 : decode cX12_told 45 = .ok (.getfield 63, 3) := by decide +kernel
theorem dX12_told_48 : decode cX12_told 48 = .ok (.aload_n 0, 1) := by decide +kernel
theorem dX12_told_49 : decode cX12_told 49 = .ok (.getfield 105, 3) := by decide +kernel
theorem dX12_told_52 : decode cX12_told 52 = .ok (.iload_n 2, 1) := by decide +kernel
theorem dX12_told_53 : decode cX12_told 53 = .ok (.iaload, 1) := by decide +kernel
theorem dX12_told_54 : decode cX12_told 54 = .ok (.iaload, 1) := by decide +kernel
theorem dX12_told_55 : decode cX12_told 55 = .ok (.ireturn, 1) := by decide +kernel
theorem dX12_told_56 : decode cX12_told 56 = .ok (.aload_n 0, 1) := by decide +kernel
theorem dX12_told_57 : decode cX12_told 57 = .ok (.getfield 51, 3) := by decide +kernel
theorem dX12_told_60 : decode cX12_told 60 = .ok (.aload_n 0, 1) := by decide +kernel
theorem dX12_told_61 : decode cX12_told 61 = .ok (.iload_n 2, 1) := by decide +kernel
theorem dX12_told_62 : decode cX12_told 62 = .ok (.invokevirtual 346, 3) := by decide +kernel
theorem dX12_told_65 : decode cX12_told 65 = .ok (.iaload, 1) := by decide +kernel
theorem dX12_told_66 : decode cX12_told 66 = .ok (.ireturn, 1) := by decide +kernel
theorem dX12_told_67 : decode cX12_told 67 = .ok (.aload_n 0, 1) := by decide +kernel
theorem dX12_told_68 : decode cX12_told 68 = .ok (.getfield 36, 3) := by decide +kernel
theorem dX12_told_71 : decode cX12_told 71 = .ok (.aload_n 0, 1) := by decide +kernel
theorem dX12_told_72 : decode cX12_told 72 = .ok (.getfield 318, 3) := by decide +kernel
theorem dX12_told_75 : decode cX12_told 75 = .ok (.iaload, 1) := by decide +kernel
theorem dX12_told_76 : decode cX12_told 76 = .ok (.ireturn, 1) := by decide +kernel
theorem dX12_told_77 : decode cX12_told 77 = .ok (.aload_n 0, 1) := by decide +kernel
theorem dX12_told_78 : decode cX12_told 78 = .ok (.getfield 39, 3) := by decide +kernel
theorem dX12_told_81 : decode cX12_told 81 = .ok (.aload_n 0, 1) := by decide +kernel
theorem dX12_told_82 : decode cX12_told 82 = .ok (.getfield 318, 3) := by decide +kernel
theorem dX12_told_85 : decode cX12_told 85 = .ok (.iaload, 1) := by decide +kernel
theorem dX12_told_86 : decode cX12_told 86 = .ok (.ireturn, 1) := by decide +kernel
theorem dX12_told_87 : decode cX12_told 87 = .ok (.aload_n 0, 1) := by decide +kernel
theorem dX12_told_88 : decode cX12_told 88 = .ok (.getfield 48, 3) := by decide +kernel
theorem dX12_told_91 : decode cX12_told 91 = .ok (.iconst 4, 1) := by decide +kernel
theorem dX12_told_92 : decode cX12_told 92 = .ok (.aload_n 0, 1) := by decide +kernel
theorem dX12_told_93 : decode cX12_told 93 = .ok (.getfield 318, 3) := by decide +kernel
theorem dX12_told_96 : decode cX12_told 96 = .ok (.imul, 1) := by decide +kernel
theorem dX12_told_97 : decode cX12_told 97 = .ok (.iload_n 1, 1) := by decide +kernel
theorem dX12_told_98 : decode cX12_told 98 = .ok (.invokestatic 357, 3) := by decide +kernel
theorem dX12_told_101 : decode cX12_told 101 = .ok (.iadd, 1) := by decide +kernel
theorem dX12_told_102 : decode cX12_told 102 = .ok (.iaload, 1) := by decide +kernel
theorem dX12_told_103 : decode cX12_told 103 = .ok (.ireturn, 1) := by decide +kernel
theorem dX12_pointsBy_0 : decode cX12_pointsBy 0 = .ok (.aload_n 0, 1) := by decide +kernel
theorem dX12_pointsBy_1 : decode cX12_pointsBy 1 = .ok (.getfield 51, 3) := by decide +kernel
theorem dX12_pointsBy_4 : decode cX12_pointsBy 4 = .ok (.aload_n 0, 1) := by decide +kernel
theorem dX12_pointsBy_5 : decode cX12_pointsBy 5 = .ok (.getfield 105, 3) := by decide +kernel
theorem dX12_pointsBy_8 : decode cX12_pointsBy 8 = .ok (.iload_n 2, 1) := by decide +kernel
theorem dX12_pointsBy_9 : decode cX12_pointsBy 9 = .ok (.iaload, 1) := by decide +kernel
theorem dX12_pointsBy_10 : decode cX12_pointsBy 10 = .ok (.iaload, 1) := by decide +kernel
theorem dX12_pointsBy_11 : decode cX12_pointsBy 11 = .ok (.iload_n 1, 1) := by decide +kernel
theorem dX12_pointsBy_12 : decode cX12_pointsBy 12 = .ok (.if_icmp .ne 12, 3) := by decide +kernel
theorem dX12_pointsBy_15 : decode cX12_pointsBy 15 = .ok (.aload_n 0, 1) := by decide +kernel
theorem dX12_pointsBy_16 : decode cX12_pointsBy 16 = .ok (.getfield 33, 3) := by decide +kernel
theorem dX12_pointsBy_19 : decode cX12_pointsBy 19 = .ok (.iload_n 1, 1) := by decide +kernel
theorem dX12_pointsBy_20 : decode cX12_pointsBy 20 = .ok (.iaload, 1) := by decide +kernel
theorem dX12_pointsBy_21 : decode cX12_pointsBy 21 = .ok (.goto 8, 3) := by decide +kernel
theorem dX12_pointsBy_24 : decode cX12_pointsBy 24 = .ok (.aload_n 0, 1) := by decide +kernel
theorem dX12_pointsBy_25 : decode cX12_pointsBy 25 = .ok (.getfield 23, 3) := by decide +kernel
theorem dX12_pointsBy_28 : decode cX12_pointsBy 28 = .ok (.ineg, 1) := by decide +kernel
theorem dX12_pointsBy_29 : decode cX12_pointsBy 29 = .ok (.ireturn, 1) := by decide +kernel
theorem dX12_isBy_0 : decode cX12_isBy 0 = .ok (.aload_n 0, 1) := by decide +kernel
theorem dX12_isBy_1 : decode cX12_isBy 1 = .ok (.getfield 108, 3) := by decide +kernel
theorem dX12_isBy_4 : decode cX12_isBy 4 = .ok (.iload_n 1, 1) := by decide +kernel
theorem dX12_isBy_5 : decode cX12_isBy 5 = .ok (.iaload, 1) := by decide +kernel
theorem dX12_isBy_6 : decode cX12_isBy 6 = .ok (.ifCond .eq 20, 3) := by decide +kernel
theorem dX12_isBy_9 : decode cX12_isBy 9 = .ok (.aload_n 0, 1) := by decide +kernel
theorem dX12_isBy_10 : decode cX12_isBy 10 = .ok (.getfield 108, 3) := by decide +kernel
theorem dX12_isBy_13 : decode cX12_isBy 13 = .ok (.iload_n 1, 1) := by decide +kernel
theorem dX12_isBy_14 : decode cX12_isBy 14 = .ok (.iaload, 1) := by decide +kernel
theorem dX12_isBy_15 : decode cX12_isBy 15 = .ok (.invokestatic 357, 3) := by decide +kernel
theorem dX12_isBy_18 : decode cX12_isBy 18 = .ok (.iload_n 2, 1) := by decide +kernel
theorem dX12_isBy_19 : decode cX12_isBy 19 = .ok (.if_icmp .ne 7, 3) := by decide +kernel
theorem dX12_isBy_22 : decode cX12_isBy 22 = .ok (.iconst 1, 1) := by decide +kernel
theorem dX12_isBy_23 : decode cX12_isBy 23 = .ok (.goto 4, 3) := by decide +kernel
theorem dX12_isBy_26 : decode cX12_isBy 26 = .ok (.iconst 0, 1) := by decide +kernel
theorem dX12_isBy_27 : decode cX12_isBy 27 = .ok (.ireturn, 1) := by decide +kernel
theorem dX12_brings_0 : decode cX12_brings 0 = .ok (.iconst 0, 1) := by decide +kernel
theorem dX12_brings_1 : decode cX12_brings 1 = .ok (.istore_n 3, 1) := by decide +kernel
theorem dX12_brings_2 : decode cX12_brings 2 = .ok (.iconst 0, 1) := by decide +kernel
theorem dX12_brings_3 : decode cX12_brings 3 = .ok (.istore 4, 2) := by decide +kernel
theorem dX12_brings_5 : decode cX12_brings 5 = .ok (.iload 4, 2) := by decide +kernel
theorem dX12_brings_7 : decode cX12_brings 7 = .ok (.aload_n 0, 1) := by decide +kernel
theorem dX12_brings_8 : decode cX12_brings 8 = .ok (.getfield 321, 3) := by decide +kernel
theorem dX12_brings_11 : decode cX12_brings 11 = .ok (.if_icmp .ge 29, 3) := by decide +kernel
theorem dX12_brings_14 : decode cX12_brings 14 = .ok (.aload_n 0, 1) := by decide +kernel
theorem dX12_brings_15 : decode cX12_brings 15 = .ok (.iload 4, 2) := by decide +kernel
theorem dX12_brings_17 : decode cX12_brings 17 = .ok (.iload_n 2, 1) := by decide +kernel
theorem dX12_brings_18 : decode cX12_brings 18 = .ok (.invokevirtual 360, 3) := by decide +kernel
theorem dX12_brings_21 : decode cX12_brings 21 = .ok (.ifCond .eq 13, 3) := by decide +kernel
theorem dX12_brings_24 : decode cX12_brings 24 = .ok (.iload_n 3, 1) := by decide +kernel
theorem dX12_brings_25 : decode cX12_brings 25 = .ok (.aload_n 0, 1) := by decide +kernel
theorem dX12_brings_26 : decode cX12_brings 26 = .ok (.iload_n 1, 1) := by decide +kernel
theorem dX12_brings_27 : decode cX12_brings 27 = .ok (.iload 4, 2) := by decide +kernel
theorem dX12_brings_29 : decode cX12_brings 29 = .ok (.invokevirtual 363, 3) := by decide +kernel
theorem dX12_brings_32 : decode cX12_brings 32 = .ok (.iadd, 1) := by decide +kernel
theorem dX12_brings_33 : decode cX12_brings 33 = .ok (.istore_n 3, 1) := by decide +kernel
theorem dX12_brings_34 : decode cX12_brings 34 = .ok (.iinc 4 1, 3) := by decide +kernel
theorem dX12_brings_37 : decode cX12_brings 37 = .ok (.goto (-32), 3) := by decide +kernel
theorem dX12_brings_40 : decode cX12_brings 40 = .ok (.iload_n 3, 1) := by decide +kernel
theorem dX12_brings_41 : decode cX12_brings 41 = .ok (.ireturn, 1) := by decide +kernel
theorem dX12_bestNames_0 : decode cX12_bestNames 0 = .ok (.iconst 0, 1) := by decide +kernel
theorem dX12_bestNames_1 : decode cX12_bestNames 1 = .ok (.istore_n 2, 1) := by decide +kernel
theorem dX12_bestNames_2 : decode cX12_bestNames 2 = .ok (.iconst 0, 1) := by decide +kernel
theorem dX12_bestNames_3 : decode cX12_bestNames 3 = .ok (.istore_n 3, 1) := by decide +kernel
theorem dX12_bestNames_4 : decode cX12_bestNames 4 = .ok (.iload_n 3, 1) := by decide +kernel
theorem dX12_bestNames_5 : decode cX12_bestNames 5 = .ok (.aload_n 0, 1) := by decide +kernel
theorem dX12_bestNames_6 : decode cX12_bestNames 6 = .ok (.getfield 321, 3) := by decide +kernel
theorem dX12_bestNames_9 : decode cX12_bestNames 9 = .ok (.if_icmp .ge 28, 3) := by decide +kernel
theorem dX12_bestNames_12 : decode cX12_bestNames 12 = .ok (.iload_n 2, 1) := by decide +kernel
theorem dX12_bestNames_13 : decode cX12_bestNames 13 = .ok (.ifCond .ne 12, 3) := by decide +kernel
theorem dX12_bestNames_16 : decode cX12_bestNames 16 = .ok (.aload_n 0, 1) := by decide +kernel
theorem dX12_bestNames_17 : decode cX12_bestNames 17 = .ok (.iload_n 3, 1) := by decide +kernel
theorem dX12_bestNames_18 : decode cX12_bestNames 18 = .ok (.iload_n 1, 1) := by decide +kernel
theorem dX12_bestNames_19 : decode cX12_bestNames 19 = .ok (.invokevirtual 360, 3) := by decide +kernel
theorem dX12_bestNames_22 : decode cX12_bestNames 22 = .ok (.ifCond .eq 7, 3) := by decide +kernel
theorem dX12_bestNames_25 : decode cX12_bestNames 25 = .ok (.iconst 1, 1) := by decide +kernel
theorem dX12_bestNames_26 : decode cX12_bestNames 26 = .ok (.goto 4, 3) := by decide +kernel
theorem dX12_bestNames_29 : decode cX12_bestNames 29 = .ok (.iconst 0, 1) := by decide +kernel
theorem dX12_bestNames_30 : decode cX12_bestNames 30 = .ok (.istore_n 2, 1) := by decide +kernel
theorem dX12_bestNames_31 : decode cX12_bestNames 31 = .ok (.iinc 3 1, 3) := by decide +kernel
theorem dX12_bestNames_34 : decode cX12_bestNames 34 = .ok (.goto (-30), 3) := by decide +kernel
theorem dX12_bestNames_37 : decode cX12_bestNames 37 = .ok (.iconst 0, 1) := by decide +kernel
theorem dX12_bestNames_38 : decode cX12_bestNames 38 = .ok (.istore_n 3, 1) := by decide +kernel
theorem dX12_bestNames_39 : decode cX12_bestNames 39 = .ok (.iconst 0, 1) := by decide +kernel
theorem dX12_bestNames_40 : decode cX12_bestNames 40 = .ok (.istore 4, 2) := by decide +kernel
theorem dX12_bestNames_42 : decode cX12_bestNames 42 = .ok (.iconst 0, 1) := by decide +kernel
theorem dX12_bestNames_43 : decode cX12_bestNames 43 = .ok (.istore 5, 2) := by decide +kernel
theorem dX12_bestNames_45 : decode cX12_bestNames 45 = .ok (.iload 5, 2) := by decide +kernel
theorem dX12_bestNames_47 : decode cX12_bestNames 47 = .ok (.aload_n 0, 1) := by decide +kernel
theorem dX12_bestNames_48 : decode cX12_bestNames 48 = .ok (.getfield 161, 3) := by decide +kernel
theorem dX12_bestNames_51 : decode cX12_bestNames 51 = .ok (.if_icmp .ge 73, 3) := by decide +kernel
theorem dX12_bestNames_54 : decode cX12_bestNames 54 = .ok (.iload_n 2, 1) := by decide +kernel
theorem dX12_bestNames_55 : decode cX12_bestNames 55 = .ok (.ifCond .eq 69, 3) := by decide +kernel
theorem dX12_bestNames_58 : decode cX12_bestNames 58 = .ok (.aload_n 0, 1) := by decide +kernel
theorem dX12_bestNames_59 : decode cX12_bestNames 59 = .ok (.getfield 29, 3) := by decide +kernel
theorem dX12_bestNames_62 : decode cX12_bestNames 62 = .ok (.iload 5, 2) := by decide +kernel
theorem dX12_bestNames_64 : decode cX12_bestNames 64 = .ok (.iaload, 1) := by decide +kernel
theorem dX12_bestNames_65 : decode cX12_bestNames 65 = .ok (.iload_n 1, 1) := by decide +kernel
theorem dX12_bestNames_66 : decode cX12_bestNames 66 = .ok (.iconst 2, 1) := by decide +kernel
theorem dX12_bestNames_67 : decode cX12_bestNames 67 = .ok (.irem, 1) := by decide +kernel
theorem dX12_bestNames_68 : decode cX12_bestNames 68 = .ok (.if_icmp .eq 6, 3) := by decide +kernel
theorem dX12_bestNames_71 : decode cX12_bestNames 71 = .ok (.goto 47, 3) := by decide +kernel
theorem dX12_bestNames_74 : decode cX12_bestNames 74 = .ok (.aload_n 0, 1) := by decide +kernel
theorem dX12_bestNames_75 : decode cX12_bestNames 75 = .ok (.iload 5, 2) := by decide +kernel
theorem dX12_bestNames_77 : decode cX12_bestNames 77 = .ok (.iload_n 1, 1) := by decide +kernel
theorem dX12_bestNames_78 : decode cX12_bestNames 78 = .ok (.invokevirtual 367, 3) := by decide +kernel
theorem dX12_bestNames_81 : decode cX12_bestNames 81 = .ok (.istore 6, 2) := by decide +kernel
theorem dX12_bestNames_83 : decode cX12_bestNames 83 = .ok (.iload_n 3, 1) := by decide +kernel
theorem dX12_bestNames_84 : decode cX12_bestNames 84 = .ok (.ifCond .eq 10, 3) := by decide +kernel
theorem dX12_bestNames_87 : decode cX12_bestNames 87 = .ok (.iload 6, 2) := by decide +kernel
theorem dX12_bestNames_89 : decode cX12_bestNames 89 = .ok (.iload 4, 2) := by decide +kernel
theorem dX12_bestNames_91 : decode cX12_bestNames 91 = .ok (.if_icmp .le 9, 3) := by decide +kernel
theorem dX12_bestNames_94 : decode cX12_bestNames 94 = .ok (.iconst 0, 1) := by decide +kernel
theorem dX12_bestNames_95 : decode cX12_bestNames 95 = .ok (.istore_n 3, 1) := by decide +kernel
theorem dX12_bestNames_96 : decode cX12_bestNames 96 = .ok (.iload 6, 2) := by decide +kernel
theorem dX12_bestNames_98 : decode cX12_bestNames 98 = .ok (.istore 4, 2) := by decide +kernel
theorem dX12_bestNames_100 : decode cX12_bestNames 100 = .ok (.iload_n 3, 1) := by decide +kernel
theorem dX12_bestNames_101 : decode cX12_bestNames 101 = .ok (.iload 6, 2) := by decide +kernel
theorem dX12_bestNames_103 : decode cX12_bestNames 103 = .ok (.iload 4, 2) := by decide +kernel
theorem dX12_bestNames_105 : decode cX12_bestNames 105 = .ok (.if_icmp .ne 10, 3) := by decide +kernel
theorem dX12_bestNames_108 : decode cX12_bestNames 108 = .ok (.iconst 1, 1) := by decide +kernel
theorem dX12_bestNames_109 : decode cX12_bestNames 109 = .ok (.iload 5, 2) := by decide +kernel
theorem dX12_bestNames_111 : decode cX12_bestNames 111 = .ok (.ishl, 1) := by decide +kernel
theorem dX12_bestNames_112 : decode cX12_bestNames 112 = .ok (.goto 4, 3) := by decide +kernel
theorem dX12_bestNames_115 : decode cX12_bestNames 115 = .ok (.iconst 0, 1) := by decide +kernel
theorem dX12_bestNames_116 : decode cX12_bestNames 116 = .ok (.ior, 1) := by decide +kernel
theorem dX12_bestNames_117 : decode cX12_bestNames 117 = .ok (.istore_n 3, 1) := by decide +kernel
theorem dX12_bestNames_118 : decode cX12_bestNames 118 = .ok (.iinc 5 1, 3) := by decide +kernel
theorem dX12_bestNames_121 : decode cX12_bestNames 121 = .ok (.goto (-76), 3) := by decide +kernel
theorem dX12_bestNames_124 : decode cX12_bestNames 124 = .ok (.iload_n 3, 1) := by decide +kernel
theorem dX12_bestNames_125 : decode cX12_bestNames 125 = .ok (.ireturn, 1) := by decide +kernel
theorem dX12_lowestOf_0 : decode cX12_lowestOf 0 = .ok (.iconst 0, 1) := by decide +kernel
theorem dX12_lowestOf_1 : decode cX12_lowestOf 1 = .ok (.istore_n 1, 1) := by decide +kernel
theorem dX12_lowestOf_2 : decode cX12_lowestOf 2 = .ok (.iload_n 0, 1) := by decide +kernel
theorem dX12_lowestOf_3 : decode cX12_lowestOf 3 = .ok (.iload_n 1, 1) := by decide +kernel
theorem dX12_lowestOf_4 : decode cX12_lowestOf 4 = .ok (.invokestatic 324, 3) := by decide +kernel
theorem dX12_lowestOf_7 : decode cX12_lowestOf 7 = .ok (.ifCond .ne 9, 3) := by decide +kernel
theorem dX12_lowestOf_10 : decode cX12_lowestOf 10 = .ok (.iinc 1 1, 3) := by decide +kernel
theorem dX12_lowestOf_13 : decode cX12_lowestOf 13 = .ok (.goto (-11), 3) := by decide +kernel
theorem dX12_lowestOf_16 : decode cX12_lowestOf 16 = .ok (.iload_n 1, 1) := by decide +kernel
theorem dX12_lowestOf_17 : decode cX12_lowestOf 17 = .ok (.ireturn, 1) := by decide +kernel
theorem dX12_asks_0 : decode cX12_asks 0 = .ok (.iconst 0, 1) := by decide +kernel
theorem dX12_asks_1 : decode cX12_asks 1 = .ok (.istore_n 1, 1) := by decide +kernel
theorem dX12_asks_2 : decode cX12_asks 2 = .ok (.iload_n 1, 1) := by decide +kernel
theorem dX12_asks_3 : decode cX12_asks 3 = .ok (.aload_n 0, 1) := by decide +kernel
theorem dX12_asks_4 : decode cX12_asks 4 = .ok (.getfield 321, 3) := by decide +kernel
theorem dX12_asks_7 : decode cX12_asks 7 = .ok (.if_icmp .ge 21, 3) := by decide +kernel
theorem dX12_asks_10 : decode cX12_asks 10 = .ok (.aload_n 0, 1) := by decide +kernel
theorem dX12_asks_11 : decode cX12_asks 11 = .ok (.getfield 108, 3) := by decide +kernel
theorem dX12_asks_14 : decode cX12_asks 14 = .ok (.iload_n 1, 1) := by decide +kernel
theorem dX12_asks_15 : decode cX12_asks 15 = .ok (.aload_n 0, 1) := by decide +kernel
theorem dX12_asks_16 : decode cX12_asks 16 = .ok (.iload_n 1, 1) := by decide +kernel
theorem dX12_asks_17 : decode cX12_asks 17 = .ok (.iconst 0, 1) := by decide +kernel
theorem dX12_asks_18 : decode cX12_asks 18 = .ok (.invokevirtual 370, 3) := by decide +kernel
theorem dX12_asks_21 : decode cX12_asks 21 = .ok (.iastore, 1) := by decide +kernel
theorem dX12_asks_22 : decode cX12_asks 22 = .ok (.iinc 1 1, 3) := by decide +kernel
theorem dX12_asks_25 : decode cX12_asks 25 = .ok (.goto (-23), 3) := by decide +kernel
theorem dX12_asks_28 : decode cX12_asks 28 = .ok (.iconst 0, 1) := by decide +kernel
theorem dX12_asks_29 : decode cX12_asks 29 = .ok (.istore_n 1, 1) := by decide +kernel
theorem dX12_asks_30 : decode cX12_asks 30 = .ok (.iload_n 1, 1) := by decide +kernel
theorem dX12_asks_31 : decode cX12_asks 31 = .ok (.aload_n 0, 1) := by decide +kernel
theorem dX12_asks_32 : decode cX12_asks 32 = .ok (.getfield 321, 3) := by decide +kernel
theorem dX12_asks_35 : decode cX12_asks 35 = .ok (.if_icmp .ge 72, 3) := by decide +kernel
theorem dX12_asks_38 : decode cX12_asks 38 = .ok (.aload_n 0, 1) := by decide +kernel
theorem dX12_asks_39 : decode cX12_asks 39 = .ok (.getfield 111, 3) := by decide +kernel
theorem dX12_asks_42 : decode cX12_asks 42 = .ok (.iload_n 1, 1) := by decide +kernel
theorem dX12_asks_43 : decode cX12_asks 43 = .ok (.bipush (-2), 2) := by decide +kernel
theorem dX12_asks_45 : decode cX12_asks 45 = .ok (.iastore, 1) := by decide +kernel
theorem dX12_asks_46 : decode cX12_asks 46 = .ok (.aload_n 0, 1) := by decide +kernel
theorem dX12_asks_47 : decode cX12_asks 47 = .ok (.getfield 108, 3) := by decide +kernel
theorem dX12_asks_50 : decode cX12_asks 50 = .ok (.iload_n 1, 1) := by decide +kernel
theorem dX12_asks_51 : decode cX12_asks 51 = .ok (.iaload, 1) := by decide +kernel
theorem dX12_asks_52 : decode cX12_asks 52 = .ok (.ifCond .ne 6, 3) := by decide +kernel
theorem dX12_asks_55 : decode cX12_asks 55 = .ok (.goto 46, 3) := by decide +kernel
theorem dX12_asks_58 : decode cX12_asks 58 = .ok (.aload_n 0, 1) := by decide +kernel
theorem dX12_asks_59 : decode cX12_asks 59 = .ok (.aload_n 0, 1) := by decide +kernel
theorem dX12_asks_60 : decode cX12_asks 60 = .ok (.getfield 108, 3) := by decide +kernel
theorem dX12_asks_63 : decode cX12_asks 63 = .ok (.iload_n 1, 1) := by decide +kernel
theorem dX12_asks_64 : decode cX12_asks 64 = .ok (.iaload, 1) := by decide +kernel
theorem dX12_asks_65 : decode cX12_asks 65 = .ok (.iload_n 1, 1) := by decide +kernel
theorem dX12_asks_66 : decode cX12_asks 66 = .ok (.invokevirtual 373, 3) := by decide +kernel
theorem dX12_asks_69 : decode cX12_asks 69 = .ok (.istore_n 2, 1) := by decide +kernel
theorem dX12_asks_70 : decode cX12_asks 70 = .ok (.aload_n 0, 1) := by decide +kernel
theorem dX12_asks_71 : decode cX12_asks 71 = .ok (.getfield 111, 3) := by decide +kernel
theorem dX12_asks_74 : decode cX12_asks 74 = .ok (.iload_n 1, 1) := by decide +kernel
theorem dX12_asks_75 : decode cX12_asks 75 = .ok (.iload_n 2, 1) := by decide +kernel
theorem dX12_asks_76 : decode cX12_asks 76 = .ok (.iconst (-1), 1) := by decide +kernel
theorem dX12_asks_77 : decode cX12_asks 77 = .ok (.if_icmp .ne 22, 3) := by decide +kernel
theorem dX12_asks_80 : decode cX12_asks 80 = .ok (.aload_n 0, 1) := by decide +kernel
theorem dX12_asks_81 : decode cX12_asks 81 = .ok (.aload_n 0, 1) := by decide +kernel
theorem dX12_asks_82 : decode cX12_asks 82 = .ok (.getfield 108, 3) := by decide +kernel
theorem dX12_asks_85 : decode cX12_asks 85 = .ok (.iload_n 1, 1) := by decide +kernel
theorem dX12_asks_86 : decode cX12_asks 86 = .ok (.iaload, 1) := by decide +kernel
theorem dX12_asks_87 : decode cX12_asks 87 = .ok (.invokestatic 357, 3) := by decide +kernel
theorem dX12_asks_90 : decode cX12_asks 90 = .ok (.invokevirtual 376, 3) := by decide +kernel
theorem dX12_asks_93 : decode cX12_asks 93 = .ok (.invokestatic 379, 3) := by decide +kernel
theorem dX12_asks_96 : decode cX12_asks 96 = .ok (.goto 4, 3) := by decide +kernel
theorem dX12_asks_99 : decode cX12_asks 99 = .ok (.iload_n 2, 1) := by decide +kernel
theorem dX12_asks_100 : decode cX12_asks 100 = .ok (.iastore, 1) := by decide +kernel
theorem dX12_asks_101 : decode cX12_asks 101 = .ok (.iinc 1 1, 3) := by decide +kernel
theorem dX12_asks_104 : decode cX12_asks 104 = .ok (.goto (-74), 3) := by decide +kernel
theorem dX12_asks_107 : decode cX12_asks 107 = .ok (.return_, 1) := by decide +kernel
theorem dX12_pointsOf_0 : decode cX12_pointsOf 0 = .ok (.aload_n 0, 1) := by decide +kernel
theorem dX12_pointsOf_1 : decode cX12_pointsOf 1 = .ok (.iload_n 1, 1) := by decide +kernel
theorem dX12_pointsOf_2 : decode cX12_pointsOf 2 = .ok (.iload_n 2, 1) := by decide +kernel
theorem dX12_pointsOf_3 : decode cX12_pointsOf 3 = .ok (.invokevirtual 382, 3) := by decide +kernel
theorem dX12_pointsOf_6 : decode cX12_pointsOf 6 = .ok (.aload_n 0, 1) := by decide +kernel
theorem dX12_pointsOf_7 : decode cX12_pointsOf 7 = .ok (.invokevirtual 385, 3) := by decide +kernel
theorem dX12_pointsOf_10 : decode cX12_pointsOf 10 = .ok (.iconst 0, 1) := by decide +kernel
theorem dX12_pointsOf_11 : decode cX12_pointsOf 11 = .ok (.istore_n 3, 1) := by decide +kernel
theorem dX12_pointsOf_12 : decode cX12_pointsOf 12 = .ok (.iconst 0, 1) := by decide +kernel
theorem dX12_pointsOf_13 : decode cX12_pointsOf 13 = .ok (.istore 4, 2) := by decide +kernel
theorem dX12_pointsOf_15 : decode cX12_pointsOf 15 = .ok (.iload 4, 2) := by decide +kernel
theorem dX12_pointsOf_17 : decode cX12_pointsOf 17 = .ok (.aload_n 0, 1) := by decide +kernel
theorem dX12_pointsOf_18 : decode cX12_pointsOf 18 = .ok (.getfield 321, 3) := by decide +kernel
theorem dX12_pointsOf_21 : decode cX12_pointsOf 21 = .ok (.if_icmp .ge 39, 3) := by decide +kernel
theorem dX12_pointsOf_24 : decode cX12_pointsOf 24 = .ok (.iload_n 3, 1) := by decide +kernel
theorem dX12_pointsOf_25 : decode cX12_pointsOf 25 = .ok (.aload_n 0, 1) := by decide +kernel
theorem dX12_pointsOf_26 : decode cX12_pointsOf 26 = .ok (.getfield 108, 3) := by decide +kernel
theorem dX12_pointsOf_29 : decode cX12_pointsOf 29 = .ok (.iload 4, 2) := by decide +kernel
theorem dX12_pointsOf_31 : decode cX12_pointsOf 31 = .ok (.iaload, 1) := by decide +kernel
theorem dX12_pointsOf_32 : decode cX12_pointsOf 32 = .ok (.ifCond .ne 7, 3) := by decide +kernel
theorem dX12_pointsOf_35 : decode cX12_pointsOf 35 = .ok (.iconst 0, 1) := by decide +kernel
theorem dX12_pointsOf_36 : decode cX12_pointsOf 36 = .ok (.goto 16, 3) := by decide +kernel
theorem dX12_pointsOf_39 : decode cX12_pointsOf 39 = .ok (.aload_n 0, 1) := by decide +kernel
theorem dX12_pointsOf_40 : decode cX12_pointsOf 40 = .ok (.aload_n 0, 1) := by decide +kernel
theorem dX12_pointsOf_41 : decode cX12_pointsOf 41 = .ok (.getfield 111, 3) := by decide +kernel
theorem dX12_pointsOf_44 : decode cX12_pointsOf 44 = .ok (.iload 4, 2) := by decide +kernel
theorem dX12_pointsOf_46 : decode cX12_pointsOf 46 = .ok (.iaload, 1) := by decide +kernel
theorem dX12_pointsOf_47 : decode cX12_pointsOf 47 = .ok (.iload 4, 2) := by decide +kernel
theorem dX12_pointsOf_49 : decode cX12_pointsOf 49 = .ok (.invokevirtual 363, 3) := by decide +kernel
theorem dX12_pointsOf_52 : decode cX12_pointsOf 52 = .ok (.iadd, 1) := by decide +kernel
theorem dX12_pointsOf_53 : decode cX12_pointsOf 53 = .ok (.istore_n 3, 1) := by decide +kernel
theorem dX12_pointsOf_54 : decode cX12_pointsOf 54 = .ok (.iinc 4 1, 3) := by decide +kernel
theorem dX12_pointsOf_57 : decode cX12_pointsOf 57 = .ok (.goto (-42), 3) := by decide +kernel
theorem dX12_pointsOf_60 : decode cX12_pointsOf 60 = .ok (.iload_n 3, 1) := by decide +kernel
theorem dX12_pointsOf_61 : decode cX12_pointsOf 61 = .ok (.ireturn, 1) := by decide +kernel
theorem dX12_canFamily_0 : decode cX12_canFamily 0 = .ok (.aload_n 0, 1) := by decide +kernel
theorem dX12_canFamily_1 : decode cX12_canFamily 1 = .ok (.iload_n 1, 1) := by decide +kernel
theorem dX12_canFamily_2 : decode cX12_canFamily 2 = .ok (.iload_n 2, 1) := by decide +kernel
theorem dX12_canFamily_3 : decode cX12_canFamily 3 = .ok (.invokevirtual 382, 3) := by decide +kernel
theorem dX12_canFamily_6 : decode cX12_canFamily 6 = .ok (.aload_n 0, 1) := by decide +kernel
theorem dX12_canFamily_7 : decode cX12_canFamily 7 = .ok (.invokevirtual 388, 3) := by decide +kernel
theorem dX12_canFamily_10 : decode cX12_canFamily 10 = .ok (.ireturn, 1) := by decide +kernel
theorem dX12_isSet_0 : decode cX12_isSet 0 = .ok (.iload_n 1, 1) := by decide +kernel
theorem dX12_isSet_1 : decode cX12_isSet 1 = .ok (.i2l, 1) := by decide +kernel
theorem dX12_isSet_2 : decode cX12_isSet 2 = .ok (.lconst 0, 1) := by decide +kernel
theorem dX12_isSet_3 : decode cX12_isSet 3 = .ok (.iconst 1, 1) := by decide +kernel
theorem dX12_isSet_4 : decode cX12_isSet 4 = .ok (.aload_n 0, 1) := by decide +kernel
theorem dX12_isSet_5 : decode cX12_isSet 5 = .ok (.getfield 175, 3) := by decide +kernel
theorem dX12_isSet_8 : decode cX12_isSet 8 = .ok (.ishl, 1) := by decide +kernel
theorem dX12_isSet_9 : decode cX12_isSet 9 = .ok (.iconst 1, 1) := by decide +kernel
theorem dX12_isSet_10 : decode cX12_isSet 10 = .ok (.isub, 1) := by decide +kernel
theorem dX12_isSet_11 : decode cX12_isSet 11 = .ok (.i2l, 1) := by decide +kernel
theorem dX12_isSet_12 : decode cX12_isSet 12 = .ok (.invokestatic 164, 3) := by decide +kernel
theorem dX12_isSet_15 : decode cX12_isSet 15 = .ok (.ireturn, 1) := by decide +kernel
theorem dX12_tie_0 : decode cX12_tie 0 = .ok (.aload_n 0, 1) := by decide +kernel
theorem dX12_tie_1 : decode cX12_tie 1 = .ok (.iload_n 1, 1) := by decide +kernel
theorem dX12_tie_2 : decode cX12_tie 2 = .ok (.invokevirtual 198, 3) := by decide +kernel
theorem dX12_tie_5 : decode cX12_tie 5 = .ok (.ifCond .eq 28, 3) := by decide +kernel
theorem dX12_tie_8 : decode cX12_tie 8 = .ok (.aload_n 0, 1) := by decide +kernel
theorem dX12_tie_9 : decode cX12_tie 9 = .ok (.iload_n 2, 1) := by decide +kernel
theorem dX12_tie_10 : decode cX12_tie 10 = .ok (.invokevirtual 193, 3) := by decide +kernel
theorem dX12_tie_13 : decode cX12_tie 13 = .ok (.ifCond .eq 20, 3) := by decide +kernel
theorem dX12_tie_16 : decode cX12_tie 16 = .ok (.aload_n 0, 1) := by decide +kernel
theorem dX12_tie_17 : decode cX12_tie 17 = .ok (.iload_n 1, 1) := by decide +kernel
theorem dX12_tie_18 : decode cX12_tie 18 = .ok (.iload_n 2, 1) := by decide +kernel
theorem dX12_tie_19 : decode cX12_tie 19 = .ok (.invokevirtual 330, 3) := by decide +kernel
theorem dX12_tie_22 : decode cX12_tie 22 = .ok (.ifCond .eq 7, 3) := by decide +kernel
theorem dX12_tie_25 : decode cX12_tie 25 = .ok (.iconst 1, 1) := by decide +kernel
theorem dX12_tie_26 : decode cX12_tie 26 = .ok (.goto 8, 3) := by decide +kernel
theorem dX12_tie_29 : decode cX12_tie 29 = .ok (.iconst 0, 1) := by decide +kernel
theorem dX12_tie_30 : decode cX12_tie 30 = .ok (.goto 4, 3) := by decide +kernel
theorem dX12_tie_33 : decode cX12_tie 33 = .ok (.iconst (-1), 1) := by decide +kernel
theorem dX12_tie_34 : decode cX12_tie 34 = .ok (.ireturn, 1) := by decide +kernel
theorem dX12_family_0 : decode cX12_family 0 = .ok (.aload_n 0, 1) := by decide +kernel
theorem dX12_family_1 : decode cX12_family 1 = .ok (.iload_n 1, 1) := by decide +kernel
theorem dX12_family_2 : decode cX12_family 2 = .ok (.invokevirtual 193, 3) := by decide +kernel
theorem dX12_family_5 : decode cX12_family 5 = .ok (.ifCond .eq 28, 3) := by decide +kernel
theorem dX12_family_8 : decode cX12_family 8 = .ok (.aload_n 0, 1) := by decide +kernel
theorem dX12_family_9 : decode cX12_family 9 = .ok (.iload_n 2, 1) := by decide +kernel
theorem dX12_family_10 : decode cX12_family 10 = .ok (.invokevirtual 391, 3) := by decide +kernel
theorem dX12_family_13 : decode cX12_family 13 = .ok (.ifCond .eq 20, 3) := by decide +kernel
theorem dX12_family_16 : decode cX12_family 16 = .ok (.aload_n 0, 1) := by decide +kernel
theorem dX12_family_17 : decode cX12_family 17 = .ok (.iload_n 1, 1) := by decide +kernel
theorem dX12_family_18 : decode cX12_family 18 = .ok (.iload_n 2, 1) := by decide +kernel
theorem dX12_family_19 : decode cX12_family 19 = .ok (.invokevirtual 394, 3) := by decide +kernel
theorem dX12_family_22 : decode cX12_family 22 = .ok (.ifCond .eq 7, 3) := by decide +kernel
theorem dX12_family_25 : decode cX12_family 25 = .ok (.iconst 1, 1) := by decide +kernel
theorem dX12_family_26 : decode cX12_family 26 = .ok (.goto 8, 3) := by decide +kernel
theorem dX12_family_29 : decode cX12_family 29 = .ok (.iconst 0, 1) := by decide +kernel
theorem dX12_family_30 : decode cX12_family 30 = .ok (.goto 4, 3) := by decide +kernel
theorem dX12_family_33 : decode cX12_family 33 = .ok (.iconst (-1), 1) := by decide +kernel
theorem dX12_family_34 : decode cX12_family 34 = .ok (.ireturn, 1) := by decide +kernel
theorem dX12_points_0 : decode cX12_points 0 = .ok (.aload_n 0, 1) := by decide +kernel
theorem dX12_points_1 : decode cX12_points 1 = .ok (.iload_n 1, 1) := by decide +kernel
theorem dX12_points_2 : decode cX12_points 2 = .ok (.invokevirtual 193, 3) := by decide +kernel
theorem dX12_points_5 : decode cX12_points 5 = .ok (.ifCond .eq 29, 3) := by decide +kernel
theorem dX12_points_8 : decode cX12_points 8 = .ok (.aload_n 0, 1) := by decide +kernel
theorem dX12_points_9 : decode cX12_points 9 = .ok (.iload_n 2, 1) := by decide +kernel
theorem dX12_points_10 : decode cX12_points 10 = .ok (.invokevirtual 391, 3) := by decide +kernel
theorem dX12_points_13 : decode cX12_points 13 = .ok (.ifCond .eq 21, 3) := by decide +kernel
theorem dX12_points_16 : decode cX12_points 16 = .ok (.aload_n 0, 1) := by decide +kernel
theorem dX12_points_17 : decode cX12_points 17 = .ok (.iload_n 1, 1) := by decide +kernel
theorem dX12_points_18 : decode cX12_points 18 = .ok (.iload_n 2, 1) := by decide +kernel
theorem dX12_points_19 : decode cX12_points 19 = .ok (.invokevirtual 394, 3) := by decide +kernel
theorem dX12_points_22 : decode cX12_points 22 = .ok (.ifCond .eq 12, 3) := by decide +kernel
theorem dX12_points_25 : decode cX12_points 25 = .ok (.aload_n 0, 1) := by decide +kernel
theorem dX12_points_26 : decode cX12_points 26 = .ok (.iload_n 1, 1) := by decide +kernel
theorem dX12_points_27 : decode cX12_points 27 = .ok (.iload_n 2, 1) := by decide +kernel
theorem dX12_points_28 : decode cX12_points 28 = .ok (.invokevirtual 397, 3) := by decide +kernel
theorem dX12_points_31 : decode cX12_points 31 = .ok (.goto 6, 3) := by decide +kernel
theorem dX12_points_34 : decode cX12_points 34 = .ok (.ldc_w 400, 3) := by decide +kernel
theorem dX12_points_37 : decode cX12_points 37 = .ok (.ireturn, 1) := by decide +kernel
theorem dX12_placeOf_0 : decode cX12_placeOf 0 = .ok (.aload_n 0, 1) := by decide +kernel
theorem dX12_placeOf_1 : decode cX12_placeOf 1 = .ok (.iload_n 1, 1) := by decide +kernel
theorem dX12_placeOf_2 : decode cX12_placeOf 2 = .ok (.invokevirtual 193, 3) := by decide +kernel
theorem dX12_placeOf_5 : decode cX12_placeOf 5 = .ok (.ifCond .eq 36, 3) := by decide +kernel
theorem dX12_placeOf_8 : decode cX12_placeOf 8 = .ok (.aload_n 0, 1) := by decide +kernel
theorem dX12_placeOf_9 : decode cX12_placeOf 9 = .ok (.iload_n 2, 1) := by decide +kernel
theorem dX12_placeOf_10 : decode cX12_placeOf 10 = .ok (.invokevirtual 391, 3) := by decide +kernel
theorem dX12_placeOf_13 : decode cX12_placeOf 13 = .ok (.ifCond .eq 28, 3) := by decide +kernel
theorem dX12_placeOf_16 : decode cX12_placeOf 16 = .ok (.aload_n 0, 1) := by decide +kernel
theorem dX12_placeOf_17 : decode cX12_placeOf 17 = .ok (.iload_n 3, 1) := by decide +kernel
theorem dX12_placeOf_18 : decode cX12_placeOf 18 = .ok (.invokevirtual 198, 3) := by decide +kernel
theorem dX12_placeOf_21 : decode cX12_placeOf 21 = .ok (.ifCond .eq 20, 3) := by decide +kernel
theorem dX12_placeOf_24 : decode cX12_placeOf 24 = .ok (.iload_n 2, 1) := by decide +kernel
theorem dX12_placeOf_25 : decode cX12_placeOf 25 = .ok (.iload_n 3, 1) := by decide +kernel
theorem dX12_placeOf_26 : decode cX12_placeOf 26 = .ok (.invokestatic 324, 3) := by decide +kernel
theorem dX12_placeOf_29 : decode cX12_placeOf 29 = .ok (.ifCond .eq 12, 3) := by decide +kernel
theorem dX12_placeOf_32 : decode cX12_placeOf 32 = .ok (.aload_n 0, 1) := by decide +kernel
theorem dX12_placeOf_33 : decode cX12_placeOf 33 = .ok (.iload_n 1, 1) := by decide +kernel
theorem dX12_placeOf_34 : decode cX12_placeOf 34 = .ok (.iload_n 2, 1) := by decide +kernel
theorem dX12_placeOf_35 : decode cX12_placeOf 35 = .ok (.invokevirtual 394, 3) := by decide +kernel
theorem dX12_placeOf_38 : decode cX12_placeOf 38 = .ok (.ifCond .ne 5, 3) := by decide +kernel
theorem dX12_placeOf_41 : decode cX12_placeOf 41 = .ok (.iconst (-1), 1) := by decide +kernel
theorem dX12_placeOf_42 : decode cX12_placeOf 42 = .ok (.ireturn, 1) := by decide +kernel
theorem dX12_placeOf_43 : decode cX12_placeOf 43 = .ok (.aload_n 0, 1) := by decide +kernel
theorem dX12_placeOf_44 : decode cX12_placeOf 44 = .ok (.invokevirtual 385, 3) := by decide +kernel
theorem dX12_placeOf_47 : decode cX12_placeOf 47 = .ok (.iconst 0, 1) := by decide +kernel
theorem dX12_placeOf_48 : decode cX12_placeOf 48 = .ok (.istore 4, 2) := by decide +kernel
theorem dX12_placeOf_50 : decode cX12_placeOf 50 = .ok (.aload_n 0, 1) := by decide +kernel
theorem dX12_placeOf_51 : decode cX12_placeOf 51 = .ok (.getfield 105, 3) := by decide +kernel
theorem dX12_placeOf_54 : decode cX12_placeOf 54 = .ok (.iload 4, 2) := by decide +kernel
theorem dX12_placeOf_56 : decode cX12_placeOf 56 = .ok (.iaload, 1) := by decide +kernel
theorem dX12_placeOf_57 : decode cX12_placeOf 57 = .ok (.iload_n 3, 1) := by decide +kernel
theorem dX12_placeOf_58 : decode cX12_placeOf 58 = .ok (.if_icmp .eq 9, 3) := by decide +kernel
theorem dX12_placeOf_61 : decode cX12_placeOf 61 = .ok (.iinc 4 1, 3) := by decide +kernel
theorem dX12_placeOf_64 : decode cX12_placeOf 64 = .ok (.goto (-14), 3) := by decide +kernel
theorem dX12_placeOf_67 : decode cX12_placeOf 67 = .ok (.iload 4, 2) := by decide +kernel
theorem dX12_placeOf_69 : decode cX12_placeOf 69 = .ok (.ireturn, 1) := by decide +kernel
theorem dX12_by_0 : decode cX12_by 0 = .ok (.aload_n 0, 1) := by decide +kernel
theorem dX12_by_1 : decode cX12_by 1 = .ok (.iload_n 1, 1) := by decide +kernel
theorem dX12_by_2 : decode cX12_by 2 = .ok (.iload_n 2, 1) := by decide +kernel
theorem dX12_by_3 : decode cX12_by 3 = .ok (.iload_n 3, 1) := by decide +kernel
theorem dX12_by_4 : decode cX12_by 4 = .ok (.invokevirtual 401, 3) := by decide +kernel
theorem dX12_by_7 : decode cX12_by 7 = .ok (.istore 4, 2) := by decide +kernel
theorem dX12_by_9 : decode cX12_by 9 = .ok (.iload 4, 2) := by decide +kernel
theorem dX12_by_11 : decode cX12_by 11 = .ok (.iconst (-1), 1) := by decide +kernel
theorem dX12_by_12 : decode cX12_by 12 = .ok (.if_icmp .ne 7, 3) := by decide +kernel
theorem dX12_by_15 : decode cX12_by 15 = .ok (.iconst (-1), 1) := by decide +kernel
theorem dX12_by_16 : decode cX12_by 16 = .ok (.goto 10, 3) := by decide +kernel
theorem dX12_by_19 : decode cX12_by 19 = .ok (.aload_n 0, 1) := by decide +kernel
theorem dX12_by_20 : decode cX12_by 20 = .ok (.getfield 108, 3) := by decide +kernel
theorem dX12_by_23 : decode cX12_by 23 = .ok (.iload 4, 2) := by decide +kernel
theorem dX12_by_25 : decode cX12_by 25 = .ok (.iaload, 1) := by decide +kernel
theorem dX12_by_26 : decode cX12_by 26 = .ok (.ireturn, 1) := by decide +kernel
theorem dX12_should_0 : decode cX12_should 0 = .ok (.aload_n 0, 1) := by decide +kernel
theorem dX12_should_1 : decode cX12_should 1 = .ok (.iload_n 1, 1) := by decide +kernel
theorem dX12_should_2 : decode cX12_should 2 = .ok (.iload_n 2, 1) := by decide +kernel
theorem dX12_should_3 : decode cX12_should 3 = .ok (.iload_n 3, 1) := by decide +kernel
theorem dX12_should_4 : decode cX12_should 4 = .ok (.invokevirtual 401, 3) := by decide +kernel
theorem dX12_should_7 : decode cX12_should 7 = .ok (.istore 4, 2) := by decide +kernel
theorem dX12_should_9 : decode cX12_should 9 = .ok (.iload 4, 2) := by decide +kernel
theorem dX12_should_11 : decode cX12_should 11 = .ok (.iconst (-1), 1) := by decide +kernel
theorem dX12_should_12 : decode cX12_should 12 = .ok (.if_icmp .ne 7, 3) := by decide +kernel
theorem dX12_should_15 : decode cX12_should 15 = .ok (.iconst (-1), 1) := by decide +kernel
theorem dX12_should_16 : decode cX12_should 16 = .ok (.goto 10, 3) := by decide +kernel
theorem dX12_should_19 : decode cX12_should 19 = .ok (.aload_n 0, 1) := by decide +kernel
theorem dX12_should_20 : decode cX12_should 20 = .ok (.getfield 111, 3) := by decide +kernel
theorem dX12_should_23 : decode cX12_should 23 = .ok (.iload 4, 2) := by decide +kernel
theorem dX12_should_25 : decode cX12_should 25 = .ok (.iaload, 1) := by decide +kernel
theorem dX12_should_26 : decode cX12_should 26 = .ok (.ireturn, 1) := by decide +kernel
theorem dX12_families_0 : decode cX12_families 0 = .ok (.iconst 0, 1) := by decide +kernel
theorem dX12_families_1 : decode cX12_families 1 = .ok (.istore_n 1, 1) := by decide +kernel
theorem dX12_families_2 : decode cX12_families 2 = .ok (.iload_n 1, 1) := by decide +kernel
theorem dX12_families_3 : decode cX12_families 3 = .ok (.aload_n 0, 1) := by decide +kernel
theorem dX12_families_4 : decode cX12_families 4 = .ok (.getfield 172, 3) := by decide +kernel
theorem dX12_families_7 : decode cX12_families 7 = .ok (.if_icmp .ge 60, 3) := by decide +kernel
theorem dX12_families_10 : decode cX12_families 10 = .ok (.iconst 0, 1) := by decide +kernel
theorem dX12_families_11 : decode cX12_families 11 = .ok (.istore_n 2, 1) := by decide +kernel
theorem dX12_families_12 : decode cX12_families 12 = .ok (.iload_n 2, 1) := by decide +kernel
theorem dX12_families_13 : decode cX12_families 13 = .ok (.iconst 1, 1) := by decide +kernel
theorem dX12_families_14 : decode cX12_families 14 = .ok (.aload_n 0, 1) := by decide +kernel
theorem dX12_families_15 : decode cX12_families 15 = .ok (.getfield 175, 3) := by decide +kernel
theorem dX12_families_18 : decode cX12_families 18 = .ok (.ishl, 1) := by decide +kernel
theorem dX12_families_19 : decode cX12_families 19 = .ok (.if_icmp .ge 42, 3) := by decide +kernel
theorem dX12_families_22 : decode cX12_families 22 = .ok (.aload_n 0, 1) := by decide +kernel
theorem dX12_families_23 : decode cX12_families 23 = .ok (.getfield 121, 3) := by decide +kernel
theorem dX12_families_26 : decode cX12_families 26 = .ok (.sipush 1024, 3) := by decide +kernel
theorem dX12_families_29 : decode cX12_families 29 = .ok (.iload_n 1, 1) := by decide +kernel
theorem dX12_families_30 : decode cX12_families 30 = .ok (.imul, 1) := by decide +kernel
theorem dX12_families_31 : decode cX12_families 31 = .ok (.iload_n 2, 1) := by decide +kernel
theorem dX12_families_32 : decode cX12_families 32 = .ok (.iadd, 1) := by decide +kernel
theorem dX12_families_33 : decode cX12_families 33 = .ok (.aload_n 0, 1) := by decide +kernel
theorem dX12_families_34 : decode cX12_families 34 = .ok (.iload_n 1, 1) := by decide +kernel
theorem dX12_families_35 : decode cX12_families 35 = .ok (.iload_n 2, 1) := by decide +kernel
theorem dX12_families_36 : decode cX12_families 36 = .ok (.invokevirtual 394, 3) := by decide +kernel
theorem dX12_families_39 : decode cX12_families 39 = .ok (.ifCond .eq 12, 3) := by decide +kernel
theorem dX12_families_42 : decode cX12_families 42 = .ok (.aload_n 0, 1) := by decide +kernel
theorem dX12_families_43 : decode cX12_families 43 = .ok (.iload_n 1, 1) := by decide +kernel
theorem dX12_families_44 : decode cX12_families 44 = .ok (.iload_n 2, 1) := by decide +kernel
theorem dX12_families_45 : decode cX12_families 45 = .ok (.invokevirtual 397, 3) := by decide +kernel
theorem dX12_families_48 : decode cX12_families 48 = .ok (.goto 6, 3) := by decide +kernel
theorem dX12_families_51 : decode cX12_families 51 = .ok (.ldc_w 404, 3) := by decide +kernel
theorem dX12_families_54 : decode cX12_families 54 = .ok (.iastore, 1) := by decide +kernel
theorem dX12_families_55 : decode cX12_families 55 = .ok (.iinc 2 1, 3) := by decide +kernel
theorem dX12_families_58 : decode cX12_families 58 = .ok (.goto (-46), 3) := by decide +kernel
theorem dX12_families_61 : decode cX12_families 61 = .ok (.iinc 1 1, 3) := by decide +kernel
theorem dX12_families_64 : decode cX12_families 64 = .ok (.goto (-62), 3) := by decide +kernel
theorem dX12_families_67 : decode cX12_families 67 = .ok (.return_, 1) := by decide +kernel
theorem dX12_comes_0 : decode cX12_comes 0 = .ok (.iload_n 2, 1) := by decide +kernel
theorem dX12_comes_1 : decode cX12_comes 1 = .ok (.aload_n 0, 1) := by decide +kernel
theorem dX12_comes_2 : decode cX12_comes 2 = .ok (.getfield 137, 3) := by decide +kernel
theorem dX12_comes_5 : decode cX12_comes 5 = .ok (.iload_n 1, 1) := by decide +kernel
theorem dX12_comes_6 : decode cX12_comes 6 = .ok (.iaload, 1) := by decide +kernel
theorem dX12_comes_7 : decode cX12_comes 7 = .ok (.if_icmp .le 32, 3) := by decide +kernel
theorem dX12_comes_10 : decode cX12_comes 10 = .ok (.aload_n 0, 1) := by decide +kernel
theorem dX12_comes_11 : decode cX12_comes 11 = .ok (.getfield 140, 3) := by decide +kernel
theorem dX12_comes_14 : decode cX12_comes 14 = .ok (.iload_n 1, 1) := by decide +kernel
theorem dX12_comes_15 : decode cX12_comes 15 = .ok (.aload_n 0, 1) := by decide +kernel
theorem dX12_comes_16 : decode cX12_comes 16 = .ok (.getfield 137, 3) := by decide +kernel
theorem dX12_comes_19 : decode cX12_comes 19 = .ok (.iload_n 1, 1) := by decide +kernel
theorem dX12_comes_20 : decode cX12_comes 20 = .ok (.iaload, 1) := by decide +kernel
theorem dX12_comes_21 : decode cX12_comes 21 = .ok (.iastore, 1) := by decide +kernel
theorem dX12_comes_22 : decode cX12_comes 22 = .ok (.aload_n 0, 1) := by decide +kernel
theorem dX12_comes_23 : decode cX12_comes 23 = .ok (.getfield 137, 3) := by decide +kernel
theorem dX12_comes_26 : decode cX12_comes 26 = .ok (.iload_n 1, 1) := by decide +kernel
theorem dX12_comes_27 : decode cX12_comes 27 = .ok (.iload_n 2, 1) := by decide +kernel
theorem dX12_comes_28 : decode cX12_comes 28 = .ok (.iastore, 1) := by decide +kernel
theorem dX12_comes_29 : decode cX12_comes 29 = .ok (.aload_n 0, 1) := by decide +kernel
theorem dX12_comes_30 : decode cX12_comes 30 = .ok (.getfield 143, 3) := by decide +kernel
theorem dX12_comes_33 : decode cX12_comes 33 = .ok (.iload_n 1, 1) := by decide +kernel
theorem dX12_comes_34 : decode cX12_comes 34 = .ok (.lload_n 3, 1) := by decide +kernel
theorem dX12_comes_35 : decode cX12_comes 35 = .ok (.lastore, 1) := by decide +kernel
theorem dX12_comes_36 : decode cX12_comes 36 = .ok (.goto 43, 3) := by decide +kernel
theorem dX12_comes_39 : decode cX12_comes 39 = .ok (.iload_n 2, 1) := by decide +kernel
theorem dX12_comes_40 : decode cX12_comes 40 = .ok (.aload_n 0, 1) := by decide +kernel
theorem dX12_comes_41 : decode cX12_comes 41 = .ok (.getfield 137, 3) := by decide +kernel
theorem dX12_comes_44 : decode cX12_comes 44 = .ok (.iload_n 1, 1) := by decide +kernel
theorem dX12_comes_45 : decode cX12_comes 45 = .ok (.iaload, 1) := by decide +kernel
theorem dX12_comes_46 : decode cX12_comes 46 = .ok (.if_icmp .ne 16, 3) := by decide +kernel
theorem dX12_comes_49 : decode cX12_comes 49 = .ok (.aload_n 0, 1) := by decide +kernel
theorem dX12_comes_50 : decode cX12_comes 50 = .ok (.getfield 143, 3) := by decide +kernel
theorem dX12_comes_53 : decode cX12_comes 53 = .ok (.iload_n 1, 1) := by decide +kernel
theorem dX12_comes_54 : decode cX12_comes 54 = .ok (.dup2, 1) := by decide +kernel
theorem dX12_comes_55 : decode cX12_comes 55 = .ok (.laload, 1) := by decide +kernel
theorem dX12_comes_56 : decode cX12_comes 56 = .ok (.lload_n 3, 1) := by decide +kernel
theorem dX12_comes_57 : decode cX12_comes 57 = .ok (.ladd, 1) := by decide +kernel
theorem dX12_comes_58 : decode cX12_comes 58 = .ok (.lastore, 1) := by decide +kernel
theorem dX12_comes_59 : decode cX12_comes 59 = .ok (.goto 20, 3) := by decide +kernel
theorem dX12_comes_62 : decode cX12_comes 62 = .ok (.iload_n 2, 1) := by decide +kernel
theorem dX12_comes_63 : decode cX12_comes 63 = .ok (.aload_n 0, 1) := by decide +kernel
theorem dX12_comes_64 : decode cX12_comes 64 = .ok (.getfield 140, 3) := by decide +kernel
theorem dX12_comes_67 : decode cX12_comes 67 = .ok (.iload_n 1, 1) := by decide +kernel
theorem dX12_comes_68 : decode cX12_comes 68 = .ok (.iaload, 1) := by decide +kernel
theorem dX12_comes_69 : decode cX12_comes 69 = .ok (.if_icmp .le 10, 3) := by decide +kernel
theorem dX12_comes_72 : decode cX12_comes 72 = .ok (.aload_n 0, 1) := by decide +kernel
theorem dX12_comes_73 : decode cX12_comes 73 = .ok (.getfield 140, 3) := by decide +kernel
theorem dX12_comes_76 : decode cX12_comes 76 = .ok (.iload_n 1, 1) := by decide +kernel
theorem dX12_comes_77 : decode cX12_comes 77 = .ok (.iload_n 2, 1) := by decide +kernel
theorem dX12_comes_78 : decode cX12_comes 78 = .ok (.iastore, 1) := by decide +kernel
theorem dX12_comes_79 : decode cX12_comes 79 = .ok (.return_, 1) := by decide +kernel
theorem dX12_barred_0 : decode cX12_barred 0 = .ok (.iconst 0, 1) := by decide +kernel
theorem dX12_barred_1 : decode cX12_barred 1 = .ok (.istore_n 2, 1) := by decide +kernel
theorem dX12_barred_2 : decode cX12_barred 2 = .ok (.iconst 0, 1) := by decide +kernel
theorem dX12_barred_3 : decode cX12_barred 3 = .ok (.istore_n 3, 1) := by decide +kernel
theorem dX12_barred_4 : decode cX12_barred 4 = .ok (.iload_n 3, 1) := by decide +kernel
theorem dX12_barred_5 : decode cX12_barred 5 = .ok (.aload_n 0, 1) := by decide +kernel
theorem dX12_barred_6 : decode cX12_barred 6 = .ok (.getfield 175, 3) := by decide +kernel
theorem dX12_barred_9 : decode cX12_barred 9 = .ok (.if_icmp .ge 32, 3) := by decide +kernel
theorem dX12_barred_12 : decode cX12_barred 12 = .ok (.iload_n 2, 1) := by decide +kernel
theorem dX12_barred_13 : decode cX12_barred 13 = .ok (.aload_n 0, 1) := by decide +kernel
theorem dX12_barred_14 : decode cX12_barred 14 = .ok (.getfield 149, 3) := by decide +kernel
theorem dX12_barred_17 : decode cX12_barred 17 = .ok (.iload_n 3, 1) := by decide +kernel
theorem dX12_barred_18 : decode cX12_barred 18 = .ok (.iaload, 1) := by decide +kernel
theorem dX12_barred_19 : decode cX12_barred 19 = .ok (.iload_n 1, 1) := by decide +kernel
theorem dX12_barred_20 : decode cX12_barred 20 = .ok (.invokestatic 324, 3) := by decide +kernel
theorem dX12_barred_23 : decode cX12_barred 23 = .ok (.ifCond .eq 7, 3) := by decide +kernel
theorem dX12_barred_26 : decode cX12_barred 26 = .ok (.iconst 0, 1) := by decide +kernel
theorem dX12_barred_27 : decode cX12_barred 27 = .ok (.goto 6, 3) := by decide +kernel
theorem dX12_barred_30 : decode cX12_barred 30 = .ok (.iconst 1, 1) := by decide +kernel
theorem dX12_barred_31 : decode cX12_barred 31 = .ok (.iload_n 3, 1) := by decide +kernel
theorem dX12_barred_32 : decode cX12_barred 32 = .ok (.ishl, 1) := by decide +kernel
theorem dX12_barred_33 : decode cX12_barred 33 = .ok (.ior, 1) := by decide +kernel
theorem dX12_barred_34 : decode cX12_barred 34 = .ok (.istore_n 2, 1) := by decide +kernel
theorem dX12_barred_35 : decode cX12_barred 35 = .ok (.iinc 3 1, 3) := by decide +kernel
theorem dX12_barred_38 : decode cX12_barred 38 = .ok (.goto (-34), 3) := by decide +kernel
theorem dX12_barred_41 : decode cX12_barred 41 = .ok (.iload_n 2, 1) := by decide +kernel
theorem dX12_barred_42 : decode cX12_barred 42 = .ok (.ireturn, 1) := by decide +kernel
theorem dX12_works_0 : decode cX12_works 0 = .ok (.iconst 1, 1) := by decide +kernel
theorem dX12_works_1 : decode cX12_works 1 = .ok (.aload_n 0, 1) := by decide +kernel
theorem dX12_works_2 : decode cX12_works 2 = .ok (.getfield 175, 3) := by decide +kernel
theorem dX12_works_5 : decode cX12_works 5 = .ok (.ishl, 1) := by decide +kernel
theorem dX12_works_6 : decode cX12_works 6 = .ok (.iconst 1, 1) := by decide +kernel
theorem dX12_works_7 : decode cX12_works 7 = .ok (.isub, 1) := by decide +kernel
theorem dX12_works_8 : decode cX12_works 8 = .ok (.istore_n 1, 1) := by decide +kernel
theorem dX12_works_9 : decode cX12_works 9 = .ok (.aload_n 0, 1) := by decide +kernel
theorem dX12_works_10 : decode cX12_works 10 = .ok (.bipush 6, 2) := by decide +kernel
theorem dX12_works_12 : decode cX12_works 12 = .ok (.invokevirtual 405, 3) := by decide +kernel
theorem dX12_works_15 : decode cX12_works 15 = .ok (.istore_n 2, 1) := by decide +kernel
theorem dX12_works_16 : decode cX12_works 16 = .ok (.iconst 0, 1) := by decide +kernel
theorem dX12_works_17 : decode cX12_works 17 = .ok (.istore_n 3, 1) := by decide +kernel
theorem dX12_works_18 : decode cX12_works 18 = .ok (.iload_n 3, 1) := by decide +kernel
theorem dX12_works_19 : decode cX12_works 19 = .ok (.iload_n 1, 1) := by decide +kernel
theorem dX12_works_20 : decode cX12_works 20 = .ok (.if_icmp .gt 86, 3) := by decide +kernel
theorem dX12_works_23 : decode cX12_works 23 = .ok (.iload_n 3, 1) := by decide +kernel
theorem dX12_works_24 : decode cX12_works 24 = .ok (.iload_n 2, 1) := by decide +kernel
theorem dX12_works_25 : decode cX12_works 25 = .ok (.iand, 1) := by decide +kernel
theorem dX12_works_26 : decode cX12_works 26 = .ok (.ifCond .ne 7, 3) := by decide +kernel
theorem dX12_works_29 : decode cX12_works 29 = .ok (.iconst 1, 1) := by decide +kernel
theorem dX12_works_30 : decode cX12_works 30 = .ok (.goto 4, 3) := by decide +kernel
theorem dX12_works_33 : decode cX12_works 33 = .ok (.iconst 0, 1) := by decide +kernel
theorem dX12_works_34 : decode cX12_works 34 = .ok (.istore 4, 2) := by decide +kernel
theorem dX12_works_36 : decode cX12_works 36 = .ok (.aload_n 0, 1) := by decide +kernel
theorem dX12_works_37 : decode cX12_works 37 = .ok (.getfield 124, 3) := by decide +kernel
theorem dX12_works_40 : decode cX12_works 40 = .ok (.iload_n 3, 1) := by decide +kernel
theorem dX12_works_41 : decode cX12_works 41 = .ok (.iload 4, 2) := by decide +kernel
theorem dX12_works_43 : decode cX12_works 43 = .ok (.ifCond .eq 16, 3) := by decide +kernel
theorem dX12_works_46 : decode cX12_works 46 = .ok (.aload_n 0, 1) := by decide +kernel
theorem dX12_works_47 : decode cX12_works 47 = .ok (.getfield 26, 3) := by decide +kernel
theorem dX12_works_50 : decode cX12_works 50 = .ok (.ineg, 1) := by decide +kernel
theorem dX12_works_51 : decode cX12_works 51 = .ok (.iload_n 3, 1) := by decide +kernel
theorem dX12_works_52 : decode cX12_works 52 = .ok (.invokestatic 408, 3) := by decide +kernel
theorem dX12_works_55 : decode cX12_works 55 = .ok (.imul, 1) := by decide +kernel
theorem dX12_works_56 : decode cX12_works 56 = .ok (.goto 6, 3) := by decide +kernel
theorem dX12_works_59 : decode cX12_works 59 = .ok (.ldc_w 404, 3) := by decide +kernel
theorem dX12_works_62 : decode cX12_works 62 = .ok (.iastore, 1) := by decide +kernel
theorem dX12_works_63 : decode cX12_works 63 = .ok (.aload_n 0, 1) := by decide +kernel
theorem dX12_works_64 : decode cX12_works 64 = .ok (.getfield 127, 3) := by decide +kernel
theorem dX12_works_67 : decode cX12_works 67 = .ok (.iload_n 3, 1) := by decide +kernel
theorem dX12_works_68 : decode cX12_works 68 = .ok (.ldc_w 404, 3) := by decide +kernel
theorem dX12_works_71 : decode cX12_works 71 = .ok (.iastore, 1) := by decide +kernel
theorem dX12_works_72 : decode cX12_works 72 = .ok (.aload_n 0, 1) := by decide +kernel
theorem dX12_works_73 : decode cX12_works 73 = .ok (.getfield 130, 3) := by decide +kernel
theorem dX12_works_76 : decode cX12_works 76 = .ok (.iload_n 3, 1) := by decide +kernel
theorem dX12_works_77 : decode cX12_works 77 = .ok (.iload 4, 2) := by decide +kernel
theorem dX12_works_79 : decode cX12_works 79 = .ok (.ifCond .eq 7, 3) := by decide +kernel
theorem dX12_works_82 : decode cX12_works 82 = .ok (.lconst 1, 1) := by decide +kernel
theorem dX12_works_83 : decode cX12_works 83 = .ok (.goto 4, 3) := by decide +kernel
theorem dX12_works_86 : decode cX12_works 86 = .ok (.lconst 0, 1) := by decide +kernel
theorem dX12_works_87 : decode cX12_works 87 = .ok (.lastore, 1) := by decide +kernel
theorem dX12_works_88 : decode cX12_works 88 = .ok (.aload_n 0, 1) := by decide +kernel
theorem dX12_works_89 : decode cX12_works 89 = .ok (.getfield 134, 3) := by decide +kernel
theorem dX12_works_92 : decode cX12_works 92 = .ok (.iload_n 3, 1) := by decide +kernel
theorem dX12_works_93 : decode cX12_works 93 = .ok (.aload_n 0, 1) := by decide +kernel
theorem dX12_works_94 : decode cX12_works 94 = .ok (.getfield 130, 3) := by decide +kernel
theorem dX12_works_97 : decode cX12_works 97 = .ok (.iload_n 3, 1) := by decide +kernel
theorem dX12_works_98 : decode cX12_works 98 = .ok (.laload, 1) := by decide +kernel
theorem dX12_works_99 : decode cX12_works 99 = .ok (.lastore, 1) := by decide +kernel
theorem dX12_works_100 : decode cX12_works 100 = .ok (.iinc 3 1, 3) := by decide +kernel
theorem dX12_works_103 : decode cX12_works 103 = .ok (.goto (-85), 3) := by decide +kernel
theorem dX12_works_106 : decode cX12_works 106 = .ok (.iconst 0, 1) := by decide +kernel
theorem dX12_works_107 : decode cX12_works 107 = .ok (.istore_n 3, 1) := by decide +kernel
theorem dX12_works_108 : decode cX12_works 108 = .ok (.iload_n 3, 1) := by decide +kernel
theorem dX12_works_109 : decode cX12_works 109 = .ok (.aload_n 0, 1) := by decide +kernel
theorem dX12_works_110 : decode cX12_works 110 = .ok (.getfield 172, 3) := by decide +kernel
theorem dX12_works_113 : decode cX12_works 113 = .ok (.if_icmp .ge 291, 3) := by decide +kernel
theorem dX12_works_116 : decode cX12_works 116 = .ok (.aload_n 0, 1) := by decide +kernel
theorem dX12_works_117 : decode cX12_works 117 = .ok (.iload_n 3, 1) := by decide +kernel
theorem dX12_works_118 : decode cX12_works 118 = .ok (.invokevirtual 405, 3) := by decide +kernel
theorem dX12_works_121 : decode cX12_works 121 = .ok (.istore_n 2, 1) := by decide +kernel
theorem dX12_works_122 : decode cX12_works 122 = .ok (.iconst 0, 1) := by decide +kernel
theorem dX12_works_123 : decode cX12_works 123 = .ok (.istore 4, 2) := by decide +kernel
theorem dX12_works_125 : decode cX12_works 125 = .ok (.iload 4, 2) := by decide +kernel
theorem dX12_works_127 : decode cX12_works 127 = .ok (.iload_n 1, 1) := by decide +kernel
theorem dX12_works_128 : decode cX12_works 128 = .ok (.if_icmp .gt 199, 3) := by decide +kernel
theorem dX12_works_131 : decode cX12_works 131 = .ok (.aload_n 0, 1) := by decide +kernel
theorem dX12_works_132 : decode cX12_works 132 = .ok (.getfield 137, 3) := by decide +kernel
theorem dX12_works_135 : decode cX12_works 135 = .ok (.iload 4, 2) := by decide +kernel
theorem dX12_works_137 : decode cX12_works 137 = .ok (.ldc_w 404, 3) := by decide +kernel
theorem dX12_works_140 : decode cX12_works 140 = .ok (.iastore, 1) := by decide +kernel
theorem dX12_works_141 : decode cX12_works 141 = .ok (.aload_n 0, 1) := by decide +kernel
theorem dX12_works_142 : decode cX12_works 142 = .ok (.getfield 140, 3) := by decide +kernel
theorem dX12_works_145 : decode cX12_works 145 = .ok (.iload 4, 2) := by decide +kernel
theorem dX12_works_147 : decode cX12_works 147 = .ok (.ldc_w 404, 3) := by decide +kernel
theorem dX12_works_150 : decode cX12_works 150 = .ok (.iastore, 1) := by decide +kernel
theorem dX12_works_151 : decode cX12_works 151 = .ok (.aload_n 0, 1) := by decide +kernel
theorem dX12_works_152 : decode cX12_works 152 = .ok (.getfield 143, 3) := by decide +kernel
theorem dX12_works_155 : decode cX12_works 155 = .ok (.iload 4, 2) := by decide +kernel
theorem dX12_works_157 : decode cX12_works 157 = .ok (.lconst 0, 1) := by decide +kernel
theorem dX12_works_158 : decode cX12_works 158 = .ok (.lastore, 1) := by decide +kernel
theorem dX12_works_159 : decode cX12_works 159 = .ok (.aload_n 0, 1) := by decide +kernel
theorem dX12_works_160 : decode cX12_works 160 = .ok (.getfield 146, 3) := by decide +kernel
theorem dX12_works_163 : decode cX12_works 163 = .ok (.iload 4, 2) := by decide +kernel
theorem dX12_works_165 : decode cX12_works 165 = .ok (.lconst 0, 1) := by decide +kernel
theorem dX12_works_166 : decode cX12_works 166 = .ok (.lastore, 1) := by decide +kernel
theorem dX12_works_167 : decode cX12_works 167 = .ok (.iload 4, 2) := by decide +kernel
theorem dX12_works_169 : decode cX12_works 169 = .ok (.istore 5, 2) := by decide +kernel
theorem dX12_works_171 : decode cX12_works 171 = .ok (.iload 5, 2) := by decide +kernel
theorem dX12_works_173 : decode cX12_works 173 = .ok (.ifCond .lt 148, 3) := by decide +kernel
theorem dX12_works_176 : decode cX12_works 176 = .ok (.aload_n 0, 1) := by decide +kernel
theorem dX12_works_177 : decode cX12_works 177 = .ok (.getfield 121, 3) := by decide +kernel
theorem dX12_works_180 : decode cX12_works 180 = .ok (.sipush 1024, 3) := by decide +kernel
theorem dX12_works_183 : decode cX12_works 183 = .ok (.iload_n 3, 1) := by decide +kernel
theorem dX12_works_184 : decode cX12_works 184 = .ok (.imul, 1) := by decide +kernel
theorem dX12_works_185 : decode cX12_works 185 = .ok (.iload 5, 2) := by decide +kernel
theorem dX12_works_187 : decode cX12_works 187 = .ok (.iadd, 1) := by decide +kernel
theorem dX12_works_188 : decode cX12_works 188 = .ok (.iaload, 1) := by decide +kernel
theorem dX12_works_189 : decode cX12_works 189 = .ok (.istore 6, 2) := by decide +kernel
theorem dX12_works_191 : decode cX12_works 191 = .ok (.iload 4, 2) := by decide +kernel
theorem dX12_works_193 : decode cX12_works 193 = .ok (.iload 5, 2) := by decide +kernel
theorem dX12_works_195 : decode cX12_works 195 = .ok (.iconst (-1), 1) := by decide +kernel
theorem dX12_works_196 : decode cX12_works 196 = .ok (.ixor, 1) := by decide +kernel
theorem dX12_works_197 : decode cX12_works 197 = .ok (.iand, 1) := by decide +kernel
theorem dX12_works_198 : decode cX12_works 198 = .ok (.istore 7, 2) := by decide +kernel
theorem dX12_works_200 : decode cX12_works 200 = .ok (.iload 6, 2) := by decide +kernel
theorem dX12_works_202 : decode cX12_works 202 = .ok (.ldc_w 404, 3) := by decide +kernel
theorem dX12_works_205 : decode cX12_works 205 = .ok (.if_icmp .eq 95, 3) := by decide +kernel
theorem dX12_works_208 : decode cX12_works 208 = .ok (.aload_n 0, 1) := by decide +kernel
theorem dX12_works_209 : decode cX12_works 209 = .ok (.getfield 130, 3) := by decide +kernel
theorem dX12_works_212 : decode cX12_works 212 = .ok (.iload 7, 2) := by decide +kernel
theorem dX12_works_214 : decode cX12_works 214 = .ok (.laload, 1) := by decide +kernel
theorem dX12_works_215 : decode cX12_works 215 = .ok (.lconst 0, 1) := by decide +kernel
theorem dX12_works_216 : decode cX12_works 216 = .ok (.lcmp, 1) := by decide +kernel
theorem dX12_works_217 : decode cX12_works 217 = .ok (.ifCond .eq 83, 3) := by decide +kernel
theorem dX12_works_220 : decode cX12_works 220 = .ok (.iload 5, 2) := by decide +kernel
theorem dX12_works_222 : decode cX12_works 222 = .ok (.iload_n 2, 1) := by decide +kernel
theorem dX12_works_223 : decode cX12_works 223 = .ok (.iand, 1) := by decide +kernel
theorem dX12_works_224 : decode cX12_works 224 = .ok (.ifCond .eq 6, 3) := by decide +kernel
theorem dX12_works_227 : decode cX12_works 227 = .ok (.goto 73, 3) := by decide +kernel
theorem dX12_works_230 : decode cX12_works 230 = .ok (.aload_n 0, 1) := by decide +kernel
theorem dX12_works_231 : decode cX12_works 231 = .ok (.iload 4, 2) := by decide +kernel
theorem dX12_works_233 : decode cX12_works 233 = .ok (.aload_n 0, 1) := by decide +kernel
theorem dX12_works_234 : decode cX12_works 234 = .ok (.getfield 124, 3) := by decide +kernel
theorem dX12_works_237 : decode cX12_works 237 = .ok (.iload 7, 2) := by decide +kernel
theorem dX12_works_239 : decode cX12_works 239 = .ok (.iaload, 1) := by decide +kernel
theorem dX12_works_240 : decode cX12_works 240 = .ok (.iload 6, 2) := by decide +kernel
theorem dX12_works_242 : decode cX12_works 242 = .ok (.iadd, 1) := by decide +kernel
theorem dX12_works_243 : decode cX12_works 243 = .ok (.aload_n 0, 1) := by decide +kernel
theorem dX12_works_244 : decode cX12_works 244 = .ok (.getfield 130, 3) := by decide +kernel
theorem dX12_works_247 : decode cX12_works 247 = .ok (.iload 7, 2) := by decide +kernel
theorem dX12_works_249 : decode cX12_works 249 = .ok (.laload, 1) := by decide +kernel
theorem dX12_works_250 : decode cX12_works 250 = .ok (.invokevirtual 411, 3) := by decide +kernel
theorem dX12_works_253 : decode cX12_works 253 = .ok (.aload_n 0, 1) := by decide +kernel
theorem dX12_works_254 : decode cX12_works 254 = .ok (.getfield 127, 3) := by decide +kernel
theorem dX12_works_257 : decode cX12_works 257 = .ok (.iload 7, 2) := by decide +kernel
theorem dX12_works_259 : decode cX12_works 259 = .ok (.iaload, 1) := by decide +kernel
theorem dX12_works_260 : decode cX12_works 260 = .ok (.ldc_w 404, 3) := by decide +kernel
theorem dX12_works_263 : decode cX12_works 263 = .ok (.if_icmp .eq 20, 3) := by decide +kernel
theorem dX12_works_266 : decode cX12_works 266 = .ok (.aload_n 0, 1) := by decide +kernel
theorem dX12_works_267 : decode cX12_works 267 = .ok (.iload 4, 2) := by decide +kernel
theorem dX12_works_269 : decode cX12_works 269 = .ok (.aload_n 0, 1) := by decide +kernel
theorem dX12_works_270 : decode cX12_works 270 = .ok (.getfield 127, 3) := by decide +kernel
theorem dX12_works_273 : decode cX12_works 273 = .ok (.iload 7, 2) := by decide +kernel
theorem dX12_works_275 : decode cX12_works 275 = .ok (.iaload, 1) := by decide +kernel
theorem dX12_works_276 : decode cX12_works 276 = .ok (.iload 6, 2) := by decide +kernel
theorem dX12_works_278 : decode cX12_works 278 = .ok (.iadd, 1) := by decide +kernel
theorem dX12_works_279 : decode cX12_works 279 = .ok (.lconst 0, 1) := by decide +kernel
theorem dX12_works_280 : decode cX12_works 280 = .ok (.invokevirtual 411, 3) := by decide +kernel
theorem dX12_works_283 : decode cX12_works 283 = .ok (.aload_n 0, 1) := by decide +kernel
theorem dX12_works_284 : decode cX12_works 284 = .ok (.getfield 146, 3) := by decide +kernel
theorem dX12_works_287 : decode cX12_works 287 = .ok (.iload 4, 2) := by decide +kernel
theorem dX12_works_289 : decode cX12_works 289 = .ok (.dup2, 1) := by decide +kernel
theorem dX12_works_290 : decode cX12_works 290 = .ok (.laload, 1) := by decide +kernel
theorem dX12_works_291 : decode cX12_works 291 = .ok (.aload_n 0, 1) := by decide +kernel
theorem dX12_works_292 : decode cX12_works 292 = .ok (.getfield 134, 3) := by decide +kernel
theorem dX12_works_295 : decode cX12_works 295 = .ok (.iload 7, 2) := by decide +kernel
theorem dX12_works_297 : decode cX12_works 297 = .ok (.laload, 1) := by decide +kernel
theorem dX12_works_298 : decode cX12_works 298 = .ok (.ladd, 1) := by decide +kernel
theorem dX12_works_299 : decode cX12_works 299 = .ok (.lastore, 1) := by decide +kernel
theorem dX12_works_300 : decode cX12_works 300 = .ok (.iload 5, 2) := by decide +kernel
theorem dX12_works_302 : decode cX12_works 302 = .ok (.ifCond .ne 7, 3) := by decide +kernel
theorem dX12_works_305 : decode cX12_works 305 = .ok (.iconst (-1), 1) := by decide +kernel
theorem dX12_works_306 : decode cX12_works 306 = .ok (.goto 10, 3) := by decide +kernel
theorem dX12_works_309 : decode cX12_works 309 = .ok (.iload 5, 2) := by decide +kernel
theorem dX12_works_311 : decode cX12_works 311 = .ok (.iconst 1, 1) := by decide +kernel
theorem dX12_works_312 : decode cX12_works 312 = .ok (.isub, 1) := by decide +kernel
theorem dX12_works_313 : decode cX12_works 313 = .ok (.iload 4, 2) := by decide +kernel
theorem dX12_works_315 : decode cX12_works 315 = .ok (.iand, 1) := by decide +kernel
theorem dX12_works_316 : decode cX12_works 316 = .ok (.istore 5, 2) := by decide +kernel
theorem dX12_works_318 : decode cX12_works 318 = .ok (.goto (-147), 3) := by decide +kernel
theorem dX12_works_321 : decode cX12_works 321 = .ok (.iinc 4 1, 3) := by decide +kernel
theorem dX12_works_324 : decode cX12_works 324 = .ok (.goto (-199), 3) := by decide +kernel
theorem dX12_works_327 : decode cX12_works 327 = .ok (.iconst 0, 1) := by decide +kernel
theorem dX12_works_328 : decode cX12_works 328 = .ok (.istore 4, 2) := by decide +kernel
theorem dX12_works_330 : decode cX12_works 330 = .ok (.iload 4, 2) := by decide +kernel
theorem dX12_works_332 : decode cX12_works 332 = .ok (.iload_n 1, 1) := by decide +kernel
theorem dX12_works_333 : decode cX12_works 333 = .ok (.if_icmp .gt 65, 3) := by decide +kernel
theorem dX12_works_336 : decode cX12_works 336 = .ok (.aload_n 0, 1) := by decide +kernel
theorem dX12_works_337 : decode cX12_works 337 = .ok (.getfield 124, 3) := by decide +kernel
theorem dX12_works_340 : decode cX12_works 340 = .ok (.iload 4, 2) := by decide +kernel
theorem dX12_works_342 : decode cX12_works 342 = .ok (.aload_n 0, 1) := by decide +kernel
theorem dX12_works_343 : decode cX12_works 343 = .ok (.getfield 137, 3) := by decide +kernel
theorem dX12_works_346 : decode cX12_works 346 = .ok (.iload 4, 2) := by decide +kernel
theorem dX12_works_348 : decode cX12_works 348 = .ok (.iaload, 1) := by decide +kernel
theorem dX12_works_349 : decode cX12_works 349 = .ok (.iastore, 1) := by decide +kernel
theorem dX12_works_350 : decode cX12_works 350 = .ok (.aload_n 0, 1) := by decide +kernel
theorem dX12_works_351 : decode cX12_works 351 = .ok (.getfield 127, 3) := by decide +kernel
theorem dX12_works_354 : decode cX12_works 354 = .ok (.iload 4, 2) := by decide +kernel
theorem dX12_works_356 : decode cX12_works 356 = .ok (.aload_n 0, 1) := by decide +kernel
theorem dX12_works_357 : decode cX12_works 357 = .ok (.getfield 140, 3) := by decide +kernel
theorem dX12_works_360 : decode cX12_works 360 = .ok (.iload 4, 2) := by decide +kernel
theorem dX12_works_362 : decode cX12_works 362 = .ok (.iaload, 1) := by decide +kernel
theorem dX12_works_363 : decode cX12_works 363 = .ok (.iastore, 1) := by decide +kernel
theorem dX12_works_364 : decode cX12_works 364 = .ok (.aload_n 0, 1) := by decide +kernel
theorem dX12_works_365 : decode cX12_works 365 = .ok (.getfield 130, 3) := by decide +kernel
theorem dX12_works_368 : decode cX12_works 368 = .ok (.iload 4, 2) := by decide +kernel
theorem dX12_works_370 : decode cX12_works 370 = .ok (.aload_n 0, 1) := by decide +kernel
theorem dX12_works_371 : decode cX12_works 371 = .ok (.getfield 143, 3) := by decide +kernel
theorem dX12_works_374 : decode cX12_works 374 = .ok (.iload 4, 2) := by decide +kernel
theorem dX12_works_376 : decode cX12_works 376 = .ok (.laload, 1) := by decide +kernel
theorem dX12_works_377 : decode cX12_works 377 = .ok (.lastore, 1) := by decide +kernel
theorem dX12_works_378 : decode cX12_works 378 = .ok (.aload_n 0, 1) := by decide +kernel
theorem dX12_works_379 : decode cX12_works 379 = .ok (.getfield 134, 3) := by decide +kernel
theorem dX12_works_382 : decode cX12_works 382 = .ok (.iload 4, 2) := by decide +kernel
theorem dX12_works_384 : decode cX12_works 384 = .ok (.aload_n 0, 1) := by decide +kernel
theorem dX12_works_385 : decode cX12_works 385 = .ok (.getfield 146, 3) := by decide +kernel
theorem dX12_works_388 : decode cX12_works 388 = .ok (.iload 4, 2) := by decide +kernel
theorem dX12_works_390 : decode cX12_works 390 = .ok (.laload, 1) := by decide +kernel
theorem dX12_works_391 : decode cX12_works 391 = .ok (.lastore, 1) := by decide +kernel
theorem dX12_works_392 : decode cX12_works 392 = .ok (.iinc 4 1, 3) := by decide +kernel
theorem dX12_works_395 : decode cX12_works 395 = .ok (.goto (-65), 3) := by decide +kernel
theorem dX12_works_398 : decode cX12_works 398 = .ok (.iinc 3 1, 3) := by decide +kernel
theorem dX12_works_401 : decode cX12_works 401 = .ok (.goto (-293), 3) := by decide +kernel
theorem dX12_works_404 : decode cX12_works 404 = .ok (.return_, 1) := by decide +kernel
theorem dX12_allows_0 : decode cX12_allows 0 = .ok (.iconst 0, 1) := by decide +kernel
theorem dX12_allows_1 : decode cX12_allows 1 = .ok (.istore_n 1, 1) := by decide +kernel
theorem dX12_allows_2 : decode cX12_allows 2 = .ok (.iload_n 1, 1) := by decide +kernel
