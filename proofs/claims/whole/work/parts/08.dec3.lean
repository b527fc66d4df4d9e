theorem dX11_init_0 : decode cX11_init 0 = .ok (.aload_n 0, 1) := by decide +kernel
theorem dX11_init_1 : decode cX11_init 1 = .ok (.invokespecial 1, 3) := by decide +kernel
theorem dX11_init_4 : decode cX11_init 4 = .ok (.aload_n 0, 1) := by decide +kernel
theorem dX11_init_5 : decode cX11_init 5 = .ok (.new 7, 3) := by decide +kernel
theorem dX11_init_8 : decode cX11_init 8 = .ok (.dup, 1) := by decide +kernel
theorem dX11_init_9 : decode cX11_init 9 = .ok (.invokespecial 9, 3) := by decide +kernel
theorem dX11_init_12 : decode cX11_init 12 = .ok (.putfield 10, 3) := by decide +kernel
theorem dX11_init_15 : decode cX11_init 15 = .ok (.aload_n 0, 1) := by decide +kernel
theorem dX11_init_16 : decode cX11_init 16 = .ok (.new 16, 3) := by decide +kernel
theorem dX11_init_19 : decode cX11_init 19 = .ok (.dup, 1) := by decide +kernel
theorem dX11_init_20 : decode cX11_init 20 = .ok (.invokespecial 18, 3) := by decide +kernel
theorem dX11_init_23 : decode cX11_init 23 = .ok (.putfield 19, 3) := by decide +kernel
theorem dX11_init_26 : decode cX11_init 26 = .ok (.aload_n 0, 1) := by decide +kernel
theorem dX11_init_27 : decode cX11_init 27 = .ok (.iconst 4, 1) := by decide +kernel
theorem dX11_init_28 : decode cX11_init 28 = .ok (.anewarray 23, 3) := by decide +kernel
theorem dX11_init_31 : decode cX11_init 31 = .ok (.putfield 25, 3) := by decide +kernel
theorem dX11_init_34 : decode cX11_init 34 = .ok (.aload_n 0, 1) := by decide +kernel
theorem dX11_init_35 : decode cX11_init 35 = .ok (.new 29, 3) := by decide +kernel
theorem dX11_init_38 : decode cX11_init 38 = .ok (.dup, 1) := by decide +kernel
theorem dX11_init_39 : decode cX11_init 39 = .ok (.invokespecial 31, 3) := by decide +kernel
theorem dX11_init_42 : decode cX11_init 42 = .ok (.putfield 32, 3) := by decide +kernel
theorem dX11_init_45 : decode cX11_init 45 = .ok (.aload_n 0, 1) := by decide +kernel
theorem dX11_init_46 : decode cX11_init 46 = .ok (.new 36, 3) := by decide +kernel
theorem dX11_init_49 : decode cX11_init 49 = .ok (.dup, 1) := by decide +kernel
theorem dX11_init_50 : decode cX11_init 50 = .ok (.aload_n 0, 1) := by decide +kernel
theorem dX11_init_51 : decode cX11_init 51 = .ok (.getfield 25, 3) := by decide +kernel
theorem dX11_init_54 : decode cX11_init 54 = .ok (.invokespecial 38, 3) := by decide +kernel
theorem dX11_init_57 : decode cX11_init 57 = .ok (.putfield 41, 3) := by decide +kernel
theorem dX11_init_60 : decode cX11_init 60 = .ok (.aload_n 0, 1) := by decide +kernel
theorem dX11_init_61 : decode cX11_init 61 = .ok (.new 36, 3) := by decide +kernel
theorem dX11_init_64 : decode cX11_init 64 = .ok (.dup, 1) := by decide +kernel
theorem dX11_init_65 : decode cX11_init 65 = .ok (.aload_n 0, 1) := by decide +kernel
theorem dX11_init_66 : decode cX11_init 66 = .ok (.getfield 25, 3) := by decide +kernel
theorem dX11_init_69 : decode cX11_init 69 = .ok (.invokespecial 38, 3) := by decide +kernel
theorem dX11_init_72 : decode cX11_init 72 = .ok (.putfield 45, 3) := by decide +kernel
theorem dX11_init_75 : decode cX11_init 75 = .ok (.aload_n 0, 1) := by decide +kernel
theorem dX11_init_76 : decode cX11_init 76 = .ok (.new 48, 3) := by decide +kernel
theorem dX11_init_79 : decode cX11_init 79 = .ok (.dup, 1) := by decide +kernel
theorem dX11_init_80 : decode cX11_init 80 = .ok (.aload_n 0, 1) := by decide +kernel
theorem dX11_init_81 : decode cX11_init 81 = .ok (.getfield 10, 3) := by decide +kernel
theorem dX11_init_84 : decode cX11_init 84 = .ok (.invokespecial 50, 3) := by decide +kernel
theorem dX11_init_87 : decode cX11_init 87 = .ok (.putfield 53, 3) := by decide +kernel
theorem dX11_init_90 : decode cX11_init 90 = .ok (.aload_n 0, 1) := by decide +kernel
theorem dX11_init_91 : decode cX11_init 91 = .ok (.new 57, 3) := by decide +kernel
theorem dX11_init_94 : decode cX11_init 94 = .ok (.dup, 1) := by decide +kernel
theorem dX11_init_95 : decode cX11_init 95 = .ok (.aload_n 0, 1) := by decide +kernel
theorem dX11_init_96 : decode cX11_init 96 = .ok (.getfield 10, 3) := by decide +kernel
theorem dX11_init_99 : decode cX11_init 99 = .ok (.aload_n 0, 1) := by decide +kernel
theorem dX11_init_100 : decode cX11_init 100 = .ok (.getfield 53, 3) := by decide +kernel
theorem dX11_init_103 : decode cX11_init 103 = .ok (.invokespecial 59, 3) := by decide +kernel
theorem dX11_init_106 : decode cX11_init 106 = .ok (.putfield 62, 3) := by decide +kernel
theorem dX11_init_109 : decode cX11_init 109 = .ok (.aload_n 0, 1) := by decide +kernel
theorem dX11_init_110 : decode cX11_init 110 = .ok (.new 66, 3) := by decide +kernel
theorem dX11_init_113 : decode cX11_init 113 = .ok (.dup, 1) := by decide +kernel
theorem dX11_init_114 : decode cX11_init 114 = .ok (.aload_n 0, 1) := by decide +kernel
theorem dX11_init_115 : decode cX11_init 115 = .ok (.getfield 10, 3) := by decide +kernel
theorem dX11_init_118 : decode cX11_init 118 = .ok (.aload_n 0, 1) := by decide +kernel
theorem dX11_init_119 : decode cX11_init 119 = .ok (.getfield 53, 3) := by decide +kernel
theorem dX11_init_122 : decode cX11_init 122 = .ok (.invokespecial 68, 3) := by decide +kernel
theorem dX11_init_125 : decode cX11_init 125 = .ok (.putfield 69, 3) := by decide +kernel
theorem dX11_init_128 : decode cX11_init 128 = .ok (.iconst 0, 1) := by decide +kernel
theorem dX11_init_129 : decode cX11_init 129 = .ok (.istore_n 1, 1) := by decide +kernel
theorem dX11_init_130 : decode cX11_init 130 = .ok (.iload_n 1, 1) := by decide +kernel
theorem dX11_init_131 : decode cX11_init 131 = .ok (.aload_n 0, 1) := by decide +kernel
theorem dX11_init_132 : decode cX11_init 132 = .ok (.getfield 25, 3) := by decide +kernel
theorem dX11_init_135 : decode cX11_init 135 = .ok (.arraylength, 1) := by decide +kernel
theorem dX11_init_136 : decode cX11_init 136 = .ok (.if_icmp .ge 22, 3) := by decide +kernel
theorem dX11_init_139 : decode cX11_init 139 = .ok (.aload_n 0, 1) := by decide +kernel
theorem dX11_init_140 : decode cX11_init 140 = .ok (.getfield 25, 3) := by decide +kernel
theorem dX11_init_143 : decode cX11_init 143 = .ok (.iload_n 1, 1) := by decide +kernel
theorem dX11_init_144 : decode cX11_init 144 = .ok (.new 23, 3) := by decide +kernel
theorem dX11_init_147 : decode cX11_init 147 = .ok (.dup, 1) := by decide +kernel
theorem dX11_init_148 : decode cX11_init 148 = .ok (.invokespecial 73, 3) := by decide +kernel
theorem dX11_init_151 : decode cX11_init 151 = .ok (.aastore, 1) := by decide +kernel
theorem dX11_init_152 : decode cX11_init 152 = .ok (.iinc 1 1, 3) := by decide +kernel
theorem dX11_init_155 : decode cX11_init 155 = .ok (.goto (-25), 3) := by decide +kernel
theorem dX11_init_158 : decode cX11_init 158 = .ok (.return_, 1) := by decide +kernel
theorem dX11_name_0 : decode cX11_name 0 = .ok (.aload_n 0, 1) := by decide +kernel
theorem dX11_name_1 : decode cX11_name 1 = .ok (.getfield 10, 3) := by decide +kernel
theorem dX11_name_4 : decode cX11_name 4 = .ok (.getfield 74, 3) := by decide +kernel
theorem dX11_name_7 : decode cX11_name 7 = .ok (.iload_n 1, 1) := by decide +kernel
theorem dX11_name_8 : decode cX11_name 8 = .ok (.iload_n 2, 1) := by decide +kernel
theorem dX11_name_9 : decode cX11_name 9 = .ok (.invokevirtual 78, 3) := by decide +kernel
theorem dX11_name_12 : decode cX11_name 12 = .ok (.istore_n 3, 1) := by decide +kernel
theorem dX11_name_13 : decode cX11_name 13 = .ok (.aload_n 0, 1) := by decide +kernel
theorem dX11_name_14 : decode cX11_name 14 = .ok (.getfield 69, 3) := by decide +kernel
theorem dX11_name_17 : decode cX11_name 17 = .ok (.invokevirtual 84, 3) := by decide +kernel
theorem dX11_name_20 : decode cX11_name 20 = .ok (.iload_n 3, 1) := by decide +kernel
theorem dX11_name_21 : decode cX11_name 21 = .ok (.ireturn, 1) := by decide +kernel
theorem dX11_couple_0 : decode cX11_couple 0 = .ok (.aload_n 0, 1) := by decide +kernel
theorem dX11_couple_1 : decode cX11_couple 1 = .ok (.getfield 10, 3) := by decide +kernel
theorem dX11_couple_4 : decode cX11_couple 4 = .ok (.getfield 74, 3) := by decide +kernel
theorem dX11_couple_7 : decode cX11_couple 7 = .ok (.iload_n 1, 1) := by decide +kernel
theorem dX11_couple_8 : decode cX11_couple 8 = .ok (.iconst 0, 1) := by decide +kernel
theorem dX11_couple_9 : decode cX11_couple 9 = .ok (.invokevirtual 87, 3) := by decide +kernel
theorem dX11_couple_12 : decode cX11_couple 12 = .ok (.ifCond .eq 18, 3) := by decide +kernel
theorem dX11_couple_15 : decode cX11_couple 15 = .ok (.aload_n 0, 1) := by decide +kernel
theorem dX11_couple_16 : decode cX11_couple 16 = .ok (.getfield 10, 3) := by decide +kernel
theorem dX11_couple_19 : decode cX11_couple 19 = .ok (.getfield 74, 3) := by decide +kernel
theorem dX11_couple_22 : decode cX11_couple 22 = .ok (.iload_n 2, 1) := by decide +kernel
theorem dX11_couple_23 : decode cX11_couple 23 = .ok (.iconst 1, 1) := by decide +kernel
theorem dX11_couple_24 : decode cX11_couple 24 = .ok (.invokevirtual 87, 3) := by decide +kernel
theorem dX11_couple_27 : decode cX11_couple 27 = .ok (.ifCond .ne 5, 3) := by decide +kernel
theorem dX11_couple_30 : decode cX11_couple 30 = .ok (.iconst (-1), 1) := by decide +kernel
theorem dX11_couple_31 : decode cX11_couple 31 = .ok (.ireturn, 1) := by decide +kernel
theorem dX11_couple_32 : decode cX11_couple 32 = .ok (.aload_n 0, 1) := by decide +kernel
theorem dX11_couple_33 : decode cX11_couple 33 = .ok (.getfield 10, 3) := by decide +kernel
theorem dX11_couple_36 : decode cX11_couple 36 = .ok (.getfield 91, 3) := by decide +kernel
theorem dX11_couple_39 : decode cX11_couple 39 = .ok (.iload_n 1, 1) := by decide +kernel
theorem dX11_couple_40 : decode cX11_couple 40 = .ok (.iload_n 2, 1) := by decide +kernel
theorem dX11_couple_41 : decode cX11_couple 41 = .ok (.iload_n 3, 1) := by decide +kernel
theorem dX11_couple_42 : decode cX11_couple 42 = .ok (.iload 4, 2) := by decide +kernel
theorem dX11_couple_44 : decode cX11_couple 44 = .ok (.invokevirtual 95, 3) := by decide +kernel
theorem dX11_couple_47 : decode cX11_couple 47 = .ok (.istore 5, 2) := by decide +kernel
theorem dX11_couple_49 : decode cX11_couple 49 = .ok (.aload_n 0, 1) := by decide +kernel
theorem dX11_couple_50 : decode cX11_couple 50 = .ok (.getfield 69, 3) := by decide +kernel
theorem dX11_couple_53 : decode cX11_couple 53 = .ok (.invokevirtual 84, 3) := by decide +kernel
theorem dX11_couple_56 : decode cX11_couple 56 = .ok (.iload 5, 2) := by decide +kernel
theorem dX11_couple_58 : decode cX11_couple 58 = .ok (.ireturn, 1) := by decide +kernel
theorem dX11_parent_0 : decode cX11_parent 0 = .ok (.aload_n 0, 1) := by decide +kernel
theorem dX11_parent_1 : decode cX11_parent 1 = .ok (.getfield 10, 3) := by decide +kernel
theorem dX11_parent_4 : decode cX11_parent 4 = .ok (.getfield 91, 3) := by decide +kernel
theorem dX11_parent_7 : decode cX11_parent 7 = .ok (.iload_n 1, 1) := by decide +kernel
theorem dX11_parent_8 : decode cX11_parent 8 = .ok (.invokevirtual 100, 3) := by decide +kernel
theorem dX11_parent_11 : decode cX11_parent 11 = .ok (.ifCond .eq 12, 3) := by decide +kernel
theorem dX11_parent_14 : decode cX11_parent 14 = .ok (.iload_n 2, 1) := by decide +kernel
theorem dX11_parent_15 : decode cX11_parent 15 = .ok (.ifCond .lt 8, 3) := by decide +kernel
theorem dX11_parent_18 : decode cX11_parent 18 = .ok (.iload_n 2, 1) := by decide +kernel
theorem dX11_parent_19 : decode cX11_parent 19 = .ok (.iconst 4, 1) := by decide +kernel
theorem dX11_parent_20 : decode cX11_parent 20 = .ok (.if_icmp .lt 5, 3) := by decide +kernel
theorem dX11_parent_23 : decode cX11_parent 23 = .ok (.iconst 0, 1) := by decide +kernel
theorem dX11_parent_24 : decode cX11_parent 24 = .ok (.ireturn, 1) := by decide +kernel
theorem dX11_parent_25 : decode cX11_parent 25 = .ok (.iload_n 3, 1) := by decide +kernel
theorem dX11_parent_26 : decode cX11_parent 26 = .ok (.iconst (-1), 1) := by decide +kernel
theorem dX11_parent_27 : decode cX11_parent 27 = .ok (.if_icmp .eq 22, 3) := by decide +kernel
theorem dX11_parent_30 : decode cX11_parent 30 = .ok (.aload_n 0, 1) := by decide +kernel
theorem dX11_parent_31 : decode cX11_parent 31 = .ok (.getfield 10, 3) := by decide +kernel
theorem dX11_parent_34 : decode cX11_parent 34 = .ok (.getfield 74, 3) := by decide +kernel
theorem dX11_parent_37 : decode cX11_parent 37 = .ok (.iload_n 3, 1) := by decide +kernel
theorem dX11_parent_38 : decode cX11_parent 38 = .ok (.iload_n 2, 1) := by decide +kernel
theorem dX11_parent_39 : decode cX11_parent 39 = .ok (.iconst 1, 1) := by decide +kernel
theorem dX11_parent_40 : decode cX11_parent 40 = .ok (.iand, 1) := by decide +kernel
theorem dX11_parent_41 : decode cX11_parent 41 = .ok (.invokevirtual 87, 3) := by decide +kernel
theorem dX11_parent_44 : decode cX11_parent 44 = .ok (.ifCond .ne 5, 3) := by decide +kernel
theorem dX11_parent_47 : decode cX11_parent 47 = .ok (.iconst 0, 1) := by decide +kernel
theorem dX11_parent_48 : decode cX11_parent 48 = .ok (.ireturn, 1) := by decide +kernel
theorem dX11_parent_49 : decode cX11_parent 49 = .ok (.aload_n 0, 1) := by decide +kernel
theorem dX11_parent_50 : decode cX11_parent 50 = .ok (.getfield 10, 3) := by decide +kernel
theorem dX11_parent_53 : decode cX11_parent 53 = .ok (.getfield 91, 3) := by decide +kernel
theorem dX11_parent_56 : decode cX11_parent 56 = .ok (.iload_n 1, 1) := by decide +kernel
theorem dX11_parent_57 : decode cX11_parent 57 = .ok (.iload_n 2, 1) := by decide +kernel
theorem dX11_parent_58 : decode cX11_parent 58 = .ok (.iload_n 3, 1) := by decide +kernel
theorem dX11_parent_59 : decode cX11_parent 59 = .ok (.invokevirtual 103, 3) := by decide +kernel
theorem dX11_parent_62 : decode cX11_parent 62 = .ok (.aload_n 0, 1) := by decide +kernel
theorem dX11_parent_63 : decode cX11_parent 63 = .ok (.getfield 69, 3) := by decide +kernel
theorem dX11_parent_66 : decode cX11_parent 66 = .ok (.invokevirtual 84, 3) := by decide +kernel
theorem dX11_parent_69 : decode cX11_parent 69 = .ok (.iconst 1, 1) := by decide +kernel
theorem dX11_parent_70 : decode cX11_parent 70 = .ok (.ireturn, 1) := by decide +kernel
theorem dX11_christening_0 : decode cX11_christening 0 = .ok (.aload_n 0, 1) := by decide +kernel
theorem dX11_christening_1 : decode cX11_christening 1 = .ok (.getfield 10, 3) := by decide +kernel
theorem dX11_christening_4 : decode cX11_christening 4 = .ok (.getfield 74, 3) := by decide +kernel
theorem dX11_christening_7 : decode cX11_christening 7 = .ok (.astore 6, 2) := by decide +kernel
theorem dX11_christening_9 : decode cX11_christening 9 = .ok (.aload 6, 2) := by decide +kernel
theorem dX11_christening_11 : decode cX11_christening 11 = .ok (.iload_n 1, 1) := by decide +kernel
theorem dX11_christening_12 : decode cX11_christening 12 = .ok (.iconst 0, 1) := by decide +kernel
theorem dX11_christening_13 : decode cX11_christening 13 = .ok (.invokevirtual 87, 3) := by decide +kernel
theorem dX11_christening_16 : decode cX11_christening 16 = .ok (.ifCond .ne 13, 3) := by decide +kernel
theorem dX11_christening_19 : decode cX11_christening 19 = .ok (.aload 6, 2) := by decide +kernel
theorem dX11_christening_21 : decode cX11_christening 21 = .ok (.iload_n 1, 1) := by decide +kernel
theorem dX11_christening_22 : decode cX11_christening 22 = .ok (.iconst 1, 1) := by decide +kernel
theorem dX11_christening_23 : decode cX11_christening 23 = .ok (.invokevirtual 87, 3) := by decide +kernel
theorem dX11_christening_26 : decode cX11_christening 26 = .ok (.ifCond .eq 13, 3) := by decide +kernel
theorem dX11_christening_29 : decode cX11_christening 29 = .ok (.aload 6, 2) := by decide +kernel
theorem dX11_christening_31 : decode cX11_christening 31 = .ok (.iload_n 3, 1) := by decide +kernel
theorem dX11_christening_32 : decode cX11_christening 32 = .ok (.iconst 0, 1) := by decide +kernel
theorem dX11_christening_33 : decode cX11_christening 33 = .ok (.invokevirtual 87, 3) := by decide +kernel
theorem dX11_christening_36 : decode cX11_christening 36 = .ok (.ifCond .ne 5, 3) := by decide +kernel
theorem dX11_christening_39 : decode cX11_christening 39 = .ok (.iconst (-1), 1) := by decide +kernel
theorem dX11_christening_40 : decode cX11_christening 40 = .ok (.ireturn, 1) := by decide +kernel
theorem dX11_christening_41 : decode cX11_christening 41 = .ok (.iload 4, 2) := by decide +kernel
theorem dX11_christening_43 : decode cX11_christening 43 = .ok (.iconst (-1), 1) := by decide +kernel
theorem dX11_christening_44 : decode cX11_christening 44 = .ok (.if_icmp .eq 16, 3) := by decide +kernel
theorem dX11_christening_47 : decode cX11_christening 47 = .ok (.aload 6, 2) := by decide +kernel
theorem dX11_christening_49 : decode cX11_christening 49 = .ok (.iload 4, 2) := by decide +kernel
theorem dX11_christening_51 : decode cX11_christening 51 = .ok (.iconst 1, 1) := by decide +kernel
theorem dX11_christening_52 : decode cX11_christening 52 = .ok (.invokevirtual 87, 3) := by decide +kernel
theorem dX11_christening_55 : decode cX11_christening 55 = .ok (.ifCond .ne 5, 3) := by decide +kernel
theorem dX11_christening_58 : decode cX11_christening 58 = .ok (.iconst (-1), 1) := by decide +kernel
theorem dX11_christening_59 : decode cX11_christening 59 = .ok (.ireturn, 1) := by decide +kernel
theorem dX11_christening_60 : decode cX11_christening 60 = .ok (.iload 5, 2) := by decide +kernel
theorem dX11_christening_62 : decode cX11_christening 62 = .ok (.iconst (-1), 1) := by decide +kernel
theorem dX11_christening_63 : decode cX11_christening 63 = .ok (.if_icmp .eq 22, 3) := by decide +kernel
theorem dX11_christening_66 : decode cX11_christening 66 = .ok (.aload 6, 2) := by decide +kernel
theorem dX11_christening_68 : decode cX11_christening 68 = .ok (.iload 5, 2) := by decide +kernel
theorem dX11_christening_70 : decode cX11_christening 70 = .ok (.aload 6, 2) := by decide +kernel
theorem dX11_christening_72 : decode cX11_christening 72 = .ok (.getfield 107, 3) := by decide +kernel
theorem dX11_christening_75 : decode cX11_christening 75 = .ok (.iload_n 1, 1) := by decide +kernel
theorem dX11_christening_76 : decode cX11_christening 76 = .ok (.iaload, 1) := by decide +kernel
theorem dX11_christening_77 : decode cX11_christening 77 = .ok (.invokevirtual 87, 3) := by decide +kernel
theorem dX11_christening_80 : decode cX11_christening 80 = .ok (.ifCond .ne 5, 3) := by decide +kernel
theorem dX11_christening_83 : decode cX11_christening 83 = .ok (.iconst (-1), 1) := by decide +kernel
theorem dX11_christening_84 : decode cX11_christening 84 = .ok (.ireturn, 1) := by decide +kernel
theorem dX11_christening_85 : decode cX11_christening 85 = .ok (.aload_n 0, 1) := by decide +kernel
theorem dX11_christening_86 : decode cX11_christening 86 = .ok (.getfield 10, 3) := by decide +kernel
theorem dX11_christening_89 : decode cX11_christening 89 = .ok (.getfield 111, 3) := by decide +kernel
theorem dX11_christening_92 : decode cX11_christening 92 = .ok (.iload_n 1, 1) := by decide +kernel
theorem dX11_christening_93 : decode cX11_christening 93 = .ok (.iload_n 2, 1) := by decide +kernel
theorem dX11_christening_94 : decode cX11_christening 94 = .ok (.iload_n 3, 1) := by decide +kernel
theorem dX11_christening_95 : decode cX11_christening 95 = .ok (.iload 4, 2) := by decide +kernel
theorem dX11_christening_97 : decode cX11_christening 97 = .ok (.iload 5, 2) := by decide +kernel
theorem dX11_christening_99 : decode cX11_christening 99 = .ok (.invokevirtual 115, 3) := by decide +kernel
theorem dX11_christening_102 : decode cX11_christening 102 = .ok (.istore 7, 2) := by decide +kernel
theorem dX11_christening_104 : decode cX11_christening 104 = .ok (.aload_n 0, 1) := by decide +kernel
theorem dX11_christening_105 : decode cX11_christening 105 = .ok (.getfield 69, 3) := by decide +kernel
theorem dX11_christening_108 : decode cX11_christening 108 = .ok (.invokevirtual 84, 3) := by decide +kernel
theorem dX11_christening_111 : decode cX11_christening 111 = .ok (.iload 7, 2) := by decide +kernel
theorem dX11_christening_113 : decode cX11_christening 113 = .ok (.ireturn, 1) := by decide +kernel
theorem dX11_died_0 : decode cX11_died 0 = .ok (.aload_n 0, 1) := by decide +kernel
theorem dX11_died_1 : decode cX11_died 1 = .ok (.getfield 10, 3) := by decide +kernel
theorem dX11_died_4 : decode cX11_died 4 = .ok (.getfield 111, 3) := by decide +kernel
theorem dX11_died_7 : decode cX11_died 7 = .ok (.iload_n 1, 1) := by decide +kernel
theorem dX11_died_8 : decode cX11_died 8 = .ok (.invokevirtual 120, 3) := by decide +kernel
theorem dX11_died_11 : decode cX11_died 11 = .ok (.ifCond .ne 5, 3) := by decide +kernel
theorem dX11_died_14 : decode cX11_died 14 = .ok (.iconst 0, 1) := by decide +kernel
theorem dX11_died_15 : decode cX11_died 15 = .ok (.ireturn, 1) := by decide +kernel
theorem dX11_died_16 : decode cX11_died 16 = .ok (.iload_n 2, 1) := by decide +kernel
theorem dX11_died_17 : decode cX11_died 17 = .ok (.iconst (-1), 1) := by decide +kernel
theorem dX11_died_18 : decode cX11_died 18 = .ok (.if_icmp .eq 28, 3) := by decide +kernel
theorem dX11_died_21 : decode cX11_died 21 = .ok (.iload_n 2, 1) := by decide +kernel
theorem dX11_died_22 : decode cX11_died 22 = .ok (.aload_n 0, 1) := by decide +kernel
theorem dX11_died_23 : decode cX11_died 23 = .ok (.getfield 10, 3) := by decide +kernel
theorem dX11_died_26 : decode cX11_died 26 = .ok (.getfield 111, 3) := by decide +kernel
theorem dX11_died_29 : decode cX11_died 29 = .ok (.getfield 121, 3) := by decide +kernel
theorem dX11_died_32 : decode cX11_died 32 = .ok (.iload_n 1, 1) := by decide +kernel
theorem dX11_died_33 : decode cX11_died 33 = .ok (.iaload, 1) := by decide +kernel
theorem dX11_died_34 : decode cX11_died 34 = .ok (.if_icmp .lt 10, 3) := by decide +kernel
theorem dX11_died_37 : decode cX11_died 37 = .ok (.iload_n 2, 1) := by decide +kernel
theorem dX11_died_38 : decode cX11_died 38 = .ok (.sipush 299, 3) := by decide +kernel
theorem dX11_died_41 : decode cX11_died 41 = .ok (.if_icmp .le 5, 3) := by decide +kernel
theorem dX11_died_44 : decode cX11_died 44 = .ok (.iconst 0, 1) := by decide +kernel
theorem dX11_died_45 : decode cX11_died 45 = .ok (.ireturn, 1) := by decide +kernel
theorem dX11_died_46 : decode cX11_died 46 = .ok (.aload_n 0, 1) := by decide +kernel
theorem dX11_died_47 : decode cX11_died 47 = .ok (.getfield 10, 3) := by decide +kernel
theorem dX11_died_50 : decode cX11_died 50 = .ok (.getfield 111, 3) := by decide +kernel
theorem dX11_died_53 : decode cX11_died 53 = .ok (.getfield 124, 3) := by decide +kernel
theorem dX11_died_56 : decode cX11_died 56 = .ok (.iload_n 1, 1) := by decide +kernel
theorem dX11_died_57 : decode cX11_died 57 = .ok (.iload_n 2, 1) := by decide +kernel
theorem dX11_died_58 : decode cX11_died 58 = .ok (.iastore, 1) := by decide +kernel
theorem dX11_died_59 : decode cX11_died 59 = .ok (.aload_n 0, 1) := by decide +kernel
theorem dX11_died_60 : decode cX11_died 60 = .ok (.getfield 69, 3) := by decide +kernel
theorem dX11_died_63 : decode cX11_died 63 = .ok (.invokevirtual 84, 3) := by decide +kernel
theorem dX11_died_66 : decode cX11_died 66 = .ok (.iconst 1, 1) := by decide +kernel
theorem dX11_died_67 : decode cX11_died 67 = .ok (.ireturn, 1) := by decide +kernel
theorem dX11_weighs_0 : decode cX11_weighs 0 = .ok (.iload_n 1, 1) := by decide +kernel
theorem dX11_weighs_1 : decode cX11_weighs 1 = .ok (.ifCond .lt 20, 3) := by decide +kernel
theorem dX11_weighs_4 : decode cX11_weighs 4 = .ok (.iload_n 1, 1) := by decide +kernel
theorem dX11_weighs_5 : decode cX11_weighs 5 = .ok (.bipush 100, 2) := by decide +kernel
theorem dX11_weighs_7 : decode cX11_weighs 7 = .ok (.if_icmp .gt 14, 3) := by decide +kernel
theorem dX11_weighs_10 : decode cX11_weighs 10 = .ok (.iload_n 2, 1) := by decide +kernel
theorem dX11_weighs_11 : decode cX11_weighs 11 = .ok (.ifCond .lt 10, 3) := by decide +kernel
theorem dX11_weighs_14 : decode cX11_weighs 14 = .ok (.iload_n 2, 1) := by decide +kernel
theorem dX11_weighs_15 : decode cX11_weighs 15 = .ok (.sipush 1000, 3) := by decide +kernel
theorem dX11_weighs_18 : decode cX11_weighs 18 = .ok (.if_icmp .le 5, 3) := by decide +kernel
theorem dX11_weighs_21 : decode cX11_weighs 21 = .ok (.iconst 0, 1) := by decide +kernel
theorem dX11_weighs_22 : decode cX11_weighs 22 = .ok (.ireturn, 1) := by decide +kernel
theorem dX11_weighs_23 : decode cX11_weighs 23 = .ok (.aload_n 0, 1) := by decide +kernel
theorem dX11_weighs_24 : decode cX11_weighs 24 = .ok (.getfield 10, 3) := by decide +kernel
theorem dX11_weighs_27 : decode cX11_weighs 27 = .ok (.iload_n 1, 1) := by decide +kernel
theorem dX11_weighs_28 : decode cX11_weighs 28 = .ok (.putfield 127, 3) := by decide +kernel
theorem dX11_weighs_31 : decode cX11_weighs 31 = .ok (.aload_n 0, 1) := by decide +kernel
theorem dX11_weighs_32 : decode cX11_weighs 32 = .ok (.getfield 10, 3) := by decide +kernel
theorem dX11_weighs_35 : decode cX11_weighs 35 = .ok (.iload_n 2, 1) := by decide +kernel
theorem dX11_weighs_36 : decode cX11_weighs 36 = .ok (.putfield 131, 3) := by decide +kernel
theorem dX11_weighs_39 : decode cX11_weighs 39 = .ok (.aload_n 0, 1) := by decide +kernel
theorem dX11_weighs_40 : decode cX11_weighs 40 = .ok (.getfield 69, 3) := by decide +kernel
theorem dX11_weighs_43 : decode cX11_weighs 43 = .ok (.invokevirtual 84, 3) := by decide +kernel
theorem dX11_weighs_46 : decode cX11_weighs 46 = .ok (.iconst 1, 1) := by decide +kernel
theorem dX11_weighs_47 : decode cX11_weighs 47 = .ok (.ireturn, 1) := by decide +kernel
theorem dX11_feed_0 : decode cX11_feed 0 = .ok (.aload_n 0, 1) := by decide +kernel
theorem dX11_feed_1 : decode cX11_feed 1 = .ok (.getfield 19, 3) := by decide +kernel
theorem dX11_feed_4 : decode cX11_feed 4 = .ok (.invokevirtual 134, 3) := by decide +kernel
theorem dX11_feed_7 : decode cX11_feed 7 = .ok (.ifCond .ne 5, 3) := by decide +kernel
theorem dX11_feed_10 : decode cX11_feed 10 = .ok (.iconst (-1), 1) := by decide +kernel
theorem dX11_feed_11 : decode cX11_feed 11 = .ok (.ireturn, 1) := by decide +kernel
theorem dX11_feed_12 : decode cX11_feed 12 = .ok (.aload_n 0, 1) := by decide +kernel
theorem dX11_feed_13 : decode cX11_feed 13 = .ok (.getfield 19, 3) := by decide +kernel
theorem dX11_feed_16 : decode cX11_feed 16 = .ok (.iload_n 1, 1) := by decide +kernel
theorem dX11_feed_17 : decode cX11_feed 17 = .ok (.invokevirtual 138, 3) := by decide +kernel
theorem dX11_feed_20 : decode cX11_feed 20 = .ok (.aload_n 0, 1) := by decide +kernel
theorem dX11_feed_21 : decode cX11_feed 21 = .ok (.getfield 19, 3) := by decide +kernel
theorem dX11_feed_24 : decode cX11_feed 24 = .ok (.iload_n 2, 1) := by decide +kernel
theorem dX11_feed_25 : decode cX11_feed 25 = .ok (.invokevirtual 138, 3) := by decide +kernel
theorem dX11_feed_28 : decode cX11_feed 28 = .ok (.aload_n 0, 1) := by decide +kernel
theorem dX11_feed_29 : decode cX11_feed 29 = .ok (.getfield 19, 3) := by decide +kernel
theorem dX11_feed_32 : decode cX11_feed 32 = .ok (.iload_n 3, 1) := by decide +kernel
theorem dX11_feed_33 : decode cX11_feed 33 = .ok (.invokevirtual 138, 3) := by decide +kernel
theorem dX11_feed_36 : decode cX11_feed 36 = .ok (.aload_n 0, 1) := by decide +kernel
theorem dX11_feed_37 : decode cX11_feed 37 = .ok (.getfield 19, 3) := by decide +kernel
theorem dX11_feed_40 : decode cX11_feed 40 = .ok (.iload 4, 2) := by decide +kernel
theorem dX11_feed_42 : decode cX11_feed 42 = .ok (.invokevirtual 138, 3) := by decide +kernel
theorem dX11_feed_45 : decode cX11_feed 45 = .ok (.aload_n 0, 1) := by decide +kernel
theorem dX11_feed_46 : decode cX11_feed 46 = .ok (.getfield 19, 3) := by decide +kernel
theorem dX11_feed_49 : decode cX11_feed 49 = .ok (.iload 5, 2) := by decide +kernel
theorem dX11_feed_51 : decode cX11_feed 51 = .ok (.invokevirtual 138, 3) := by decide +kernel
theorem dX11_feed_54 : decode cX11_feed 54 = .ok (.aload_n 0, 1) := by decide +kernel
theorem dX11_feed_55 : decode cX11_feed 55 = .ok (.getfield 19, 3) := by decide +kernel
theorem dX11_feed_58 : decode cX11_feed 58 = .ok (.getfield 142, 3) := by decide +kernel
theorem dX11_feed_61 : decode cX11_feed 61 = .ok (.ireturn, 1) := by decide +kernel
theorem dX11_custom_0 : decode cX11_custom 0 = .ok (.iload_n 1, 1) := by decide +kernel
theorem dX11_custom_1 : decode cX11_custom 1 = .ok (.ifCond .lt 35, 3) := by decide +kernel
theorem dX11_custom_4 : decode cX11_custom 4 = .ok (.iload_n 1, 1) := by decide +kernel
theorem dX11_custom_5 : decode cX11_custom 5 = .ok (.aload_n 0, 1) := by decide +kernel
theorem dX11_custom_6 : decode cX11_custom 6 = .ok (.getfield 25, 3) := by decide +kernel
theorem dX11_custom_9 : decode cX11_custom 9 = .ok (.arraylength, 1) := by decide +kernel
theorem dX11_custom_10 : decode cX11_custom 10 = .ok (.if_icmp .ge 26, 3) := by decide +kernel
theorem dX11_custom_13 : decode cX11_custom 13 = .ok (.iload_n 2, 1) := by decide +kernel
theorem dX11_custom_14 : decode cX11_custom 14 = .ok (.iconst 1, 1) := by decide +kernel
theorem dX11_custom_15 : decode cX11_custom 15 = .ok (.if_icmp .lt 21, 3) := by decide +kernel
theorem dX11_custom_18 : decode cX11_custom 18 = .ok (.iload_n 2, 1) := by decide +kernel
theorem dX11_custom_19 : decode cX11_custom 19 = .ok (.sipush 160, 3) := by decide +kernel
theorem dX11_custom_22 : decode cX11_custom 22 = .ok (.if_icmp .gt 14, 3) := by decide +kernel
theorem dX11_custom_25 : decode cX11_custom 25 = .ok (.iload_n 2, 1) := by decide +kernel
theorem dX11_custom_26 : decode cX11_custom 26 = .ok (.aload_n 0, 1) := by decide +kernel
theorem dX11_custom_27 : decode cX11_custom 27 = .ok (.getfield 19, 3) := by decide +kernel
theorem dX11_custom_30 : decode cX11_custom 30 = .ok (.getfield 142, 3) := by decide +kernel
theorem dX11_custom_33 : decode cX11_custom 33 = .ok (.if_icmp .le 5, 3) := by decide +kernel
theorem dX11_custom_36 : decode cX11_custom 36 = .ok (.iconst (-1), 1) := by decide +kernel
theorem dX11_custom_37 : decode cX11_custom 37 = .ok (.ireturn, 1) := by decide +kernel
theorem dX11_custom_38 : decode cX11_custom 38 = .ok (.aload_n 0, 1) := by decide +kernel
theorem dX11_custom_39 : decode cX11_custom 39 = .ok (.getfield 32, 3) := by decide +kernel
theorem dX11_custom_42 : decode cX11_custom 42 = .ok (.aload_n 0, 1) := by decide +kernel
theorem dX11_custom_43 : decode cX11_custom 43 = .ok (.getfield 19, 3) := by decide +kernel
theorem dX11_custom_46 : decode cX11_custom 46 = .ok (.iload_n 2, 1) := by decide +kernel
theorem dX11_custom_47 : decode cX11_custom 47 = .ok (.invokevirtual 145, 3) := by decide +kernel
theorem dX11_custom_50 : decode cX11_custom 50 = .ok (.istore_n 3, 1) := by decide +kernel
theorem dX11_custom_51 : decode cX11_custom 51 = .ok (.aload_n 0, 1) := by decide +kernel
theorem dX11_custom_52 : decode cX11_custom 52 = .ok (.getfield 19, 3) := by decide +kernel
theorem dX11_custom_55 : decode cX11_custom 55 = .ok (.invokevirtual 149, 3) := by decide +kernel
theorem dX11_custom_58 : decode cX11_custom 58 = .ok (.iload_n 3, 1) := by decide +kernel
theorem dX11_custom_59 : decode cX11_custom 59 = .ok (.ifCond .eq 5, 3) := by decide +kernel
theorem dX11_custom_62 : decode cX11_custom 62 = .ok (.iload_n 3, 1) := by decide +kernel
theorem dX11_custom_63 : decode cX11_custom 63 = .ok (.ireturn, 1) := by decide +kernel
theorem dX11_custom_64 : decode cX11_custom 64 = .ok (.aload_n 0, 1) := by decide +kernel
theorem dX11_custom_65 : decode cX11_custom 65 = .ok (.getfield 25, 3) := by decide +kernel
theorem dX11_custom_68 : decode cX11_custom 68 = .ok (.iload_n 1, 1) := by decide +kernel
theorem dX11_custom_69 : decode cX11_custom 69 = .ok (.aload_n 0, 1) := by decide +kernel
theorem dX11_custom_70 : decode cX11_custom 70 = .ok (.getfield 32, 3) := by decide +kernel
theorem dX11_custom_73 : decode cX11_custom 73 = .ok (.aload_n 0, 1) := by decide +kernel
theorem dX11_custom_74 : decode cX11_custom 74 = .ok (.getfield 25, 3) := by decide +kernel
theorem dX11_custom_77 : decode cX11_custom 77 = .ok (.iload_n 1, 1) := by decide +kernel
theorem dX11_custom_78 : decode cX11_custom 78 = .ok (.aaload, 1) := by decide +kernel
theorem dX11_custom_79 : decode cX11_custom 79 = .ok (.invokevirtual 152, 3) := by decide +kernel
theorem dX11_custom_82 : decode cX11_custom 82 = .ok (.aastore, 1) := by decide +kernel
theorem dX11_custom_83 : decode cX11_custom 83 = .ok (.aload_n 0, 1) := by decide +kernel
theorem dX11_custom_84 : decode cX11_custom 84 = .ok (.getfield 69, 3) := by decide +kernel
theorem dX11_custom_87 : decode cX11_custom 87 = .ok (.invokevirtual 84, 3) := by decide +kernel
theorem dX11_custom_90 : decode cX11_custom 90 = .ok (.aload_n 0, 1) := by decide +kernel
theorem dX11_custom_91 : decode cX11_custom 91 = .ok (.getfield 41, 3) := by decide +kernel
theorem dX11_custom_94 : decode cX11_custom 94 = .ok (.iload_n 1, 1) := by decide +kernel
theorem dX11_custom_95 : decode cX11_custom 95 = .ok (.invokevirtual 156, 3) := by decide +kernel
theorem dX11_custom_98 : decode cX11_custom 98 = .ok (.ireturn, 1) := by decide +kernel
theorem dX11_customs_0 : decode cX11_customs 0 = .ok (.iload_n 1, 1) := by decide +kernel
theorem dX11_customs_1 : decode cX11_customs 1 = .ok (.ifCond .lt 36, 3) := by decide +kernel
theorem dX11_customs_4 : decode cX11_customs 4 = .ok (.iload_n 1, 1) := by decide +kernel
theorem dX11_customs_5 : decode cX11_customs 5 = .ok (.aload_n 0, 1) := by decide +kernel
theorem dX11_customs_6 : decode cX11_customs 6 = .ok (.getfield 25, 3) := by decide +kernel
theorem dX11_customs_9 : decode cX11_customs 9 = .ok (.arraylength, 1) := by decide +kernel
theorem dX11_customs_10 : decode cX11_customs 10 = .ok (.if_icmp .ge 27, 3) := by decide +kernel
theorem dX11_customs_13 : decode cX11_customs 13 = .ok (.iload_n 2, 1) := by decide +kernel
theorem dX11_customs_14 : decode cX11_customs 14 = .ok (.ifCond .lt 23, 3) := by decide +kernel
theorem dX11_customs_17 : decode cX11_customs 17 = .ok (.iload_n 2, 1) := by decide +kernel
theorem dX11_customs_18 : decode cX11_customs 18 = .ok (.aload_n 0, 1) := by decide +kernel
theorem dX11_customs_19 : decode cX11_customs 19 = .ok (.getfield 25, 3) := by decide +kernel
theorem dX11_customs_22 : decode cX11_customs 22 = .ok (.arraylength, 1) := by decide +kernel
theorem dX11_customs_23 : decode cX11_customs 23 = .ok (.if_icmp .ge 14, 3) := by decide +kernel
theorem dX11_customs_26 : decode cX11_customs 26 = .ok (.iload_n 3, 1) := by decide +kernel
theorem dX11_customs_27 : decode cX11_customs 27 = .ok (.ifCond .lt 10, 3) := by decide +kernel
theorem dX11_customs_30 : decode cX11_customs 30 = .ok (.iload_n 3, 1) := by decide +kernel
theorem dX11_customs_31 : decode cX11_customs 31 = .ok (.sipush 300, 3) := by decide +kernel
theorem dX11_customs_34 : decode cX11_customs 34 = .ok (.if_icmp .le 5, 3) := by decide +kernel
theorem dX11_customs_37 : decode cX11_customs 37 = .ok (.iconst 0, 1) := by decide +kernel
theorem dX11_customs_38 : decode cX11_customs 38 = .ok (.ireturn, 1) := by decide +kernel
theorem dX11_customs_39 : decode cX11_customs 39 = .ok (.aload_n 0, 1) := by decide +kernel
theorem dX11_customs_40 : decode cX11_customs 40 = .ok (.getfield 41, 3) := by decide +kernel
theorem dX11_customs_43 : decode cX11_customs 43 = .ok (.iload_n 1, 1) := by decide +kernel
theorem dX11_customs_44 : decode cX11_customs 44 = .ok (.iload_n 2, 1) := by decide +kernel
theorem dX11_customs_45 : decode cX11_customs 45 = .ok (.iload_n 3, 1) := by decide +kernel
theorem dX11_customs_46 : decode cX11_customs 46 = .ok (.invokevirtual 160, 3) := by decide +kernel
theorem dX11_customs_49 : decode cX11_customs 49 = .ok (.aload_n 0, 1) := by decide +kernel
theorem dX11_customs_50 : decode cX11_customs 50 = .ok (.getfield 69, 3) := by decide +kernel
theorem dX11_customs_53 : decode cX11_customs 53 = .ok (.invokevirtual 84, 3) := by decide +kernel
theorem dX11_customs_56 : decode cX11_customs 56 = .ok (.iconst 1, 1) := by decide +kernel
theorem dX11_customs_57 : decode cX11_customs 57 = .ok (.ireturn, 1) := by decide +kernel
theorem dX11_tie_0 : decode cX11_tie 0 = .ok (.aload_n 0, 1) := by decide +kernel
theorem dX11_tie_1 : decode cX11_tie 1 = .ok (.getfield 10, 3) := by decide +kernel
theorem dX11_tie_4 : decode cX11_tie 4 = .ok (.getfield 111, 3) := by decide +kernel
theorem dX11_tie_7 : decode cX11_tie 7 = .ok (.iload_n 1, 1) := by decide +kernel
theorem dX11_tie_8 : decode cX11_tie 8 = .ok (.invokevirtual 120, 3) := by decide +kernel
theorem dX11_tie_11 : decode cX11_tie 11 = .ok (.ifCond .eq 17, 3) := by decide +kernel
theorem dX11_tie_14 : decode cX11_tie 14 = .ok (.aload_n 0, 1) := by decide +kernel
theorem dX11_tie_15 : decode cX11_tie 15 = .ok (.getfield 10, 3) := by decide +kernel
theorem dX11_tie_18 : decode cX11_tie 18 = .ok (.getfield 91, 3) := by decide +kernel
theorem dX11_tie_21 : decode cX11_tie 21 = .ok (.iload_n 2, 1) := by decide +kernel
theorem dX11_tie_22 : decode cX11_tie 22 = .ok (.invokevirtual 100, 3) := by decide +kernel
theorem dX11_tie_25 : decode cX11_tie 25 = .ok (.ifCond .ne 5, 3) := by decide +kernel
theorem dX11_tie_28 : decode cX11_tie 28 = .ok (.iconst (-1), 1) := by decide +kernel
theorem dX11_tie_29 : decode cX11_tie 29 = .ok (.ireturn, 1) := by decide +kernel
theorem dX11_tie_30 : decode cX11_tie 30 = .ok (.aload_n 0, 1) := by decide +kernel
theorem dX11_tie_31 : decode cX11_tie 31 = .ok (.getfield 10, 3) := by decide +kernel
theorem dX11_tie_34 : decode cX11_tie 34 = .ok (.iload_n 1, 1) := by decide +kernel
theorem dX11_tie_35 : decode cX11_tie 35 = .ok (.iload_n 2, 1) := by decide +kernel
theorem dX11_tie_36 : decode cX11_tie 36 = .ok (.invokevirtual 163, 3) := by decide +kernel
theorem dX11_tie_39 : decode cX11_tie 39 = .ok (.ifCond .eq 7, 3) := by decide +kernel
theorem dX11_tie_42 : decode cX11_tie 42 = .ok (.iconst 1, 1) := by decide +kernel
theorem dX11_tie_43 : decode cX11_tie 43 = .ok (.goto 4, 3) := by decide +kernel
theorem dX11_tie_46 : decode cX11_tie 46 = .ok (.iconst 0, 1) := by decide +kernel
theorem dX11_tie_47 : decode cX11_tie 47 = .ok (.ireturn, 1) := by decide +kernel
theorem dX11_family_0 : decode cX11_family 0 = .ok (.aload_n 0, 1) := by decide +kernel
theorem dX11_family_1 : decode cX11_family 1 = .ok (.getfield 10, 3) := by decide +kernel
theorem dX11_family_4 : decode cX11_family 4 = .ok (.iload_n 1, 1) := by decide +kernel
theorem dX11_family_5 : decode cX11_family 5 = .ok (.iload_n 2, 1) := by decide +kernel
theorem dX11_family_6 : decode cX11_family 6 = .ok (.invokevirtual 166, 3) := by decide +kernel
theorem dX11_family_9 : decode cX11_family 9 = .ok (.ifCond .ne 5, 3) := by decide +kernel
theorem dX11_family_12 : decode cX11_family 12 = .ok (.iconst (-1), 1) := by decide +kernel
theorem dX11_family_13 : decode cX11_family 13 = .ok (.ireturn, 1) := by decide +kernel
theorem dX11_family_14 : decode cX11_family 14 = .ok (.aload_n 0, 1) := by decide +kernel
theorem dX11_family_15 : decode cX11_family 15 = .ok (.getfield 53, 3) := by decide +kernel
theorem dX11_family_18 : decode cX11_family 18 = .ok (.iload_n 1, 1) := by decide +kernel
theorem dX11_family_19 : decode cX11_family 19 = .ok (.iload_n 2, 1) := by decide +kernel
theorem dX11_family_20 : decode cX11_family 20 = .ok (.invokevirtual 169, 3) := by decide +kernel
theorem dX11_family_23 : decode cX11_family 23 = .ok (.ifCond .eq 7, 3) := by decide +kernel
theorem dX11_family_26 : decode cX11_family 26 = .ok (.iconst 1, 1) := by decide +kernel
theorem dX11_family_27 : decode cX11_family 27 = .ok (.goto 4, 3) := by decide +kernel
theorem dX11_family_30 : decode cX11_family 30 = .ok (.iconst 0, 1) := by decide +kernel
theorem dX11_family_31 : decode cX11_family 31 = .ok (.ireturn, 1) := by decide +kernel
theorem dX11_points_0 : decode cX11_points 0 = .ok (.aload_n 0, 1) := by decide +kernel
theorem dX11_points_1 : decode cX11_points 1 = .ok (.getfield 10, 3) := by decide +kernel
theorem dX11_points_4 : decode cX11_points 4 = .ok (.iload_n 1, 1) := by decide +kernel
theorem dX11_points_5 : decode cX11_points 5 = .ok (.iload_n 2, 1) := by decide +kernel
theorem dX11_points_6 : decode cX11_points 6 = .ok (.invokevirtual 166, 3) := by decide +kernel
theorem dX11_points_9 : decode cX11_points 9 = .ok (.ifCond .eq 19, 3) := by decide +kernel
theorem dX11_points_12 : decode cX11_points 12 = .ok (.aload_n 0, 1) := by decide +kernel
theorem dX11_points_13 : decode cX11_points 13 = .ok (.getfield 53, 3) := by decide +kernel
theorem dX11_points_16 : decode cX11_points 16 = .ok (.iload_n 1, 1) := by decide +kernel
theorem dX11_points_17 : decode cX11_points 17 = .ok (.iload_n 2, 1) := by decide +kernel
theorem dX11_points_18 : decode cX11_points 18 = .ok (.aload_n 0, 1) := by decide +kernel
theorem dX11_points_19 : decode cX11_points 19 = .ok (.getfield 41, 3) := by decide +kernel
theorem dX11_points_22 : decode cX11_points 22 = .ok (.invokevirtual 172, 3) := by decide +kernel
theorem dX11_points_25 : decode cX11_points 25 = .ok (.goto 5, 3) := by decide +kernel
theorem dX11_points_28 : decode cX11_points 28 = .ok (.ldc 176, 2) := by decide +kernel
theorem dX11_points_30 : decode cX11_points 30 = .ok (.ireturn, 1) := by decide +kernel
theorem dX11_by_0 : decode cX11_by 0 = .ok (.aload_n 0, 1) := by decide +kernel
theorem dX11_by_1 : decode cX11_by 1 = .ok (.iload_n 1, 1) := by decide +kernel
theorem dX11_by_2 : decode cX11_by 2 = .ok (.iload_n 2, 1) := by decide +kernel
theorem dX11_by_3 : decode cX11_by 3 = .ok (.iload_n 3, 1) := by decide +kernel
theorem dX11_by_4 : decode cX11_by 4 = .ok (.invokevirtual 177, 3) := by decide +kernel
theorem dX11_by_7 : decode cX11_by 7 = .ok (.istore 4, 2) := by decide +kernel
theorem dX11_by_9 : decode cX11_by 9 = .ok (.iload 4, 2) := by decide +kernel
theorem dX11_by_11 : decode cX11_by 11 = .ok (.iconst (-1), 1) := by decide +kernel
theorem dX11_by_12 : decode cX11_by 12 = .ok (.if_icmp .ne 5, 3) := by decide +kernel
theorem dX11_by_15 : decode cX11_by 15 = .ok (.iconst (-1), 1) := by decide +kernel
theorem dX11_by_16 : decode cX11_by 16 = .ok (.ireturn, 1) := by decide +kernel
theorem dX11_by_17 : decode cX11_by 17 = .ok (.aload_n 0, 1) := by decide +kernel
theorem dX11_by_18 : decode cX11_by 18 = .ok (.getfield 53, 3) := by decide +kernel
theorem dX11_by_21 : decode cX11_by 21 = .ok (.iload 4, 2) := by decide +kernel
theorem dX11_by_23 : decode cX11_by 23 = .ok (.invokevirtual 181, 3) := by decide +kernel
theorem dX11_by_26 : decode cX11_by 26 = .ok (.istore 5, 2) := by decide +kernel
theorem dX11_by_28 : decode cX11_by 28 = .ok (.iload 5, 2) := by decide +kernel
theorem dX11_by_30 : decode cX11_by 30 = .ok (.ifCond .lt 13, 3) := by decide +kernel
theorem dX11_by_33 : decode cX11_by 33 = .ok (.iload 5, 2) := by decide +kernel
theorem dX11_by_35 : decode cX11_by 35 = .ok (.ldc 184, 2) := by decide +kernel
theorem dX11_by_37 : decode cX11_by 37 = .ok (.invokevirtual 186, 3) := by decide +kernel
theorem dX11_by_40 : decode cX11_by 40 = .ok (.if_icmp .lt 7, 3) := by decide +kernel
theorem dX11_by_43 : decode cX11_by 43 = .ok (.iconst 0, 1) := by decide +kernel
theorem dX11_by_44 : decode cX11_by 44 = .ok (.goto 10, 3) := by decide +kernel
theorem dX11_by_47 : decode cX11_by 47 = .ok (.ldc 184, 2) := by decide +kernel
theorem dX11_by_49 : decode cX11_by 49 = .ok (.iload 5, 2) := by decide +kernel
theorem dX11_by_51 : decode cX11_by 51 = .ok (.invokevirtual 192, 3) := by decide +kernel
theorem dX11_by_54 : decode cX11_by 54 = .ok (.ireturn, 1) := by decide +kernel
theorem dX11_should_0 : decode cX11_should 0 = .ok (.aload_n 0, 1) := by decide +kernel
theorem dX11_should_1 : decode cX11_should 1 = .ok (.iload_n 1, 1) := by decide +kernel
theorem dX11_should_2 : decode cX11_should 2 = .ok (.iload_n 2, 1) := by decide +kernel
theorem dX11_should_3 : decode cX11_should 3 = .ok (.iload_n 3, 1) := by decide +kernel
theorem dX11_should_4 : decode cX11_should 4 = .ok (.invokevirtual 177, 3) := by decide +kernel
theorem dX11_should_7 : decode cX11_should 7 = .ok (.istore 4, 2) := by decide +kernel
theorem dX11_should_9 : decode cX11_should 9 = .ok (.iload 4, 2) := by decide +kernel
theorem dX11_should_11 : decode cX11_should 11 = .ok (.iconst (-1), 1) := by decide +kernel
theorem dX11_should_12 : decode cX11_should 12 = .ok (.if_icmp .ne 7, 3) := by decide +kernel
theorem dX11_should_15 : decode cX11_should 15 = .ok (.iconst (-1), 1) := by decide +kernel
theorem dX11_should_16 : decode cX11_should 16 = .ok (.goto 12, 3) := by decide +kernel
theorem dX11_should_19 : decode cX11_should 19 = .ok (.aload_n 0, 1) := by decide +kernel
theorem dX11_should_20 : decode cX11_should 20 = .ok (.getfield 53, 3) := by decide +kernel
theorem dX11_should_23 : decode cX11_should 23 = .ok (.iload 4, 2) := by decide +kernel
theorem dX11_should_25 : decode cX11_should 25 = .ok (.invokevirtual 196, 3) := by decide +kernel
theorem dX11_should_28 : decode cX11_should 28 = .ok (.ireturn, 1) := by decide +kernel
theorem dX11_placeAsked_0 : decode cX11_placeAsked 0 = .ok (.aload_n 0, 1) := by decide +kernel
theorem dX11_placeAsked_1 : decode cX11_placeAsked 1 = .ok (.getfield 10, 3) := by decide +kernel
theorem dX11_placeAsked_4 : decode cX11_placeAsked 4 = .ok (.iload_n 1, 1) := by decide +kernel
theorem dX11_placeAsked_5 : decode cX11_placeAsked 5 = .ok (.iload_n 2, 1) := by decide +kernel
theorem dX11_placeAsked_6 : decode cX11_placeAsked 6 = .ok (.invokevirtual 166, 3) := by decide +kernel
theorem dX11_placeAsked_9 : decode cX11_placeAsked 9 = .ok (.ifCond .eq 17, 3) := by decide +kernel
theorem dX11_placeAsked_12 : decode cX11_placeAsked 12 = .ok (.aload_n 0, 1) := by decide +kernel
theorem dX11_placeAsked_13 : decode cX11_placeAsked 13 = .ok (.getfield 10, 3) := by decide +kernel
theorem dX11_placeAsked_16 : decode cX11_placeAsked 16 = .ok (.getfield 111, 3) := by decide +kernel
theorem dX11_placeAsked_19 : decode cX11_placeAsked 19 = .ok (.iload_n 3, 1) := by decide +kernel
theorem dX11_placeAsked_20 : decode cX11_placeAsked 20 = .ok (.invokevirtual 120, 3) := by decide +kernel
theorem dX11_placeAsked_23 : decode cX11_placeAsked 23 = .ok (.ifCond .ne 5, 3) := by decide +kernel
theorem dX11_placeAsked_26 : decode cX11_placeAsked 26 = .ok (.iconst (-1), 1) := by decide +kernel
theorem dX11_placeAsked_27 : decode cX11_placeAsked 27 = .ok (.ireturn, 1) := by decide +kernel
theorem dX11_placeAsked_28 : decode cX11_placeAsked 28 = .ok (.aload_n 0, 1) := by decide +kernel
theorem dX11_placeAsked_29 : decode cX11_placeAsked 29 = .ok (.getfield 53, 3) := by decide +kernel
theorem dX11_placeAsked_32 : decode cX11_placeAsked 32 = .ok (.iload_n 1, 1) := by decide +kernel
theorem dX11_placeAsked_33 : decode cX11_placeAsked 33 = .ok (.iload_n 2, 1) := by decide +kernel
theorem dX11_placeAsked_34 : decode cX11_placeAsked 34 = .ok (.aload_n 0, 1) := by decide +kernel
theorem dX11_placeAsked_35 : decode cX11_placeAsked 35 = .ok (.getfield 41, 3) := by decide +kernel
theorem dX11_placeAsked_38 : decode cX11_placeAsked 38 = .ok (.invokevirtual 172, 3) := by decide +kernel
theorem dX11_placeAsked_41 : decode cX11_placeAsked 41 = .ok (.ldc 176, 2) := by decide +kernel
theorem dX11_placeAsked_43 : decode cX11_placeAsked 43 = .ok (.if_icmp .ne 7, 3) := by decide +kernel
theorem dX11_placeAsked_46 : decode cX11_placeAsked 46 = .ok (.iconst (-1), 1) := by decide +kernel
theorem dX11_placeAsked_47 : decode cX11_placeAsked 47 = .ok (.goto 11, 3) := by decide +kernel
theorem dX11_placeAsked_50 : decode cX11_placeAsked 50 = .ok (.aload_n 0, 1) := by decide +kernel
theorem dX11_placeAsked_51 : decode cX11_placeAsked 51 = .ok (.getfield 53, 3) := by decide +kernel
theorem dX11_placeAsked_54 : decode cX11_placeAsked 54 = .ok (.iload_n 3, 1) := by decide +kernel
theorem dX11_placeAsked_55 : decode cX11_placeAsked 55 = .ok (.invokevirtual 199, 3) := by decide +kernel
theorem dX11_placeAsked_58 : decode cX11_placeAsked 58 = .ok (.ireturn, 1) := by decide +kernel
theorem dX11_best_0 : decode cX11_best 0 = .ok (.aload_n 0, 1) := by decide +kernel
theorem dX11_best_1 : decode cX11_best 1 = .ok (.getfield 10, 3) := by decide +kernel
theorem dX11_best_4 : decode cX11_best 4 = .ok (.getfield 111, 3) := by decide +kernel
theorem dX11_best_7 : decode cX11_best 7 = .ok (.iload_n 1, 1) := by decide +kernel
theorem dX11_best_8 : decode cX11_best 8 = .ok (.invokevirtual 120, 3) := by decide +kernel
theorem dX11_best_11 : decode cX11_best 11 = .ok (.ifCond .ne 5, 3) := by decide +kernel
theorem dX11_best_14 : decode cX11_best 14 = .ok (.iconst (-1), 1) := by decide +kernel
theorem dX11_best_15 : decode cX11_best 15 = .ok (.ireturn, 1) := by decide +kernel
theorem dX11_best_16 : decode cX11_best 16 = .ok (.aload_n 0, 1) := by decide +kernel
theorem dX11_best_17 : decode cX11_best 17 = .ok (.getfield 69, 3) := by decide +kernel
theorem dX11_best_20 : decode cX11_best 20 = .ok (.aload_n 0, 1) := by decide +kernel
theorem dX11_best_21 : decode cX11_best 21 = .ok (.getfield 41, 3) := by decide +kernel
theorem dX11_best_24 : decode cX11_best 24 = .ok (.invokevirtual 202, 3) := by decide +kernel
theorem dX11_best_27 : decode cX11_best 27 = .ok (.aload_n 0, 1) := by decide +kernel
theorem dX11_best_28 : decode cX11_best 28 = .ok (.getfield 69, 3) := by decide +kernel
theorem dX11_best_31 : decode cX11_best 31 = .ok (.iload_n 1, 1) := by decide +kernel
theorem dX11_best_32 : decode cX11_best 32 = .ok (.invokevirtual 206, 3) := by decide +kernel
theorem dX11_best_35 : decode cX11_best 35 = .ok (.ireturn, 1) := by decide +kernel
theorem dX11_ways_0 : decode cX11_ways 0 = .ok (.iload_n 1, 1) := by decide +kernel
theorem dX11_ways_1 : decode cX11_ways 1 = .ok (.ifCond .lt 8, 3) := by decide +kernel
theorem dX11_ways_4 : decode cX11_ways 4 = .ok (.iload_n 1, 1) := by decide +kernel
theorem dX11_ways_5 : decode cX11_ways 5 = .ok (.iconst 3, 1) := by decide +kernel
theorem dX11_ways_6 : decode cX11_ways 6 = .ok (.if_icmp .le 7, 3) := by decide +kernel
theorem dX11_ways_9 : decode cX11_ways 9 = .ok (.ldc2_w 209, 3) := by decide +kernel
theorem dX11_ways_12 : decode cX11_ways 12 = .ok (.lreturn, 1) := by decide +kernel
theorem dX11_ways_13 : decode cX11_ways 13 = .ok (.aload_n 0, 1) := by decide +kernel
theorem dX11_ways_14 : decode cX11_ways 14 = .ok (.getfield 69, 3) := by decide +kernel
theorem dX11_ways_17 : decode cX11_ways 17 = .ok (.aload_n 0, 1) := by decide +kernel
theorem dX11_ways_18 : decode cX11_ways 18 = .ok (.getfield 41, 3) := by decide +kernel
theorem dX11_ways_21 : decode cX11_ways 21 = .ok (.invokevirtual 202, 3) := by decide +kernel
theorem dX11_ways_24 : decode cX11_ways 24 = .ok (.iload_n 1, 1) := by decide +kernel
theorem dX11_ways_25 : decode cX11_ways 25 = .ok (.tableswitch 52 0 2 #[27, 36, 44], 27) := by decide +kernel
theorem dX11_ways_52 : decode cX11_ways 52 = .ok (.aload_n 0, 1) := by decide +kernel
theorem dX11_ways_53 : decode cX11_ways 53 = .ok (.getfield 69, 3) := by decide +kernel
theorem dX11_ways_56 : decode cX11_ways 56 = .ok (.invokevirtual 211, 3) := by decide +kernel
theorem dX11_ways_59 : decode cX11_ways 59 = .ok (.i2l, 1) := by decide +kernel
theorem dX11_ways_60 : decode cX11_ways 60 = .ok (.lreturn, 1) := by decide +kernel
theorem dX11_ways_61 : decode cX11_ways 61 = .ok (.aload_n 0, 1) := by decide +kernel
theorem dX11_ways_62 : decode cX11_ways 62 = .ok (.getfield 69, 3) := by decide +kernel
theorem dX11_ways_65 : decode cX11_ways 65 = .ok (.invokevirtual 214, 3) := by decide +kernel
theorem dX11_ways_68 : decode cX11_ways 68 = .ok (.lreturn, 1) := by decide +kernel
theorem dX11_ways_69 : decode cX11_ways 69 = .ok (.aload_n 0, 1) := by decide +kernel
theorem dX11_ways_70 : decode cX11_ways 70 = .ok (.getfield 69, 3) := by decide +kernel
theorem dX11_ways_73 : decode cX11_ways 73 = .ok (.invokevirtual 218, 3) := by decide +kernel
theorem dX11_ways_76 : decode cX11_ways 76 = .ok (.lreturn, 1) := by decide +kernel
theorem dX11_ways_77 : decode cX11_ways 77 = .ok (.aload_n 0, 1) := by decide +kernel
theorem dX11_ways_78 : decode cX11_ways 78 = .ok (.getfield 69, 3) := by decide +kernel
theorem dX11_ways_81 : decode cX11_ways 81 = .ok (.invokevirtual 221, 3) := by decide +kernel
theorem dX11_ways_84 : decode cX11_ways 84 = .ok (.i2l, 1) := by decide +kernel
theorem dX11_ways_85 : decode cX11_ways 85 = .ok (.lreturn, 1) := by decide +kernel
theorem dX11_sure_0 : decode cX11_sure 0 = .ok (.aload_n 0, 1) := by decide +kernel
theorem dX11_sure_1 : decode cX11_sure 1 = .ok (.getfield 10, 3) := by decide +kernel
theorem dX11_sure_4 : decode cX11_sure 4 = .ok (.getfield 111, 3) := by decide +kernel
theorem dX11_sure_7 : decode cX11_sure 7 = .ok (.iload_n 1, 1) := by decide +kernel
theorem dX11_sure_8 : decode cX11_sure 8 = .ok (.invokevirtual 120, 3) := by decide +kernel
theorem dX11_sure_11 : decode cX11_sure 11 = .ok (.ifCond .eq 23, 3) := by decide +kernel
theorem dX11_sure_14 : decode cX11_sure 14 = .ok (.iload_n 2, 1) := by decide +kernel
theorem dX11_sure_15 : decode cX11_sure 15 = .ok (.bipush 6, 2) := by decide +kernel
theorem dX11_sure_17 : decode cX11_sure 17 = .ok (.if_icmp .eq 19, 3) := by decide +kernel
theorem dX11_sure_20 : decode cX11_sure 20 = .ok (.aload_n 0, 1) := by decide +kernel
theorem dX11_sure_21 : decode cX11_sure 21 = .ok (.getfield 10, 3) := by decide +kernel
theorem dX11_sure_24 : decode cX11_sure 24 = .ok (.getfield 91, 3) := by decide +kernel
theorem dX11_sure_27 : decode cX11_sure 27 = .ok (.iload_n 2, 1) := by decide +kernel
theorem dX11_sure_28 : decode cX11_sure 28 = .ok (.invokevirtual 100, 3) := by decide +kernel
theorem dX11_sure_31 : decode cX11_sure 31 = .ok (.ifCond .ne 5, 3) := by decide +kernel
theorem dX11_sure_34 : decode cX11_sure 34 = .ok (.iconst (-1), 1) := by decide +kernel
theorem dX11_sure_35 : decode cX11_sure 35 = .ok (.ireturn, 1) := by decide +kernel
theorem dX11_sure_36 : decode cX11_sure 36 = .ok (.iload_n 2, 1) := by decide +kernel
theorem dX11_sure_37 : decode cX11_sure 37 = .ok (.bipush 6, 2) := by decide +kernel
theorem dX11_sure_39 : decode cX11_sure 39 = .ok (.if_icmp .eq 17, 3) := by decide +kernel
theorem dX11_sure_42 : decode cX11_sure 42 = .ok (.aload_n 0, 1) := by decide +kernel
theorem dX11_sure_43 : decode cX11_sure 43 = .ok (.getfield 10, 3) := by decide +kernel
theorem dX11_sure_46 : decode cX11_sure 46 = .ok (.iload_n 1, 1) := by decide +kernel
theorem dX11_sure_47 : decode cX11_sure 47 = .ok (.iload_n 2, 1) := by decide +kernel
theorem dX11_sure_48 : decode cX11_sure 48 = .ok (.invokevirtual 163, 3) := by decide +kernel
theorem dX11_sure_51 : decode cX11_sure 51 = .ok (.ifCond .ne 5, 3) := by decide +kernel
theorem dX11_sure_54 : decode cX11_sure 54 = .ok (.iconst 0, 1) := by decide +kernel
theorem dX11_sure_55 : decode cX11_sure 55 = .ok (.ireturn, 1) := by decide +kernel
theorem dX11_sure_56 : decode cX11_sure 56 = .ok (.aload_n 0, 1) := by decide +kernel
theorem dX11_sure_57 : decode cX11_sure 57 = .ok (.getfield 69, 3) := by decide +kernel
theorem dX11_sure_60 : decode cX11_sure 60 = .ok (.aload_n 0, 1) := by decide +kernel
theorem dX11_sure_61 : decode cX11_sure 61 = .ok (.getfield 41, 3) := by decide +kernel
theorem dX11_sure_64 : decode cX11_sure 64 = .ok (.invokevirtual 202, 3) := by decide +kernel
theorem dX11_sure_67 : decode cX11_sure 67 = .ok (.aload_n 0, 1) := by decide +kernel
theorem dX11_sure_68 : decode cX11_sure 68 = .ok (.getfield 69, 3) := by decide +kernel
theorem dX11_sure_71 : decode cX11_sure 71 = .ok (.iload_n 1, 1) := by decide +kernel
theorem dX11_sure_72 : decode cX11_sure 72 = .ok (.invokevirtual 224, 3) := by decide +kernel
theorem dX11_sure_75 : decode cX11_sure 75 = .ok (.iload_n 2, 1) := by decide +kernel
theorem dX11_sure_76 : decode cX11_sure 76 = .ok (.if_icmp .ne 7, 3) := by decide +kernel
theorem dX11_sure_79 : decode cX11_sure 79 = .ok (.iconst 2, 1) := by decide +kernel
theorem dX11_sure_80 : decode cX11_sure 80 = .ok (.goto 4, 3) := by decide +kernel
theorem dX11_sure_83 : decode cX11_sure 83 = .ok (.iconst 1, 1) := by decide +kernel
theorem dX11_sure_84 : decode cX11_sure 84 = .ok (.ireturn, 1) := by decide +kernel
theorem dX11_grand_0 : decode cX11_grand 0 = .ok (.aload_n 0, 1) := by decide +kernel
theorem dX11_grand_1 : decode cX11_grand 1 = .ok (.getfield 10, 3) := by decide +kernel
theorem dX11_grand_4 : decode cX11_grand 4 = .ok (.getfield 91, 3) := by decide +kernel
theorem dX11_grand_7 : decode cX11_grand 7 = .ok (.iload_n 1, 1) := by decide +kernel
theorem dX11_grand_8 : decode cX11_grand 8 = .ok (.invokevirtual 100, 3) := by decide +kernel
theorem dX11_grand_11 : decode cX11_grand 11 = .ok (.ifCond .eq 12, 3) := by decide +kernel
theorem dX11_grand_14 : decode cX11_grand 14 = .ok (.iload_n 2, 1) := by decide +kernel
theorem dX11_grand_15 : decode cX11_grand 15 = .ok (.ifCond .lt 8, 3) := by decide +kernel
theorem dX11_grand_18 : decode cX11_grand 18 = .ok (.iload_n 2, 1) := by decide +kernel
theorem dX11_grand_19 : decode cX11_grand 19 = .ok (.iconst 4, 1) := by decide +kernel
theorem dX11_grand_20 : decode cX11_grand 20 = .ok (.if_icmp .lt 5, 3) := by decide +kernel
theorem dX11_grand_23 : decode cX11_grand 23 = .ok (.iconst (-1), 1) := by decide +kernel
theorem dX11_grand_24 : decode cX11_grand 24 = .ok (.ireturn, 1) := by decide +kernel
theorem dX11_grand_25 : decode cX11_grand 25 = .ok (.aload_n 0, 1) := by decide +kernel
theorem dX11_grand_26 : decode cX11_grand 26 = .ok (.getfield 10, 3) := by decide +kernel
theorem dX11_grand_29 : decode cX11_grand 29 = .ok (.getfield 91, 3) := by decide +kernel
theorem dX11_grand_32 : decode cX11_grand 32 = .ok (.iload_n 1, 1) := by decide +kernel
theorem dX11_grand_33 : decode cX11_grand 33 = .ok (.iload_n 2, 1) := by decide +kernel
theorem dX11_grand_34 : decode cX11_grand 34 = .ok (.invokevirtual 227, 3) := by decide +kernel
theorem dX11_grand_37 : decode cX11_grand 37 = .ok (.istore_n 3, 1) := by decide +kernel
theorem dX11_grand_38 : decode cX11_grand 38 = .ok (.iload_n 3, 1) := by decide +kernel
theorem dX11_grand_39 : decode cX11_grand 39 = .ok (.iconst (-1), 1) := by decide +kernel
theorem dX11_grand_40 : decode cX11_grand 40 = .ok (.if_icmp .eq 7, 3) := by decide +kernel
theorem dX11_grand_43 : decode cX11_grand 43 = .ok (.iconst 1, 1) := by decide +kernel
theorem dX11_grand_44 : decode cX11_grand 44 = .ok (.iload_n 3, 1) := by decide +kernel
theorem dX11_grand_45 : decode cX11_grand 45 = .ok (.ishl, 1) := by decide +kernel
theorem dX11_grand_46 : decode cX11_grand 46 = .ok (.ireturn, 1) := by decide +kernel
theorem dX11_grand_47 : decode cX11_grand 47 = .ok (.aload_n 0, 1) := by decide +kernel
theorem dX11_grand_48 : decode cX11_grand 48 = .ok (.getfield 69, 3) := by decide +kernel
theorem dX11_grand_51 : decode cX11_grand 51 = .ok (.aload_n 0, 1) := by decide +kernel
theorem dX11_grand_52 : decode cX11_grand 52 = .ok (.getfield 41, 3) := by decide +kernel
theorem dX11_grand_55 : decode cX11_grand 55 = .ok (.invokevirtual 202, 3) := by decide +kernel
theorem dX11_grand_58 : decode cX11_grand 58 = .ok (.aload_n 0, 1) := by decide +kernel
theorem dX11_grand_59 : decode cX11_grand 59 = .ok (.getfield 53, 3) := by decide +kernel
theorem dX11_grand_62 : decode cX11_grand 62 = .ok (.iload_n 1, 1) := by decide +kernel
theorem dX11_grand_63 : decode cX11_grand 63 = .ok (.aload_n 0, 1) := by decide +kernel
theorem dX11_grand_64 : decode cX11_grand 64 = .ok (.getfield 69, 3) := by decide +kernel
theorem dX11_grand_67 : decode cX11_grand 67 = .ok (.iload_n 1, 1) := by decide +kernel
theorem dX11_grand_68 : decode cX11_grand 68 = .ok (.invokevirtual 230, 3) := by decide +kernel
theorem dX11_grand_71 : decode cX11_grand 71 = .ok (.aload_n 0, 1) := by decide +kernel
theorem dX11_grand_72 : decode cX11_grand 72 = .ok (.getfield 41, 3) := by decide +kernel
theorem dX11_grand_75 : decode cX11_grand 75 = .ok (.invokevirtual 172, 3) := by decide +kernel
theorem dX11_grand_78 : decode cX11_grand 78 = .ok (.pop, 1) := by decide +kernel
theorem dX11_grand_79 : decode cX11_grand 79 = .ok (.aload_n 0, 1) := by decide +kernel
theorem dX11_grand_80 : decode cX11_grand 80 = .ok (.getfield 53, 3) := by decide +kernel
theorem dX11_grand_83 : decode cX11_grand 83 = .ok (.iload_n 2, 1) := by decide +kernel
theorem dX11_grand_84 : decode cX11_grand 84 = .ok (.invokevirtual 233, 3) := by decide +kernel
theorem dX11_grand_87 : decode cX11_grand 87 = .ok (.ireturn, 1) := by decide +kernel
theorem dX11_must_0 : decode cX11_must 0 = .ok (.aload_n 0, 1) := by decide +kernel
theorem dX11_must_1 : decode cX11_must 1 = .ok (.getfield 10, 3) := by decide +kernel
theorem dX11_must_4 : decode cX11_must 4 = .ok (.iload_n 1, 1) := by decide +kernel
theorem dX11_must_5 : decode cX11_must 5 = .ok (.iload_n 2, 1) := by decide +kernel
theorem dX11_must_6 : decode cX11_must 6 = .ok (.invokevirtual 166, 3) := by decide +kernel
theorem dX11_must_9 : decode cX11_must 9 = .ok (.ifCond .eq 12, 3) := by decide +kernel
theorem dX11_must_12 : decode cX11_must 12 = .ok (.iload_n 3, 1) := by decide +kernel
theorem dX11_must_13 : decode cX11_must 13 = .ok (.ifCond .eq 10, 3) := by decide +kernel
theorem dX11_must_16 : decode cX11_must 16 = .ok (.iload_n 3, 1) := by decide +kernel
theorem dX11_must_17 : decode cX11_must 17 = .ok (.iconst 1, 1) := by decide +kernel
theorem dX11_must_18 : decode cX11_must 18 = .ok (.if_icmp .eq 5, 3) := by decide +kernel
theorem dX11_must_21 : decode cX11_must 21 = .ok (.iconst (-1), 1) := by decide +kernel
theorem dX11_must_22 : decode cX11_must 22 = .ok (.ireturn, 1) := by decide +kernel
theorem dX11_must_23 : decode cX11_must 23 = .ok (.aload_n 0, 1) := by decide +kernel
theorem dX11_must_24 : decode cX11_must 24 = .ok (.getfield 53, 3) := by decide +kernel
theorem dX11_must_27 : decode cX11_must 27 = .ok (.iload_n 1, 1) := by decide +kernel
theorem dX11_must_28 : decode cX11_must 28 = .ok (.iload_n 2, 1) := by decide +kernel
theorem dX11_must_29 : decode cX11_must 29 = .ok (.invokevirtual 169, 3) := by decide +kernel
theorem dX11_must_32 : decode cX11_must 32 = .ok (.ifCond .eq 18, 3) := by decide +kernel
theorem dX11_must_35 : decode cX11_must 35 = .ok (.aload_n 0, 1) := by decide +kernel
theorem dX11_must_36 : decode cX11_must 36 = .ok (.getfield 53, 3) := by decide +kernel
theorem dX11_must_39 : decode cX11_must 39 = .ok (.iload_n 3, 1) := by decide +kernel
theorem dX11_must_40 : decode cX11_must 40 = .ok (.aload_n 0, 1) := by decide +kernel
theorem dX11_must_41 : decode cX11_must 41 = .ok (.getfield 41, 3) := by decide +kernel
theorem dX11_must_44 : decode cX11_must 44 = .ok (.invokevirtual 236, 3) := by decide +kernel
theorem dX11_must_47 : decode cX11_must 47 = .ok (.goto 4, 3) := by decide +kernel
theorem dX11_must_50 : decode cX11_must 50 = .ok (.iconst (-1), 1) := by decide +kernel
theorem dX11_must_51 : decode cX11_must 51 = .ok (.ireturn, 1) := by decide +kernel
theorem dX11_judge_0 : decode cX11_judge 0 = .ok (.aload_n 0, 1) := by decide +kernel
theorem dX11_judge_1 : decode cX11_judge 1 = .ok (.getfield 19, 3) := by decide +kernel
theorem dX11_judge_4 : decode cX11_judge 4 = .ok (.getfield 142, 3) := by decide +kernel
theorem dX11_judge_7 : decode cX11_judge 7 = .ok (.aload_n 0, 1) := by decide +kernel
theorem dX11_judge_8 : decode cX11_judge 8 = .ok (.getfield 10, 3) := by decide +kernel
theorem dX11_judge_11 : decode cX11_judge 11 = .ok (.getfield 111, 3) := by decide +kernel
theorem dX11_judge_14 : decode cX11_judge 14 = .ok (.getfield 240, 3) := by decide +kernel
theorem dX11_judge_17 : decode cX11_judge 17 = .ok (.if_icmp .ge 6, 3) := by decide +kernel
theorem dX11_judge_20 : decode cX11_judge 20 = .ok (.ldc 176, 2) := by decide +kernel
theorem dX11_judge_22 : decode cX11_judge 22 = .ok (.ireturn, 1) := by decide +kernel
theorem dX11_judge_23 : decode cX11_judge 23 = .ok (.aload_n 0, 1) := by decide +kernel
theorem dX11_judge_24 : decode cX11_judge 24 = .ok (.getfield 62, 3) := by decide +kernel
theorem dX11_judge_27 : decode cX11_judge 27 = .ok (.aload_n 0, 1) := by decide +kernel
theorem dX11_judge_28 : decode cX11_judge 28 = .ok (.getfield 19, 3) := by decide +kernel
theorem dX11_judge_31 : decode cX11_judge 31 = .ok (.invokevirtual 241, 3) := by decide +kernel
theorem dX11_judge_34 : decode cX11_judge 34 = .ok (.istore_n 1, 1) := by decide +kernel
theorem dX11_judge_35 : decode cX11_judge 35 = .ok (.iload_n 1, 1) := by decide +kernel
theorem dX11_judge_36 : decode cX11_judge 36 = .ok (.ifCond .ne 17, 3) := by decide +kernel
theorem dX11_judge_39 : decode cX11_judge 39 = .ok (.aload_n 0, 1) := by decide +kernel
theorem dX11_judge_40 : decode cX11_judge 40 = .ok (.getfield 62, 3) := by decide +kernel
theorem dX11_judge_43 : decode cX11_judge 43 = .ok (.aload_n 0, 1) := by decide +kernel
theorem dX11_judge_44 : decode cX11_judge 44 = .ok (.getfield 41, 3) := by decide +kernel
theorem dX11_judge_47 : decode cX11_judge 47 = .ok (.invokevirtual 245, 3) := by decide +kernel
theorem dX11_judge_50 : decode cX11_judge 50 = .ok (.goto 4, 3) := by decide +kernel
theorem dX11_judge_53 : decode cX11_judge 53 = .ok (.iload_n 1, 1) := by decide +kernel
theorem dX11_judge_54 : decode cX11_judge 54 = .ok (.ireturn, 1) := by decide +kernel
theorem dX11_learnt_0 : decode cX11_learnt 0 = .ok (.iload_n 1, 1) := by decide +kernel
theorem dX11_learnt_1 : decode cX11_learnt 1 = .ok (.ifCond .lt 24, 3) := by decide +kernel
theorem dX11_learnt_4 : decode cX11_learnt 4 = .ok (.iload_n 2, 1) := by decide +kernel
theorem dX11_learnt_5 : decode cX11_learnt 5 = .ok (.iload_n 1, 1) := by decide +kernel
theorem dX11_learnt_6 : decode cX11_learnt 6 = .ok (.if_icmp .lt 19, 3) := by decide +kernel
theorem dX11_learnt_9 : decode cX11_learnt 9 = .ok (.iload_n 2, 1) := by decide +kernel
theorem dX11_learnt_10 : decode cX11_learnt 10 = .ok (.sipush 300, 3) := by decide +kernel
theorem dX11_learnt_13 : decode cX11_learnt 13 = .ok (.if_icmp .gt 12, 3) := by decide +kernel
theorem dX11_learnt_16 : decode cX11_learnt 16 = .ok (.iload_n 3, 1) := by decide +kernel
theorem dX11_learnt_17 : decode cX11_learnt 17 = .ok (.ifCond .lt 8, 3) := by decide +kernel
theorem dX11_learnt_20 : decode cX11_learnt 20 = .ok (.iload_n 3, 1) := by decide +kernel
theorem dX11_learnt_21 : decode cX11_learnt 21 = .ok (.iconst 3, 1) := by decide +kernel
theorem dX11_learnt_22 : decode cX11_learnt 22 = .ok (.if_icmp .le 6, 3) := by decide +kernel
theorem dX11_learnt_25 : decode cX11_learnt 25 = .ok (.ldc 176, 2) := by decide +kernel
theorem dX11_learnt_27 : decode cX11_learnt 27 = .ok (.ireturn, 1) := by decide +kernel
theorem dX11_learnt_28 : decode cX11_learnt 28 = .ok (.aload_n 0, 1) := by decide +kernel
theorem dX11_learnt_29 : decode cX11_learnt 29 = .ok (.getfield 45, 3) := by decide +kernel
theorem dX11_learnt_32 : decode cX11_learnt 32 = .ok (.invokevirtual 249, 3) := by decide +kernel
theorem dX11_learnt_35 : decode cX11_learnt 35 = .ok (.ifCond .eq 23, 3) := by decide +kernel
theorem dX11_learnt_38 : decode cX11_learnt 38 = .ok (.aload_n 0, 1) := by decide +kernel
theorem dX11_learnt_39 : decode cX11_learnt 39 = .ok (.getfield 19, 3) := by decide +kernel
theorem dX11_learnt_42 : decode cX11_learnt 42 = .ok (.getfield 142, 3) := by decide +kernel
theorem dX11_learnt_45 : decode cX11_learnt 45 = .ok (.aload_n 0, 1) := by decide +kernel
theorem dX11_learnt_46 : decode cX11_learnt 46 = .ok (.getfield 10, 3) := by decide +kernel
theorem dX11_learnt_49 : decode cX11_learnt 49 = .ok (.getfield 111, 3) := by decide +kernel
theorem dX11_learnt_52 : decode cX11_learnt 52 = .ok (.getfield 240, 3) := by decide +kernel
theorem dX11_learnt_55 : decode cX11_learnt 55 = .ok (.if_icmp .ge 6, 3) := by decide +kernel
theorem dX11_learnt_58 : decode cX11_learnt 58 = .ok (.ldc 176, 2) := by decide +kernel
theorem dX11_learnt_60 : decode cX11_learnt 60 = .ok (.ireturn, 1) := by decide +kernel
theorem dX11_learnt_61 : decode cX11_learnt 61 = .ok (.aload_n 0, 1) := by decide +kernel
theorem dX11_learnt_62 : decode cX11_learnt 62 = .ok (.getfield 62, 3) := by decide +kernel
theorem dX11_learnt_65 : decode cX11_learnt 65 = .ok (.aload_n 0, 1) := by decide +kernel
theorem dX11_learnt_66 : decode cX11_learnt 66 = .ok (.getfield 19, 3) := by decide +kernel
theorem dX11_learnt_69 : decode cX11_learnt 69 = .ok (.invokevirtual 241, 3) := by decide +kernel
theorem dX11_learnt_72 : decode cX11_learnt 72 = .ok (.ifCond .eq 6, 3) := by decide +kernel
theorem dX11_learnt_75 : decode cX11_learnt 75 = .ok (.ldc 252, 2) := by decide +kernel
theorem dX11_learnt_77 : decode cX11_learnt 77 = .ok (.ireturn, 1) := by decide +kernel
theorem dX11_learnt_78 : decode cX11_learnt 78 = .ok (.aload_n 0, 1) := by decide +kernel
theorem dX11_learnt_79 : decode cX11_learnt 79 = .ok (.getfield 62, 3) := by decide +kernel
theorem dX11_learnt_82 : decode cX11_learnt 82 = .ok (.aload_n 0, 1) := by decide +kernel
theorem dX11_learnt_83 : decode cX11_learnt 83 = .ok (.getfield 45, 3) := by decide +kernel
theorem dX11_learnt_86 : decode cX11_learnt 86 = .ok (.iload_n 1, 1) := by decide +kernel
theorem dX11_learnt_87 : decode cX11_learnt 87 = .ok (.iload_n 2, 1) := by decide +kernel
theorem dX11_learnt_88 : decode cX11_learnt 88 = .ok (.invokevirtual 253, 3) := by decide +kernel
theorem dX11_learnt_91 : decode cX11_learnt 91 = .ok (.istore 4, 2) := by decide +kernel
theorem dX11_learnt_93 : decode cX11_learnt 93 = .ok (.iload_n 3, 1) := by decide +kernel
theorem dX11_learnt_94 : decode cX11_learnt 94 = .ok (.tableswitch 50 0 2 #[26, 34, 42], 26) := by decide +kernel
theorem dX11_learnt_120 : decode cX11_learnt 120 = .ok (.aload_n 0, 1) := by decide +kernel
theorem dX11_learnt_121 : decode cX11_learnt 121 = .ok (.getfield 45, 3) := by decide +kernel
theorem dX11_learnt_124 : decode cX11_learnt 124 = .ok (.getfield 257, 3) := by decide +kernel
theorem dX11_learnt_127 : decode cX11_learnt 127 = .ok (.ireturn, 1) := by decide +kernel
theorem dX11_learnt_128 : decode cX11_learnt 128 = .ok (.aload_n 0, 1) := by decide +kernel
theorem dX11_learnt_129 : decode cX11_learnt 129 = .ok (.getfield 45, 3) := by decide +kernel
theorem dX11_learnt_132 : decode cX11_learnt 132 = .ok (.getfield 260, 3) := by decide +kernel
theorem dX11_learnt_135 : decode cX11_learnt 135 = .ok (.ireturn, 1) := by decide +kernel
theorem dX11_learnt_136 : decode cX11_learnt 136 = .ok (.aload_n 0, 1) := by decide +kernel
theorem dX11_learnt_137 : decode cX11_learnt 137 = .ok (.getfield 45, 3) := by decide +kernel
theorem dX11_learnt_140 : decode cX11_learnt 140 = .ok (.getfield 263, 3) := by decide +kernel
theorem dX11_learnt_143 : decode cX11_learnt 143 = .ok (.ireturn, 1) := by decide +kernel
theorem dX11_learnt_144 : decode cX11_learnt 144 = .ok (.iload 4, 2) := by decide +kernel
theorem dX11_learnt_146 : decode cX11_learnt 146 = .ok (.ireturn, 1) := by decide +kernel
theorem dX11_little_0 : decode cX11_little 0 = .ok (.iload_n 1, 1) := by decide +kernel
theorem dX11_little_1 : decode cX11_little 1 = .ok (.ifCond .lt 10, 3) := by decide +kernel
theorem dX11_little_4 : decode cX11_little 4 = .ok (.iload_n 1, 1) := by decide +kernel
theorem dX11_little_5 : decode cX11_little 5 = .ok (.sipush 1000, 3) := by decide +kernel
theorem dX11_little_8 : decode cX11_little 8 = .ok (.if_icmp .le 5, 3) := by decide +kernel
theorem dX11_little_11 : decode cX11_little 11 = .ok (.iconst (-1), 1) := by decide +kernel
theorem dX11_little_12 : decode cX11_little 12 = .ok (.ireturn, 1) := by decide +kernel
theorem dX11_little_13 : decode cX11_little 13 = .ok (.aload_n 0, 1) := by decide +kernel
theorem dX11_little_14 : decode cX11_little 14 = .ok (.getfield 69, 3) := by decide +kernel
theorem dX11_little_17 : decode cX11_little 17 = .ok (.aload_n 0, 1) := by decide +kernel
theorem dX11_little_18 : decode cX11_little 18 = .ok (.getfield 41, 3) := by decide +kernel
theorem dX11_little_21 : decode cX11_little 21 = .ok (.invokevirtual 202, 3) := by decide +kernel
theorem dX11_little_24 : decode cX11_little 24 = .ok (.iconst 0, 1) := by decide +kernel
theorem dX11_little_25 : decode cX11_little 25 = .ok (.istore_n 2, 1) := by decide +kernel
theorem dX11_little_26 : decode cX11_little 26 = .ok (.iconst 0, 1) := by decide +kernel
theorem dX11_little_27 : decode cX11_little 27 = .ok (.istore_n 3, 1) := by decide +kernel
theorem dX11_little_28 : decode cX11_little 28 = .ok (.iload_n 3, 1) := by decide +kernel
theorem dX11_little_29 : decode cX11_little 29 = .ok (.aload_n 0, 1) := by decide +kernel
theorem dX11_little_30 : decode cX11_little 30 = .ok (.getfield 10, 3) := by decide +kernel
theorem dX11_little_33 : decode cX11_little 33 = .ok (.getfield 111, 3) := by decide +kernel
theorem dX11_little_36 : decode cX11_little 36 = .ok (.getfield 240, 3) := by decide +kernel
theorem dX11_little_39 : decode cX11_little 39 = .ok (.if_icmp .ge 43, 3) := by decide +kernel
theorem dX11_little_42 : decode cX11_little 42 = .ok (.aload_n 0, 1) := by decide +kernel
theorem dX11_little_43 : decode cX11_little 43 = .ok (.getfield 69, 3) := by decide +kernel
theorem dX11_little_46 : decode cX11_little 46 = .ok (.iload_n 3, 1) := by decide +kernel
theorem dX11_little_47 : decode cX11_little 47 = .ok (.invokevirtual 206, 3) := by decide +kernel
theorem dX11_little_50 : decode cX11_little 50 = .ok (.istore 4, 2) := by decide +kernel
theorem dX11_little_52 : decode cX11_little 52 = .ok (.iload 4, 2) := by decide +kernel
theorem dX11_little_54 : decode cX11_little 54 = .ok (.bipush 6, 2) := by decide +kernel
theorem dX11_little_56 : decode cX11_little 56 = .ok (.if_icmp .eq 20, 3) := by decide +kernel
theorem dX11_little_59 : decode cX11_little 59 = .ok (.aload_n 0, 1) := by decide +kernel
theorem dX11_little_60 : decode cX11_little 60 = .ok (.iload_n 3, 1) := by decide +kernel
theorem dX11_little_61 : decode cX11_little 61 = .ok (.iload 4, 2) := by decide +kernel
theorem dX11_little_63 : decode cX11_little 63 = .ok (.invokevirtual 266, 3) := by decide +kernel
theorem dX11_little_66 : decode cX11_little 66 = .ok (.iload_n 1, 1) := by decide +kernel
theorem dX11_little_67 : decode cX11_little 67 = .ok (.if_icmp .ge 9, 3) := by decide +kernel
theorem dX11_little_70 : decode cX11_little 70 = .ok (.iload_n 2, 1) := by decide +kernel
theorem dX11_little_71 : decode cX11_little 71 = .ok (.iconst 1, 1) := by decide +kernel
theorem dX11_little_72 : decode cX11_little 72 = .ok (.iload_n 3, 1) := by decide +kernel
theorem dX11_little_73 : decode cX11_little 73 = .ok (.ishl, 1) := by decide +kernel
theorem dX11_little_74 : decode cX11_little 74 = .ok (.ior, 1) := by decide +kernel
theorem dX11_little_75 : decode cX11_little 75 = .ok (.istore_n 2, 1) := by decide +kernel
theorem dX11_little_76 : decode cX11_little 76 = .ok (.iinc 3 1, 3) := by decide +kernel
theorem dX11_little_79 : decode cX11_little 79 = .ok (.goto (-51), 3) := by decide +kernel
theorem dX11_little_82 : decode cX11_little 82 = .ok (.iload_n 2, 1) := by decide +kernel
theorem dX11_little_83 : decode cX11_little 83 = .ok (.ireturn, 1) := by decide +kernel
theorem dX11_fewerWithout_0 : decode cX11_fewerWithout 0 = .ok (.aload_n 0, 1) := by decide +kernel
theorem dX11_fewerWithout_1 : decode cX11_fewerWithout 1 = .ok (.getfield 69, 3) := by decide +kernel
theorem dX11_fewerWithout_4 : decode cX11_fewerWithout 4 = .ok (.iload_n 2, 1) := by decide +kernel
theorem dX11_fewerWithout_5 : decode cX11_fewerWithout 5 = .ok (.invokevirtual 230, 3) := by decide +kernel
theorem dX11_fewerWithout_8 : decode cX11_fewerWithout 8 = .ok (.istore_n 3, 1) := by decide +kernel
theorem dX11_fewerWithout_9 : decode cX11_fewerWithout 9 = .ok (.aload_n 0, 1) := by decide +kernel
theorem dX11_fewerWithout_10 : decode cX11_fewerWithout 10 = .ok (.getfield 53, 3) := by decide +kernel
theorem dX11_fewerWithout_13 : decode cX11_fewerWithout 13 = .ok (.iload_n 2, 1) := by decide +kernel
theorem dX11_fewerWithout_14 : decode cX11_fewerWithout 14 = .ok (.iload_n 3, 1) := by decide +kernel
theorem dX11_fewerWithout_15 : decode cX11_fewerWithout 15 = .ok (.aload_n 0, 1) := by decide +kernel
theorem dX11_fewerWithout_16 : decode cX11_fewerWithout 16 = .ok (.getfield 41, 3) := by decide +kernel
theorem dX11_fewerWithout_19 : decode cX11_fewerWithout 19 = .ok (.invokevirtual 172, 3) := by decide +kernel
theorem dX11_fewerWithout_22 : decode cX11_fewerWithout 22 = .ok (.istore 4, 2) := by decide +kernel
theorem dX11_fewerWithout_24 : decode cX11_fewerWithout 24 = .ok (.iload 4, 2) := by decide +kernel
theorem dX11_fewerWithout_26 : decode cX11_fewerWithout 26 = .ok (.aload_n 0, 1) := by decide +kernel
theorem dX11_fewerWithout_27 : decode cX11_fewerWithout 27 = .ok (.getfield 53, 3) := by decide +kernel
theorem dX11_fewerWithout_30 : decode cX11_fewerWithout 30 = .ok (.iload_n 2, 1) := by decide +kernel
theorem dX11_fewerWithout_31 : decode cX11_fewerWithout 31 = .ok (.iload_n 3, 1) := by decide +kernel
theorem dX11_fewerWithout_32 : decode cX11_fewerWithout 32 = .ok (.iconst 1, 1) := by decide +kernel
theorem dX11_fewerWithout_33 : decode cX11_fewerWithout 33 = .ok (.iload_n 1, 1) := by decide +kernel
theorem dX11_fewerWithout_34 : decode cX11_fewerWithout 34 = .ok (.ishl, 1) := by decide +kernel
theorem dX11_fewerWithout_35 : decode cX11_fewerWithout 35 = .ok (.iconst (-1), 1) := by decide +kernel
theorem dX11_fewerWithout_36 : decode cX11_fewerWithout 36 = .ok (.ixor, 1) := by decide +kernel
theorem dX11_fewerWithout_37 : decode cX11_fewerWithout 37 = .ok (.iand, 1) := by decide +kernel
theorem dX11_fewerWithout_38 : decode cX11_fewerWithout 38 = .ok (.aload_n 0, 1) := by decide +kernel
theorem dX11_fewerWithout_39 : decode cX11_fewerWithout 39 = .ok (.getfield 41, 3) := by decide +kernel
theorem dX11_fewerWithout_42 : decode cX11_fewerWithout 42 = .ok (.invokevirtual 172, 3) := by decide +kernel
theorem dX11_fewerWithout_45 : decode cX11_fewerWithout 45 = .ok (.isub, 1) := by decide +kernel
theorem dX11_fewerWithout_46 : decode cX11_fewerWithout 46 = .ok (.aload_n 0, 1) := by decide +kernel
theorem dX11_fewerWithout_47 : decode cX11_fewerWithout 47 = .ok (.getfield 10, 3) := by decide +kernel
theorem dX11_fewerWithout_50 : decode cX11_fewerWithout 50 = .ok (.getfield 131, 3) := by decide +kernel
theorem dX11_fewerWithout_53 : decode cX11_fewerWithout 53 = .ok (.iadd, 1) := by decide +kernel
theorem dX11_fewerWithout_54 : decode cX11_fewerWithout 54 = .ok (.ireturn, 1) := by decide +kernel
theorem dX11_check_0 : decode cX11_check 0 = .ok (.aload_n 0, 1) := by decide +kernel
theorem dX11_check_1 : decode cX11_check 1 = .ok (.getfield 10, 3) := by decide +kernel
theorem dX11_check_4 : decode cX11_check 4 = .ok (.getfield 111, 3) := by decide +kernel
theorem dX11_check_7 : decode cX11_check 7 = .ok (.getfield 240, 3) := by decide +kernel
theorem dX11_check_10 : decode cX11_check 10 = .ok (.istore_n 1, 1) := by decide +kernel
theorem dX11_check_11 : decode cX11_check 11 = .ok (.aload_n 0, 1) := by decide +kernel
theorem dX11_check_12 : decode cX11_check 12 = .ok (.getfield 19, 3) := by decide +kernel
theorem dX11_check_15 : decode cX11_check 15 = .ok (.getfield 142, 3) := by decide +kernel
theorem dX11_check_18 : decode cX11_check 18 = .ok (.iload_n 1, 1) := by decide +kernel
theorem dX11_check_19 : decode cX11_check 19 = .ok (.if_icmp .ge 6, 3) := by decide +kernel
theorem dX11_check_22 : decode cX11_check 22 = .ok (.bipush (-2), 2) := by decide +kernel
theorem dX11_check_24 : decode cX11_check 24 = .ok (.ireturn, 1) := by decide +kernel
theorem dX11_check_25 : decode cX11_check 25 = .ok (.aload_n 0, 1) := by decide +kernel
theorem dX11_check_26 : decode cX11_check 26 = .ok (.getfield 69, 3) := by decide +kernel
theorem dX11_check_29 : decode cX11_check 29 = .ok (.aload_n 0, 1) := by decide +kernel
theorem dX11_check_30 : decode cX11_check 30 = .ok (.getfield 41, 3) := by decide +kernel
theorem dX11_check_33 : decode cX11_check 33 = .ok (.invokevirtual 202, 3) := by decide +kernel
theorem dX11_check_36 : decode cX11_check 36 = .ok (.iconst (-1), 1) := by decide +kernel
theorem dX11_check_37 : decode cX11_check 37 = .ok (.istore_n 2, 1) := by decide +kernel
theorem dX11_check_38 : decode cX11_check 38 = .ok (.iload_n 1, 1) := by decide +kernel
theorem dX11_check_39 : decode cX11_check 39 = .ok (.iconst 1, 1) := by decide +kernel
theorem dX11_check_40 : decode cX11_check 40 = .ok (.isub, 1) := by decide +kernel
theorem dX11_check_41 : decode cX11_check 41 = .ok (.istore_n 3, 1) := by decide +kernel
theorem dX11_check_42 : decode cX11_check 42 = .ok (.iload_n 3, 1) := by decide +kernel
theorem dX11_check_43 : decode cX11_check 43 = .ok (.ifCond .lt 30, 3) := by decide +kernel
theorem dX11_check_46 : decode cX11_check 46 = .ok (.aload_n 0, 1) := by decide +kernel
theorem dX11_check_47 : decode cX11_check 47 = .ok (.getfield 19, 3) := by decide +kernel
theorem dX11_check_50 : decode cX11_check 50 = .ok (.iload_n 3, 1) := by decide +kernel
theorem dX11_check_51 : decode cX11_check 51 = .ok (.invokevirtual 269, 3) := by decide +kernel
theorem dX11_check_54 : decode cX11_check 54 = .ok (.aload_n 0, 1) := by decide +kernel
theorem dX11_check_55 : decode cX11_check 55 = .ok (.getfield 69, 3) := by decide +kernel
theorem dX11_check_58 : decode cX11_check 58 = .ok (.iload_n 3, 1) := by decide +kernel
theorem dX11_check_59 : decode cX11_check 59 = .ok (.invokevirtual 206, 3) := by decide +kernel
theorem dX11_check_62 : decode cX11_check 62 = .ok (.if_icmp .eq 5, 3) := by decide +kernel
theorem dX11_check_65 : decode cX11_check 65 = .ok (.iload_n 3, 1) := by decide +kernel
theorem dX11_check_66 : decode cX11_check 66 = .ok (.istore_n 2, 1) := by decide +kernel
theorem dX11_check_67 : decode cX11_check 67 = .ok (.iinc 3 (-1), 3) := by decide +kernel
theorem dX11_check_70 : decode cX11_check 70 = .ok (.goto (-28), 3) := by decide +kernel
theorem dX11_check_73 : decode cX11_check 73 = .ok (.aload_n 0, 1) := by decide +kernel
theorem dX11_check_74 : decode cX11_check 74 = .ok (.getfield 19, 3) := by decide +kernel
theorem dX11_check_77 : decode cX11_check 77 = .ok (.invokevirtual 149, 3) := by decide +kernel
theorem dX11_check_80 : decode cX11_check 80 = .ok (.iload_n 2, 1) := by decide +kernel
theorem dX11_check_81 : decode cX11_check 81 = .ok (.ireturn, 1) := by decide +kernel
theorem dX11_look_0 : decode cX11_look 0 = .ok (.aload_n 0, 1) := by decide +kernel
theorem dX11_look_1 : decode cX11_look 1 = .ok (.getfield 10, 3) := by decide +kernel
theorem dX11_look_4 : decode cX11_look 4 = .ok (.getfield 111, 3) := by decide +kernel
theorem dX11_look_7 : decode cX11_look 7 = .ok (.iload_n 1, 1) := by decide +kernel
theorem dX11_look_8 : decode cX11_look 8 = .ok (.invokevirtual 120, 3) := by decide +kernel
theorem dX11_look_11 : decode cX11_look 11 = .ok (.ifCond .ne 5, 3) := by decide +kernel
theorem dX11_look_14 : decode cX11_look 14 = .ok (.iconst (-1), 1) := by decide +kernel
theorem dX11_look_15 : decode cX11_look 15 = .ok (.ireturn, 1) := by decide +kernel
theorem dX11_look_16 : decode cX11_look 16 = .ok (.iload_n 2, 1) := by decide +kernel
theorem dX11_look_17 : decode cX11_look 17 = .ok (.tableswitch 117 0 5 #[39, 52, 65, 78, 91, 104], 39) := by decide +kernel
theorem dX11_look_56 : decode cX11_look 56 = .ok (.aload_n 0, 1) := by decide +kernel
theorem dX11_look_57 : decode cX11_look 57 = .ok (.getfield 10, 3) := by decide +kernel
theorem dX11_look_60 : decode cX11_look 60 = .ok (.getfield 111, 3) := by decide +kernel
theorem dX11_look_63 : decode cX11_look 63 = .ok (.getfield 272, 3) := by decide +kernel
theorem dX11_look_66 : decode cX11_look 66 = .ok (.iload_n 1, 1) := by decide +kernel
theorem dX11_look_67 : decode cX11_look 67 = .ok (.iaload, 1) := by decide +kernel
theorem dX11_look_68 : decode cX11_look 68 = .ok (.ireturn, 1) := by decide +kernel
theorem dX11_look_69 : decode cX11_look 69 = .ok (.aload_n 0, 1) := by decide +kernel
theorem dX11_look_70 : decode cX11_look 70 = .ok (.getfield 10, 3) := by decide +kernel
theorem dX11_look_73 : decode cX11_look 73 = .ok (.getfield 111, 3) := by decide +kernel
theorem dX11_look_76 : decode cX11_look 76 = .ok (.getfield 121, 3) := by decide +kernel
theorem dX11_look_79 : decode cX11_look 79 = .ok (.iload_n 1, 1) := by decide +kernel
theorem dX11_look_80 : decode cX11_look 80 = .ok (.iaload, 1) := by decide +kernel
theorem dX11_look_81 : decode cX11_look 81 = .ok (.ireturn, 1) := by decide +kernel
theorem dX11_look_82 : decode cX11_look 82 = .ok (.aload_n 0, 1) := by decide +kernel
theorem dX11_look_83 : decode cX11_look 83 = .ok (.getfield 10, 3) := by decide +kernel
theorem dX11_look_86 : decode cX11_look 86 = .ok (.getfield 111, 3) := by decide +kernel
theorem dX11_look_89 : decode cX11_look 89 = .ok (.getfield 275, 3) := by decide +kernel
theorem dX11_look_92 : decode cX11_look 92 = .ok (.iload_n 1, 1) := by decide +kernel
theorem dX11_look_93 : decode cX11_look 93 = .ok (.iaload, 1) := by decide +kernel
theorem dX11_look_94 : decode cX11_look 94 = .ok (.ireturn, 1) := by decide +kernel
theorem dX11_look_95 : decode cX11_look 95 = .ok (.aload_n 0, 1) := by decide +kernel
theorem dX11_look_96 : decode cX11_look 96 = .ok (.getfield 10, 3) := by decide +kernel
theorem dX11_look_99 : decode cX11_look 99 = .ok (.getfield 111, 3) := by decide +kernel
theorem dX11_look_102 : decode cX11_look 102 = .ok (.getfield 278, 3) := by decide +kernel
theorem dX11_look_105 : decode cX11_look 105 = .ok (.iload_n 1, 1) := by decide +kernel
theorem dX11_look_106 : decode cX11_look 106 = .ok (.iaload, 1) := by decide +kernel
theorem dX11_look_107 : decode cX11_look 107 = .ok (.ireturn, 1) := by decide +kernel
theorem dX11_look_108 : decode cX11_look 108 = .ok (.aload_n 0, 1) := by decide +kernel
theorem dX11_look_109 : decode cX11_look 109 = .ok (.getfield 10, 3) := by decide +kernel
theorem dX11_look_112 : decode cX11_look 112 = .ok (.getfield 111, 3) := by decide +kernel
theorem dX11_look_115 : decode cX11_look 115 = .ok (.getfield 281, 3) := by decide +kernel
theorem dX11_look_118 : decode cX11_look 118 = .ok (.iload_n 1, 1) := by decide +kernel
theorem dX11_look_119 : decode cX11_look 119 = .ok (.iaload, 1) := by decide +kernel
theorem dX11_look_120 : decode cX11_look 120 = .ok (.ireturn, 1) := by decide +kernel
theorem dX11_look_121 : decode cX11_look 121 = .ok (.aload_n 0, 1) := by decide +kernel
theorem dX11_look_122 : decode cX11_look 122 = .ok (.getfield 10, 3) := by decide +kernel
theorem dX11_look_125 : decode cX11_look 125 = .ok (.getfield 111, 3) := by decide +kernel
theorem dX11_look_128 : decode cX11_look 128 = .ok (.getfield 124, 3) := by decide +kernel
theorem dX11_look_131 : decode cX11_look 131 = .ok (.iload_n 1, 1) := by decide +kernel
theorem dX11_look_132 : decode cX11_look 132 = .ok (.iaload, 1) := by decide +kernel
theorem dX11_look_133 : decode cX11_look 133 = .ok (.ireturn, 1) := by decide +kernel
theorem dX11_look_134 : decode cX11_look 134 = .ok (.iconst (-1), 1) := by decide +kernel
theorem dX11_look_135 : decode cX11_look 135 = .ok (.ireturn, 1) := by decide +kernel
theorem dX11_count_0 : decode cX11_count 0 = .ok (.iload_n 1, 1) := by decide +kernel
theorem dX11_count_1 : decode cX11_count 1 = .ok (.bipush 10, 2) := by decide +kernel
theorem dX11_count_3 : decode cX11_count 3 = .ok (.if_icmp .lt 27, 3) := by decide +kernel
theorem dX11_count_6 : decode cX11_count 6 = .ok (.iload_n 1, 1) := by decide +kernel
theorem dX11_count_7 : decode cX11_count 7 = .ok (.bipush 10, 2) := by decide +kernel
theorem dX11_count_9 : decode cX11_count 9 = .ok (.aload_n 0, 1) := by decide +kernel
theorem dX11_count_10 : decode cX11_count 10 = .ok (.getfield 25, 3) := by decide +kernel
theorem dX11_count_13 : decode cX11_count 13 = .ok (.arraylength, 1) := by decide +kernel
theorem dX11_count_14 : decode cX11_count 14 = .ok (.iadd, 1) := by decide +kernel
theorem dX11_count_15 : decode cX11_count 15 = .ok (.if_icmp .ge 15, 3) := by decide +kernel
theorem dX11_count_18 : decode cX11_count 18 = .ok (.aload_n 0, 1) := by decide +kernel
theorem dX11_count_19 : decode cX11_count 19 = .ok (.getfield 41, 3) := by decide +kernel
theorem dX11_count_22 : decode cX11_count 22 = .ok (.iload_n 1, 1) := by decide +kernel
theorem dX11_count_23 : decode cX11_count 23 = .ok (.bipush 10, 2) := by decide +kernel
theorem dX11_count_25 : decode cX11_count 25 = .ok (.isub, 1) := by decide +kernel
theorem dX11_count_26 : decode cX11_count 26 = .ok (.invokevirtual 156, 3) := by decide +kernel
theorem dX11_count_29 : decode cX11_count 29 = .ok (.ireturn, 1) := by decide +kernel
theorem dX11_count_30 : decode cX11_count 30 = .ok (.iload_n 1, 1) := by decide +kernel
theorem dX11_count_31 : decode cX11_count 31 = .ok (.tableswitch 106 0 6 #[41, 52, 63, 74, 82, 90, 98], 41) := by decide +kernel
theorem dX11_count_72 : decode cX11_count 72 = .ok (.aload_n 0, 1) := by decide +kernel
theorem dX11_count_73 : decode cX11_count 73 = .ok (.getfield 10, 3) := by decide +kernel
theorem dX11_count_76 : decode cX11_count 76 = .ok (.getfield 74, 3) := by decide +kernel
theorem dX11_count_79 : decode cX11_count 79 = .ok (.getfield 284, 3) := by decide +kernel
theorem dX11_count_82 : decode cX11_count 82 = .ok (.ireturn, 1) := by decide +kernel
theorem dX11_count_83 : decode cX11_count 83 = .ok (.aload_n 0, 1) := by decide +kernel
theorem dX11_count_84 : decode cX11_count 84 = .ok (.getfield 10, 3) := by decide +kernel
theorem dX11_count_87 : decode cX11_count 87 = .ok (.getfield 91, 3) := by decide +kernel
theorem dX11_count_90 : decode cX11_count 90 = .ok (.getfield 285, 3) := by decide +kernel
theorem dX11_count_93 : decode cX11_count 93 = .ok (.ireturn, 1) := by decide +kernel
theorem dX11_count_94 : decode cX11_count 94 = .ok (.aload_n 0, 1) := by decide +kernel
theorem dX11_count_95 : decode cX11_count 95 = .ok (.getfield 10, 3) := by decide +kernel
theorem dX11_count_98 : decode cX11_count 98 = .ok (.getfield 111, 3) := by decide +kernel
theorem dX11_count_101 : decode cX11_count 101 = .ok (.getfield 240, 3) := by decide +kernel
theorem dX11_count_104 : decode cX11_count 104 = .ok (.ireturn, 1) := by decide +kernel
theorem dX11_count_105 : decode cX11_count 105 = .ok (.aload_n 0, 1) := by decide +kernel
theorem dX11_count_106 : decode cX11_count 106 = .ok (.getfield 19, 3) := by decide +kernel
theorem dX11_count_109 : decode cX11_count 109 = .ok (.getfield 142, 3) := by decide +kernel
theorem dX11_count_112 : decode cX11_count 112 = .ok (.ireturn, 1) := by decide +kernel
theorem dX11_count_113 : decode cX11_count 113 = .ok (.aload_n 0, 1) := by decide +kernel
theorem dX11_count_114 : decode cX11_count 114 = .ok (.getfield 41, 3) := by decide +kernel
theorem dX11_count_117 : decode cX11_count 117 = .ok (.getfield 257, 3) := by decide +kernel
theorem dX11_count_120 : decode cX11_count 120 = .ok (.ireturn, 1) := by decide +kernel
theorem dX11_count_121 : decode cX11_count 121 = .ok (.aload_n 0, 1) := by decide +kernel
theorem dX11_count_122 : decode cX11_count 122 = .ok (.getfield 41, 3) := by decide +kernel
theorem dX11_count_125 : decode cX11_count 125 = .ok (.getfield 260, 3) := by decide +kernel
theorem dX11_count_128 : decode cX11_count 128 = .ok (.ireturn, 1) := by decide +kernel
theorem dX11_count_129 : decode cX11_count 129 = .ok (.aload_n 0, 1) := by decide +kernel
theorem dX11_count_130 : decode cX11_count 130 = .ok (.getfield 41, 3) := by decide +kernel
theorem dX11_count_133 : decode cX11_count 133 = .ok (.getfield 263, 3) := by decide +kernel
theorem dX11_count_136 : decode cX11_count 136 = .ok (.ireturn, 1) := by decide +kernel
theorem dX11_count_137 : decode cX11_count 137 = .ok (.iconst (-1), 1) := by decide +kernel
theorem dX11_count_138 : decode cX11_count 138 = .ok (.ireturn, 1) := by decide +kernel
