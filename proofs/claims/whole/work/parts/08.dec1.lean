theorem dX5_init_0 : decode cX5_init 0 = .ok (.aload_n 0, 1) := by decide +kernel
theorem dX5_init_1 : decode cX5_init 1 = .ok (.invokespecial 3, 3) := by decide +kernel
theorem dX5_init_4 : decode cX5_init 4 = .ok (.aload_n 0, 1) := by decide +kernel
theorem dX5_init_5 : decode cX5_init 5 = .ok (.bipush 16, 2) := by decide +kernel
theorem dX5_init_7 : decode cX5_init 7 = .ok (.newarray .int, 2) := by decide +kernel
theorem dX5_init_9 : decode cX5_init 9 = .ok (.putfield 9, 3) := by decide +kernel
theorem dX5_init_12 : decode cX5_init 12 = .ok (.aload_n 0, 1) := by decide +kernel
theorem dX5_init_13 : decode cX5_init 13 = .ok (.bipush 16, 2) := by decide +kernel
theorem dX5_init_15 : decode cX5_init 15 = .ok (.newarray .int, 2) := by decide +kernel
theorem dX5_init_17 : decode cX5_init 17 = .ok (.putfield 15, 3) := by decide +kernel
theorem dX5_init_20 : decode cX5_init 20 = .ok (.return_, 1) := by decide +kernel
theorem dX5_has_0 : decode cX5_has 0 = .ok (.iload_n 1, 1) := by decide +kernel
theorem dX5_has_1 : decode cX5_has 1 = .ok (.ifCond .lt 25, 3) := by decide +kernel
theorem dX5_has_4 : decode cX5_has 4 = .ok (.iload_n 1, 1) := by decide +kernel
theorem dX5_has_5 : decode cX5_has 5 = .ok (.aload_n 0, 1) := by decide +kernel
theorem dX5_has_6 : decode cX5_has 6 = .ok (.getfield 18, 3) := by decide +kernel
theorem dX5_has_9 : decode cX5_has 9 = .ok (.if_icmp .ge 17, 3) := by decide +kernel
theorem dX5_has_12 : decode cX5_has 12 = .ok (.aload_n 0, 1) := by decide +kernel
theorem dX5_has_13 : decode cX5_has 13 = .ok (.getfield 9, 3) := by decide +kernel
theorem dX5_has_16 : decode cX5_has 16 = .ok (.iload_n 1, 1) := by decide +kernel
theorem dX5_has_17 : decode cX5_has 17 = .ok (.iaload, 1) := by decide +kernel
theorem dX5_has_18 : decode cX5_has 18 = .ok (.iload_n 2, 1) := by decide +kernel
theorem dX5_has_19 : decode cX5_has 19 = .ok (.if_icmp .ne 7, 3) := by decide +kernel
theorem dX5_has_22 : decode cX5_has 22 = .ok (.iconst 1, 1) := by decide +kernel
theorem dX5_has_23 : decode cX5_has 23 = .ok (.goto 4, 3) := by decide +kernel
theorem dX5_has_26 : decode cX5_has 26 = .ok (.iconst 0, 1) := by decide +kernel
theorem dX5_has_27 : decode cX5_has 27 = .ok (.ireturn, 1) := by decide +kernel
theorem dX5_add_0 : decode cX5_add 0 = .ok (.iload_n 1, 1) := by decide +kernel
theorem dX5_add_1 : decode cX5_add 1 = .ok (.ifCond .eq 8, 3) := by decide +kernel
theorem dX5_add_4 : decode cX5_add 4 = .ok (.iload_n 1, 1) := by decide +kernel
theorem dX5_add_5 : decode cX5_add 5 = .ok (.iconst 1, 1) := by decide +kernel
theorem dX5_add_6 : decode cX5_add 6 = .ok (.if_icmp .ne 23, 3) := by decide +kernel
theorem dX5_add_9 : decode cX5_add 9 = .ok (.iload_n 2, 1) := by decide +kernel
theorem dX5_add_10 : decode cX5_add 10 = .ok (.iconst 1, 1) := by decide +kernel
theorem dX5_add_11 : decode cX5_add 11 = .ok (.if_icmp .lt 18, 3) := by decide +kernel
theorem dX5_add_14 : decode cX5_add 14 = .ok (.iload_n 2, 1) := by decide +kernel
theorem dX5_add_15 : decode cX5_add 15 = .ok (.bipush 100, 2) := by decide +kernel
theorem dX5_add_17 : decode cX5_add 17 = .ok (.if_icmp .gt 12, 3) := by decide +kernel
theorem dX5_add_20 : decode cX5_add 20 = .ok (.aload_n 0, 1) := by decide +kernel
theorem dX5_add_21 : decode cX5_add 21 = .ok (.getfield 18, 3) := by decide +kernel
theorem dX5_add_24 : decode cX5_add 24 = .ok (.bipush 16, 2) := by decide +kernel
theorem dX5_add_26 : decode cX5_add 26 = .ok (.if_icmp .lt 5, 3) := by decide +kernel
theorem dX5_add_29 : decode cX5_add 29 = .ok (.iconst (-1), 1) := by decide +kernel
theorem dX5_add_30 : decode cX5_add 30 = .ok (.ireturn, 1) := by decide +kernel
theorem dX5_add_31 : decode cX5_add 31 = .ok (.aload_n 0, 1) := by decide +kernel
theorem dX5_add_32 : decode cX5_add 32 = .ok (.getfield 9, 3) := by decide +kernel
theorem dX5_add_35 : decode cX5_add 35 = .ok (.aload_n 0, 1) := by decide +kernel
theorem dX5_add_36 : decode cX5_add 36 = .ok (.getfield 18, 3) := by decide +kernel
theorem dX5_add_39 : decode cX5_add 39 = .ok (.iload_n 1, 1) := by decide +kernel
theorem dX5_add_40 : decode cX5_add 40 = .ok (.iastore, 1) := by decide +kernel
theorem dX5_add_41 : decode cX5_add 41 = .ok (.aload_n 0, 1) := by decide +kernel
theorem dX5_add_42 : decode cX5_add 42 = .ok (.getfield 15, 3) := by decide +kernel
theorem dX5_add_45 : decode cX5_add 45 = .ok (.aload_n 0, 1) := by decide +kernel
theorem dX5_add_46 : decode cX5_add 46 = .ok (.getfield 18, 3) := by decide +kernel
theorem dX5_add_49 : decode cX5_add 49 = .ok (.iload_n 2, 1) := by decide +kernel
theorem dX5_add_50 : decode cX5_add 50 = .ok (.iastore, 1) := by decide +kernel
theorem dX5_add_51 : decode cX5_add 51 = .ok (.aload_n 0, 1) := by decide +kernel
theorem dX5_add_52 : decode cX5_add 52 = .ok (.dup, 1) := by decide +kernel
theorem dX5_add_53 : decode cX5_add 53 = .ok (.getfield 18, 3) := by decide +kernel
theorem dX5_add_56 : decode cX5_add 56 = .ok (.iconst 1, 1) := by decide +kernel
theorem dX5_add_57 : decode cX5_add 57 = .ok (.iadd, 1) := by decide +kernel
theorem dX5_add_58 : decode cX5_add 58 = .ok (.putfield 18, 3) := by decide +kernel
theorem dX5_add_61 : decode cX5_add 61 = .ok (.aload_n 0, 1) := by decide +kernel
theorem dX5_add_62 : decode cX5_add 62 = .ok (.getfield 18, 3) := by decide +kernel
theorem dX5_add_65 : decode cX5_add 65 = .ok (.iconst 1, 1) := by decide +kernel
theorem dX5_add_66 : decode cX5_add 66 = .ok (.isub, 1) := by decide +kernel
theorem dX5_add_67 : decode cX5_add 67 = .ok (.ireturn, 1) := by decide +kernel
theorem dX1_init_0 : decode cX1_init 0 = .ok (.aload_n 0, 1) := by decide +kernel
theorem dX1_init_1 : decode cX1_init 1 = .ok (.invokespecial 3, 3) := by decide +kernel
theorem dX1_init_4 : decode cX1_init 4 = .ok (.aload_n 0, 1) := by decide +kernel
theorem dX1_init_5 : decode cX1_init 5 = .ok (.bipush 6, 2) := by decide +kernel
theorem dX1_init_7 : decode cX1_init 7 = .ok (.newarray .int, 2) := by decide +kernel
theorem dX1_init_9 : decode cX1_init 9 = .ok (.putfield 9, 3) := by decide +kernel
theorem dX1_init_12 : decode cX1_init 12 = .ok (.aload_n 0, 1) := by decide +kernel
theorem dX1_init_13 : decode cX1_init 13 = .ok (.bipush 6, 2) := by decide +kernel
theorem dX1_init_15 : decode cX1_init 15 = .ok (.newarray .int, 2) := by decide +kernel
theorem dX1_init_17 : decode cX1_init 17 = .ok (.putfield 15, 3) := by decide +kernel
theorem dX1_init_20 : decode cX1_init 20 = .ok (.aload_n 0, 1) := by decide +kernel
theorem dX1_init_21 : decode cX1_init 21 = .ok (.bipush 6, 2) := by decide +kernel
theorem dX1_init_23 : decode cX1_init 23 = .ok (.newarray .int, 2) := by decide +kernel
theorem dX1_init_25 : decode cX1_init 25 = .ok (.putfield 18, 3) := by decide +kernel
theorem dX1_init_28 : decode cX1_init 28 = .ok (.aload_n 0, 1) := by decide +kernel
theorem dX1_init_29 : decode cX1_init 29 = .ok (.bipush 6, 2) := by decide +kernel
theorem dX1_init_31 : decode cX1_init 31 = .ok (.newarray .int, 2) := by decide +kernel
theorem dX1_init_33 : decode cX1_init 33 = .ok (.putfield 21, 3) := by decide +kernel
theorem dX1_init_36 : decode cX1_init 36 = .ok (.aload_n 0, 1) := by decide +kernel
theorem dX1_init_37 : decode cX1_init 37 = .ok (.bipush 24, 2) := by decide +kernel
theorem dX1_init_39 : decode cX1_init 39 = .ok (.newarray .int, 2) := by decide +kernel
theorem dX1_init_41 : decode cX1_init 41 = .ok (.putfield 24, 3) := by decide +kernel
theorem dX1_init_44 : decode cX1_init 44 = .ok (.return_, 1) := by decide +kernel
theorem dX1_has_0 : decode cX1_has 0 = .ok (.iload_n 1, 1) := by decide +kernel
theorem dX1_has_1 : decode cX1_has 1 = .ok (.ifCond .lt 15, 3) := by decide +kernel
theorem dX1_has_4 : decode cX1_has 4 = .ok (.iload_n 1, 1) := by decide +kernel
theorem dX1_has_5 : decode cX1_has 5 = .ok (.aload_n 0, 1) := by decide +kernel
theorem dX1_has_6 : decode cX1_has 6 = .ok (.getfield 27, 3) := by decide +kernel
theorem dX1_has_9 : decode cX1_has 9 = .ok (.if_icmp .ge 7, 3) := by decide +kernel
theorem dX1_has_12 : decode cX1_has 12 = .ok (.iconst 1, 1) := by decide +kernel
theorem dX1_has_13 : decode cX1_has 13 = .ok (.goto 4, 3) := by decide +kernel
theorem dX1_has_16 : decode cX1_has 16 = .ok (.iconst 0, 1) := by decide +kernel
theorem dX1_has_17 : decode cX1_has 17 = .ok (.ireturn, 1) := by decide +kernel
theorem dX1_add_0 : decode cX1_add 0 = .ok (.iload_n 3, 1) := by decide +kernel
theorem dX1_add_1 : decode cX1_add 1 = .ok (.ifCond .lt 26, 3) := by decide +kernel
theorem dX1_add_4 : decode cX1_add 4 = .ok (.iload 4, 2) := by decide +kernel
theorem dX1_add_6 : decode cX1_add 6 = .ok (.iload_n 3, 1) := by decide +kernel
theorem dX1_add_7 : decode cX1_add 7 = .ok (.if_icmp .lt 20, 3) := by decide +kernel
theorem dX1_add_10 : decode cX1_add 10 = .ok (.iload 4, 2) := by decide +kernel
theorem dX1_add_12 : decode cX1_add 12 = .ok (.sipush 299, 3) := by decide +kernel
theorem dX1_add_15 : decode cX1_add 15 = .ok (.if_icmp .gt 12, 3) := by decide +kernel
theorem dX1_add_18 : decode cX1_add 18 = .ok (.aload_n 0, 1) := by decide +kernel
theorem dX1_add_19 : decode cX1_add 19 = .ok (.getfield 27, 3) := by decide +kernel
theorem dX1_add_22 : decode cX1_add 22 = .ok (.bipush 6, 2) := by decide +kernel
theorem dX1_add_24 : decode cX1_add 24 = .ok (.if_icmp .lt 5, 3) := by decide +kernel
theorem dX1_add_27 : decode cX1_add 27 = .ok (.iconst (-1), 1) := by decide +kernel
theorem dX1_add_28 : decode cX1_add 28 = .ok (.ireturn, 1) := by decide +kernel
theorem dX1_add_29 : decode cX1_add 29 = .ok (.aload_n 0, 1) := by decide +kernel
theorem dX1_add_30 : decode cX1_add 30 = .ok (.getfield 9, 3) := by decide +kernel
theorem dX1_add_33 : decode cX1_add 33 = .ok (.aload_n 0, 1) := by decide +kernel
theorem dX1_add_34 : decode cX1_add 34 = .ok (.getfield 27, 3) := by decide +kernel
theorem dX1_add_37 : decode cX1_add 37 = .ok (.iload_n 1, 1) := by decide +kernel
theorem dX1_add_38 : decode cX1_add 38 = .ok (.iastore, 1) := by decide +kernel
theorem dX1_add_39 : decode cX1_add 39 = .ok (.aload_n 0, 1) := by decide +kernel
theorem dX1_add_40 : decode cX1_add 40 = .ok (.getfield 15, 3) := by decide +kernel
theorem dX1_add_43 : decode cX1_add 43 = .ok (.aload_n 0, 1) := by decide +kernel
theorem dX1_add_44 : decode cX1_add 44 = .ok (.getfield 27, 3) := by decide +kernel
theorem dX1_add_47 : decode cX1_add 47 = .ok (.iload_n 2, 1) := by decide +kernel
theorem dX1_add_48 : decode cX1_add 48 = .ok (.iastore, 1) := by decide +kernel
theorem dX1_add_49 : decode cX1_add 49 = .ok (.aload_n 0, 1) := by decide +kernel
theorem dX1_add_50 : decode cX1_add 50 = .ok (.getfield 18, 3) := by decide +kernel
theorem dX1_add_53 : decode cX1_add 53 = .ok (.aload_n 0, 1) := by decide +kernel
theorem dX1_add_54 : decode cX1_add 54 = .ok (.getfield 27, 3) := by decide +kernel
theorem dX1_add_57 : decode cX1_add 57 = .ok (.iload_n 3, 1) := by decide +kernel
theorem dX1_add_58 : decode cX1_add 58 = .ok (.iastore, 1) := by decide +kernel
theorem dX1_add_59 : decode cX1_add 59 = .ok (.aload_n 0, 1) := by decide +kernel
theorem dX1_add_60 : decode cX1_add 60 = .ok (.getfield 21, 3) := by decide +kernel
theorem dX1_add_63 : decode cX1_add 63 = .ok (.aload_n 0, 1) := by decide +kernel
theorem dX1_add_64 : decode cX1_add 64 = .ok (.getfield 27, 3) := by decide +kernel
theorem dX1_add_67 : decode cX1_add 67 = .ok (.iload 4, 2) := by decide +kernel
theorem dX1_add_69 : decode cX1_add 69 = .ok (.iastore, 1) := by decide +kernel
theorem dX1_add_70 : decode cX1_add 70 = .ok (.iconst 0, 1) := by decide +kernel
theorem dX1_add_71 : decode cX1_add 71 = .ok (.istore 5, 2) := by decide +kernel
theorem dX1_add_73 : decode cX1_add 73 = .ok (.iload 5, 2) := by decide +kernel
theorem dX1_add_75 : decode cX1_add 75 = .ok (.iconst 4, 1) := by decide +kernel
theorem dX1_add_76 : decode cX1_add 76 = .ok (.if_icmp .ge 24, 3) := by decide +kernel
theorem dX1_add_79 : decode cX1_add 79 = .ok (.aload_n 0, 1) := by decide +kernel
theorem dX1_add_80 : decode cX1_add 80 = .ok (.getfield 24, 3) := by decide +kernel
theorem dX1_add_83 : decode cX1_add 83 = .ok (.aload_n 0, 1) := by decide +kernel
theorem dX1_add_84 : decode cX1_add 84 = .ok (.getfield 27, 3) := by decide +kernel
theorem dX1_add_87 : decode cX1_add 87 = .ok (.iconst 4, 1) := by decide +kernel
theorem dX1_add_88 : decode cX1_add 88 = .ok (.imul, 1) := by decide +kernel
theorem dX1_add_89 : decode cX1_add 89 = .ok (.iload 5, 2) := by decide +kernel
theorem dX1_add_91 : decode cX1_add 91 = .ok (.iadd, 1) := by decide +kernel
theorem dX1_add_92 : decode cX1_add 92 = .ok (.iconst (-1), 1) := by decide +kernel
theorem dX1_add_93 : decode cX1_add 93 = .ok (.iastore, 1) := by decide +kernel
theorem dX1_add_94 : decode cX1_add 94 = .ok (.iinc 5 1, 3) := by decide +kernel
theorem dX1_add_97 : decode cX1_add 97 = .ok (.goto (-24), 3) := by decide +kernel
theorem dX1_add_100 : decode cX1_add 100 = .ok (.aload_n 0, 1) := by decide +kernel
theorem dX1_add_101 : decode cX1_add 101 = .ok (.dup, 1) := by decide +kernel
theorem dX1_add_102 : decode cX1_add 102 = .ok (.getfield 27, 3) := by decide +kernel
theorem dX1_add_105 : decode cX1_add 105 = .ok (.iconst 1, 1) := by decide +kernel
theorem dX1_add_106 : decode cX1_add 106 = .ok (.iadd, 1) := by decide +kernel
theorem dX1_add_107 : decode cX1_add 107 = .ok (.putfield 27, 3) := by decide +kernel
theorem dX1_add_110 : decode cX1_add 110 = .ok (.aload_n 0, 1) := by decide +kernel
theorem dX1_add_111 : decode cX1_add 111 = .ok (.getfield 27, 3) := by decide +kernel
theorem dX1_add_114 : decode cX1_add 114 = .ok (.iconst 1, 1) := by decide +kernel
theorem dX1_add_115 : decode cX1_add 115 = .ok (.isub, 1) := by decide +kernel
theorem dX1_add_116 : decode cX1_add 116 = .ok (.ireturn, 1) := by decide +kernel
theorem dX1_tellParent_0 : decode cX1_tellParent 0 = .ok (.aload_n 0, 1) := by decide +kernel
theorem dX1_tellParent_1 : decode cX1_tellParent 1 = .ok (.iload_n 1, 1) := by decide +kernel
theorem dX1_tellParent_2 : decode cX1_tellParent 2 = .ok (.invokevirtual 31, 3) := by decide +kernel
theorem dX1_tellParent_5 : decode cX1_tellParent 5 = .ok (.ifCond .eq 23, 3) := by decide +kernel
theorem dX1_tellParent_8 : decode cX1_tellParent 8 = .ok (.iload_n 2, 1) := by decide +kernel
theorem dX1_tellParent_9 : decode cX1_tellParent 9 = .ok (.ifCond .lt 19, 3) := by decide +kernel
theorem dX1_tellParent_12 : decode cX1_tellParent 12 = .ok (.iload_n 2, 1) := by decide +kernel
theorem dX1_tellParent_13 : decode cX1_tellParent 13 = .ok (.iconst 4, 1) := by decide +kernel
theorem dX1_tellParent_14 : decode cX1_tellParent 14 = .ok (.if_icmp .ge 14, 3) := by decide +kernel
theorem dX1_tellParent_17 : decode cX1_tellParent 17 = .ok (.aload_n 0, 1) := by decide +kernel
theorem dX1_tellParent_18 : decode cX1_tellParent 18 = .ok (.getfield 24, 3) := by decide +kernel
theorem dX1_tellParent_21 : decode cX1_tellParent 21 = .ok (.iload_n 1, 1) := by decide +kernel
theorem dX1_tellParent_22 : decode cX1_tellParent 22 = .ok (.iconst 4, 1) := by decide +kernel
theorem dX1_tellParent_23 : decode cX1_tellParent 23 = .ok (.imul, 1) := by decide +kernel
theorem dX1_tellParent_24 : decode cX1_tellParent 24 = .ok (.iload_n 2, 1) := by decide +kernel
theorem dX1_tellParent_25 : decode cX1_tellParent 25 = .ok (.iadd, 1) := by decide +kernel
theorem dX1_tellParent_26 : decode cX1_tellParent 26 = .ok (.iload_n 3, 1) := by decide +kernel
theorem dX1_tellParent_27 : decode cX1_tellParent 27 = .ok (.iastore, 1) := by decide +kernel
theorem dX1_tellParent_28 : decode cX1_tellParent 28 = .ok (.return_, 1) := by decide +kernel
theorem dX1_parentOf_0 : decode cX1_parentOf 0 = .ok (.aload_n 0, 1) := by decide +kernel
theorem dX1_parentOf_1 : decode cX1_parentOf 1 = .ok (.iload_n 1, 1) := by decide +kernel
theorem dX1_parentOf_2 : decode cX1_parentOf 2 = .ok (.invokevirtual 31, 3) := by decide +kernel
theorem dX1_parentOf_5 : decode cX1_parentOf 5 = .ok (.ifCond .eq 25, 3) := by decide +kernel
theorem dX1_parentOf_8 : decode cX1_parentOf 8 = .ok (.iload_n 2, 1) := by decide +kernel
theorem dX1_parentOf_9 : decode cX1_parentOf 9 = .ok (.ifCond .lt 21, 3) := by decide +kernel
theorem dX1_parentOf_12 : decode cX1_parentOf 12 = .ok (.iload_n 2, 1) := by decide +kernel
theorem dX1_parentOf_13 : decode cX1_parentOf 13 = .ok (.iconst 4, 1) := by decide +kernel
theorem dX1_parentOf_14 : decode cX1_parentOf 14 = .ok (.if_icmp .ge 16, 3) := by decide +kernel
theorem dX1_parentOf_17 : decode cX1_parentOf 17 = .ok (.aload_n 0, 1) := by decide +kernel
theorem dX1_parentOf_18 : decode cX1_parentOf 18 = .ok (.getfield 24, 3) := by decide +kernel
theorem dX1_parentOf_21 : decode cX1_parentOf 21 = .ok (.iload_n 1, 1) := by decide +kernel
theorem dX1_parentOf_22 : decode cX1_parentOf 22 = .ok (.iconst 4, 1) := by decide +kernel
theorem dX1_parentOf_23 : decode cX1_parentOf 23 = .ok (.imul, 1) := by decide +kernel
theorem dX1_parentOf_24 : decode cX1_parentOf 24 = .ok (.iload_n 2, 1) := by decide +kernel
theorem dX1_parentOf_25 : decode cX1_parentOf 25 = .ok (.iadd, 1) := by decide +kernel
theorem dX1_parentOf_26 : decode cX1_parentOf 26 = .ok (.iaload, 1) := by decide +kernel
theorem dX1_parentOf_27 : decode cX1_parentOf 27 = .ok (.goto 4, 3) := by decide +kernel
theorem dX1_parentOf_30 : decode cX1_parentOf 30 = .ok (.iconst (-1), 1) := by decide +kernel
theorem dX1_parentOf_31 : decode cX1_parentOf 31 = .ok (.ireturn, 1) := by decide +kernel
theorem dX4_init_0 : decode cX4_init 0 = .ok (.aload_n 0, 1) := by decide +kernel
theorem dX4_init_1 : decode cX4_init 1 = .ok (.invokespecial 3, 3) := by decide +kernel
theorem dX4_init_4 : decode cX4_init 4 = .ok (.aload_n 0, 1) := by decide +kernel
theorem dX4_init_5 : decode cX4_init 5 = .ok (.bipush 10, 2) := by decide +kernel
theorem dX4_init_7 : decode cX4_init 7 = .ok (.newarray .int, 2) := by decide +kernel
theorem dX4_init_9 : decode cX4_init 9 = .ok (.putfield 9, 3) := by decide +kernel
theorem dX4_init_12 : decode cX4_init 12 = .ok (.aload_n 0, 1) := by decide +kernel
theorem dX4_init_13 : decode cX4_init 13 = .ok (.bipush 10, 2) := by decide +kernel
theorem dX4_init_15 : decode cX4_init 15 = .ok (.newarray .int, 2) := by decide +kernel
theorem dX4_init_17 : decode cX4_init 17 = .ok (.putfield 15, 3) := by decide +kernel
theorem dX4_init_20 : decode cX4_init 20 = .ok (.aload_n 0, 1) := by decide +kernel
theorem dX4_init_21 : decode cX4_init 21 = .ok (.bipush 10, 2) := by decide +kernel
theorem dX4_init_23 : decode cX4_init 23 = .ok (.newarray .int, 2) := by decide +kernel
theorem dX4_init_25 : decode cX4_init 25 = .ok (.putfield 18, 3) := by decide +kernel
theorem dX4_init_28 : decode cX4_init 28 = .ok (.aload_n 0, 1) := by decide +kernel
theorem dX4_init_29 : decode cX4_init 29 = .ok (.bipush 10, 2) := by decide +kernel
theorem dX4_init_31 : decode cX4_init 31 = .ok (.newarray .int, 2) := by decide +kernel
theorem dX4_init_33 : decode cX4_init 33 = .ok (.putfield 21, 3) := by decide +kernel
theorem dX4_init_36 : decode cX4_init 36 = .ok (.aload_n 0, 1) := by decide +kernel
theorem dX4_init_37 : decode cX4_init 37 = .ok (.bipush 10, 2) := by decide +kernel
theorem dX4_init_39 : decode cX4_init 39 = .ok (.newarray .int, 2) := by decide +kernel
theorem dX4_init_41 : decode cX4_init 41 = .ok (.putfield 24, 3) := by decide +kernel
theorem dX4_init_44 : decode cX4_init 44 = .ok (.aload_n 0, 1) := by decide +kernel
theorem dX4_init_45 : decode cX4_init 45 = .ok (.bipush 10, 2) := by decide +kernel
theorem dX4_init_47 : decode cX4_init 47 = .ok (.newarray .int, 2) := by decide +kernel
theorem dX4_init_49 : decode cX4_init 49 = .ok (.putfield 27, 3) := by decide +kernel
theorem dX4_init_52 : decode cX4_init 52 = .ok (.aload_n 0, 1) := by decide +kernel
theorem dX4_init_53 : decode cX4_init 53 = .ok (.bipush 10, 2) := by decide +kernel
theorem dX4_init_55 : decode cX4_init 55 = .ok (.newarray .int, 2) := by decide +kernel
theorem dX4_init_57 : decode cX4_init 57 = .ok (.putfield 30, 3) := by decide +kernel
theorem dX4_init_60 : decode cX4_init 60 = .ok (.return_, 1) := by decide +kernel
theorem dX4_has_0 : decode cX4_has 0 = .ok (.iload_n 1, 1) := by decide +kernel
theorem dX4_has_1 : decode cX4_has 1 = .ok (.ifCond .lt 15, 3) := by decide +kernel
theorem dX4_has_4 : decode cX4_has 4 = .ok (.iload_n 1, 1) := by decide +kernel
theorem dX4_has_5 : decode cX4_has 5 = .ok (.aload_n 0, 1) := by decide +kernel
theorem dX4_has_6 : decode cX4_has 6 = .ok (.getfield 33, 3) := by decide +kernel
theorem dX4_has_9 : decode cX4_has 9 = .ok (.if_icmp .ge 7, 3) := by decide +kernel
theorem dX4_has_12 : decode cX4_has 12 = .ok (.iconst 1, 1) := by decide +kernel
theorem dX4_has_13 : decode cX4_has 13 = .ok (.goto 4, 3) := by decide +kernel
theorem dX4_has_16 : decode cX4_has 16 = .ok (.iconst 0, 1) := by decide +kernel
theorem dX4_has_17 : decode cX4_has 17 = .ok (.ireturn, 1) := by decide +kernel
theorem dX4_add_0 : decode cX4_add 0 = .ok (.iload_n 2, 1) := by decide +kernel
theorem dX4_add_1 : decode cX4_add 1 = .ok (.ifCond .lt 19, 3) := by decide +kernel
theorem dX4_add_4 : decode cX4_add 4 = .ok (.iload_n 2, 1) := by decide +kernel
theorem dX4_add_5 : decode cX4_add 5 = .ok (.sipush 299, 3) := by decide +kernel
theorem dX4_add_8 : decode cX4_add 8 = .ok (.if_icmp .gt 12, 3) := by decide +kernel
theorem dX4_add_11 : decode cX4_add 11 = .ok (.aload_n 0, 1) := by decide +kernel
theorem dX4_add_12 : decode cX4_add 12 = .ok (.getfield 33, 3) := by decide +kernel
theorem dX4_add_15 : decode cX4_add 15 = .ok (.bipush 10, 2) := by decide +kernel
theorem dX4_add_17 : decode cX4_add 17 = .ok (.if_icmp .lt 5, 3) := by decide +kernel
theorem dX4_add_20 : decode cX4_add 20 = .ok (.iconst (-1), 1) := by decide +kernel
theorem dX4_add_21 : decode cX4_add 21 = .ok (.ireturn, 1) := by decide +kernel
theorem dX4_add_22 : decode cX4_add 22 = .ok (.aload_n 0, 1) := by decide +kernel
theorem dX4_add_23 : decode cX4_add 23 = .ok (.getfield 9, 3) := by decide +kernel
theorem dX4_add_26 : decode cX4_add 26 = .ok (.aload_n 0, 1) := by decide +kernel
theorem dX4_add_27 : decode cX4_add 27 = .ok (.getfield 33, 3) := by decide +kernel
theorem dX4_add_30 : decode cX4_add 30 = .ok (.iload_n 1, 1) := by decide +kernel
theorem dX4_add_31 : decode cX4_add 31 = .ok (.iastore, 1) := by decide +kernel
theorem dX4_add_32 : decode cX4_add 32 = .ok (.aload_n 0, 1) := by decide +kernel
theorem dX4_add_33 : decode cX4_add 33 = .ok (.getfield 15, 3) := by decide +kernel
theorem dX4_add_36 : decode cX4_add 36 = .ok (.aload_n 0, 1) := by decide +kernel
theorem dX4_add_37 : decode cX4_add 37 = .ok (.getfield 33, 3) := by decide +kernel
theorem dX4_add_40 : decode cX4_add 40 = .ok (.iload_n 2, 1) := by decide +kernel
theorem dX4_add_41 : decode cX4_add 41 = .ok (.iastore, 1) := by decide +kernel
theorem dX4_add_42 : decode cX4_add 42 = .ok (.aload_n 0, 1) := by decide +kernel
theorem dX4_add_43 : decode cX4_add 43 = .ok (.getfield 18, 3) := by decide +kernel
theorem dX4_add_46 : decode cX4_add 46 = .ok (.aload_n 0, 1) := by decide +kernel
theorem dX4_add_47 : decode cX4_add 47 = .ok (.getfield 33, 3) := by decide +kernel
theorem dX4_add_50 : decode cX4_add 50 = .ok (.iload_n 3, 1) := by decide +kernel
theorem dX4_add_51 : decode cX4_add 51 = .ok (.iastore, 1) := by decide +kernel
theorem dX4_add_52 : decode cX4_add 52 = .ok (.aload_n 0, 1) := by decide +kernel
theorem dX4_add_53 : decode cX4_add 53 = .ok (.getfield 21, 3) := by decide +kernel
theorem dX4_add_56 : decode cX4_add 56 = .ok (.aload_n 0, 1) := by decide +kernel
theorem dX4_add_57 : decode cX4_add 57 = .ok (.getfield 33, 3) := by decide +kernel
theorem dX4_add_60 : decode cX4_add 60 = .ok (.iload 4, 2) := by decide +kernel
theorem dX4_add_62 : decode cX4_add 62 = .ok (.iastore, 1) := by decide +kernel
theorem dX4_add_63 : decode cX4_add 63 = .ok (.aload_n 0, 1) := by decide +kernel
theorem dX4_add_64 : decode cX4_add 64 = .ok (.getfield 24, 3) := by decide +kernel
theorem dX4_add_67 : decode cX4_add 67 = .ok (.aload_n 0, 1) := by decide +kernel
theorem dX4_add_68 : decode cX4_add 68 = .ok (.getfield 33, 3) := by decide +kernel
theorem dX4_add_71 : decode cX4_add 71 = .ok (.iload 5, 2) := by decide +kernel
theorem dX4_add_73 : decode cX4_add 73 = .ok (.iastore, 1) := by decide +kernel
theorem dX4_add_74 : decode cX4_add 74 = .ok (.aload_n 0, 1) := by decide +kernel
theorem dX4_add_75 : decode cX4_add 75 = .ok (.getfield 27, 3) := by decide +kernel
theorem dX4_add_78 : decode cX4_add 78 = .ok (.aload_n 0, 1) := by decide +kernel
theorem dX4_add_79 : decode cX4_add 79 = .ok (.getfield 33, 3) := by decide +kernel
theorem dX4_add_82 : decode cX4_add 82 = .ok (.iconst (-1), 1) := by decide +kernel
theorem dX4_add_83 : decode cX4_add 83 = .ok (.iastore, 1) := by decide +kernel
theorem dX4_add_84 : decode cX4_add 84 = .ok (.aload_n 0, 1) := by decide +kernel
theorem dX4_add_85 : decode cX4_add 85 = .ok (.aload_n 0, 1) := by decide +kernel
theorem dX4_add_86 : decode cX4_add 86 = .ok (.getfield 33, 3) := by decide +kernel
theorem dX4_add_89 : decode cX4_add 89 = .ok (.invokevirtual 37, 3) := by decide +kernel
theorem dX4_add_92 : decode cX4_add 92 = .ok (.aload_n 0, 1) := by decide +kernel
theorem dX4_add_93 : decode cX4_add 93 = .ok (.dup, 1) := by decide +kernel
theorem dX4_add_94 : decode cX4_add 94 = .ok (.getfield 33, 3) := by decide +kernel
theorem dX4_add_97 : decode cX4_add 97 = .ok (.iconst 1, 1) := by decide +kernel
theorem dX4_add_98 : decode cX4_add 98 = .ok (.iadd, 1) := by decide +kernel
theorem dX4_add_99 : decode cX4_add 99 = .ok (.putfield 33, 3) := by decide +kernel
theorem dX4_add_102 : decode cX4_add 102 = .ok (.aload_n 0, 1) := by decide +kernel
theorem dX4_add_103 : decode cX4_add 103 = .ok (.getfield 33, 3) := by decide +kernel
theorem dX4_add_106 : decode cX4_add 106 = .ok (.iconst 1, 1) := by decide +kernel
theorem dX4_add_107 : decode cX4_add 107 = .ok (.isub, 1) := by decide +kernel
theorem dX4_add_108 : decode cX4_add 108 = .ok (.ireturn, 1) := by decide +kernel
theorem dX4_putInOrder_0 : decode cX4_putInOrder 0 = .ok (.iload_n 1, 1) := by decide +kernel
theorem dX4_putInOrder_1 : decode cX4_putInOrder 1 = .ok (.istore_n 2, 1) := by decide +kernel
theorem dX4_putInOrder_2 : decode cX4_putInOrder 2 = .ok (.iload_n 2, 1) := by decide +kernel
theorem dX4_putInOrder_3 : decode cX4_putInOrder 3 = .ok (.ifCond .le 45, 3) := by decide +kernel
theorem dX4_putInOrder_6 : decode cX4_putInOrder 6 = .ok (.aload_n 0, 1) := by decide +kernel
theorem dX4_putInOrder_7 : decode cX4_putInOrder 7 = .ok (.getfield 15, 3) := by decide +kernel
theorem dX4_putInOrder_10 : decode cX4_putInOrder 10 = .ok (.aload_n 0, 1) := by decide +kernel
theorem dX4_putInOrder_11 : decode cX4_putInOrder 11 = .ok (.getfield 30, 3) := by decide +kernel
theorem dX4_putInOrder_14 : decode cX4_putInOrder 14 = .ok (.iload_n 2, 1) := by decide +kernel
theorem dX4_putInOrder_15 : decode cX4_putInOrder 15 = .ok (.iconst 1, 1) := by decide +kernel
theorem dX4_putInOrder_16 : decode cX4_putInOrder 16 = .ok (.isub, 1) := by decide +kernel
theorem dX4_putInOrder_17 : decode cX4_putInOrder 17 = .ok (.iaload, 1) := by decide +kernel
theorem dX4_putInOrder_18 : decode cX4_putInOrder 18 = .ok (.iaload, 1) := by decide +kernel
theorem dX4_putInOrder_19 : decode cX4_putInOrder 19 = .ok (.aload_n 0, 1) := by decide +kernel
theorem dX4_putInOrder_20 : decode cX4_putInOrder 20 = .ok (.getfield 15, 3) := by decide +kernel
theorem dX4_putInOrder_23 : decode cX4_putInOrder 23 = .ok (.iload_n 1, 1) := by decide +kernel
theorem dX4_putInOrder_24 : decode cX4_putInOrder 24 = .ok (.iaload, 1) := by decide +kernel
theorem dX4_putInOrder_25 : decode cX4_putInOrder 25 = .ok (.if_icmp .le 23, 3) := by decide +kernel
theorem dX4_putInOrder_28 : decode cX4_putInOrder 28 = .ok (.aload_n 0, 1) := by decide +kernel
theorem dX4_putInOrder_29 : decode cX4_putInOrder 29 = .ok (.getfield 30, 3) := by decide +kernel
theorem dX4_putInOrder_32 : decode cX4_putInOrder 32 = .ok (.iload_n 2, 1) := by decide +kernel
theorem dX4_putInOrder_33 : decode cX4_putInOrder 33 = .ok (.aload_n 0, 1) := by decide +kernel
theorem dX4_putInOrder_34 : decode cX4_putInOrder 34 = .ok (.getfield 30, 3) := by decide +kernel
theorem dX4_putInOrder_37 : decode cX4_putInOrder 37 = .ok (.iload_n 2, 1) := by decide +kernel
theorem dX4_putInOrder_38 : decode cX4_putInOrder 38 = .ok (.iconst 1, 1) := by decide +kernel
theorem dX4_putInOrder_39 : decode cX4_putInOrder 39 = .ok (.isub, 1) := by decide +kernel
theorem dX4_putInOrder_40 : decode cX4_putInOrder 40 = .ok (.iaload, 1) := by decide +kernel
theorem dX4_putInOrder_41 : decode cX4_putInOrder 41 = .ok (.iastore, 1) := by decide +kernel
theorem dX4_putInOrder_42 : decode cX4_putInOrder 42 = .ok (.iinc 2 (-1), 3) := by decide +kernel
theorem dX4_putInOrder_45 : decode cX4_putInOrder 45 = .ok (.goto (-43), 3) := by decide +kernel
theorem dX4_putInOrder_48 : decode cX4_putInOrder 48 = .ok (.aload_n 0, 1) := by decide +kernel
theorem dX4_putInOrder_49 : decode cX4_putInOrder 49 = .ok (.getfield 30, 3) := by decide +kernel
theorem dX4_putInOrder_52 : decode cX4_putInOrder 52 = .ok (.iload_n 2, 1) := by decide +kernel
theorem dX4_putInOrder_53 : decode cX4_putInOrder 53 = .ok (.iload_n 1, 1) := by decide +kernel
theorem dX4_putInOrder_54 : decode cX4_putInOrder 54 = .ok (.iastore, 1) := by decide +kernel
theorem dX4_putInOrder_55 : decode cX4_putInOrder 55 = .ok (.return_, 1) := by decide +kernel
theorem dX4_goneBy_0 : decode cX4_goneBy 0 = .ok (.aload_n 0, 1) := by decide +kernel
theorem dX4_goneBy_1 : decode cX4_goneBy 1 = .ok (.getfield 27, 3) := by decide +kernel
theorem dX4_goneBy_4 : decode cX4_goneBy 4 = .ok (.iload_n 1, 1) := by decide +kernel
theorem dX4_goneBy_5 : decode cX4_goneBy 5 = .ok (.iaload, 1) := by decide +kernel
theorem dX4_goneBy_6 : decode cX4_goneBy 6 = .ok (.iconst (-1), 1) := by decide +kernel
theorem dX4_goneBy_7 : decode cX4_goneBy 7 = .ok (.if_icmp .eq 17, 3) := by decide +kernel
theorem dX4_goneBy_10 : decode cX4_goneBy 10 = .ok (.aload_n 0, 1) := by decide +kernel
theorem dX4_goneBy_11 : decode cX4_goneBy 11 = .ok (.getfield 27, 3) := by decide +kernel
theorem dX4_goneBy_14 : decode cX4_goneBy 14 = .ok (.iload_n 1, 1) := by decide +kernel
theorem dX4_goneBy_15 : decode cX4_goneBy 15 = .ok (.iaload, 1) := by decide +kernel
theorem dX4_goneBy_16 : decode cX4_goneBy 16 = .ok (.iload_n 2, 1) := by decide +kernel
theorem dX4_goneBy_17 : decode cX4_goneBy 17 = .ok (.if_icmp .gt 7, 3) := by decide +kernel
theorem dX4_goneBy_20 : decode cX4_goneBy 20 = .ok (.iconst 1, 1) := by decide +kernel
theorem dX4_goneBy_21 : decode cX4_goneBy 21 = .ok (.goto 4, 3) := by decide +kernel
theorem dX4_goneBy_24 : decode cX4_goneBy 24 = .ok (.iconst 0, 1) := by decide +kernel
theorem dX4_goneBy_25 : decode cX4_goneBy 25 = .ok (.ireturn, 1) := by decide +kernel
theorem dX4_changesAt_0 : decode cX4_changesAt 0 = .ok (.iconst 0, 1) := by decide +kernel
theorem dX4_changesAt_1 : decode cX4_changesAt 1 = .ok (.istore_n 2, 1) := by decide +kernel
theorem dX4_changesAt_2 : decode cX4_changesAt 2 = .ok (.iload_n 2, 1) := by decide +kernel
theorem dX4_changesAt_3 : decode cX4_changesAt 3 = .ok (.aload_n 0, 1) := by decide +kernel
theorem dX4_changesAt_4 : decode cX4_changesAt 4 = .ok (.getfield 33, 3) := by decide +kernel
theorem dX4_changesAt_7 : decode cX4_changesAt 7 = .ok (.if_icmp .ge 23, 3) := by decide +kernel
theorem dX4_changesAt_10 : decode cX4_changesAt 10 = .ok (.aload_n 0, 1) := by decide +kernel
theorem dX4_changesAt_11 : decode cX4_changesAt 11 = .ok (.getfield 15, 3) := by decide +kernel
theorem dX4_changesAt_14 : decode cX4_changesAt 14 = .ok (.iload_n 2, 1) := by decide +kernel
theorem dX4_changesAt_15 : decode cX4_changesAt 15 = .ok (.iaload, 1) := by decide +kernel
theorem dX4_changesAt_16 : decode cX4_changesAt 16 = .ok (.iload_n 1, 1) := by decide +kernel
theorem dX4_changesAt_17 : decode cX4_changesAt 17 = .ok (.iconst 1, 1) := by decide +kernel
theorem dX4_changesAt_18 : decode cX4_changesAt 18 = .ok (.isub, 1) := by decide +kernel
theorem dX4_changesAt_19 : decode cX4_changesAt 19 = .ok (.if_icmp .ne 5, 3) := by decide +kernel
theorem dX4_changesAt_22 : decode cX4_changesAt 22 = .ok (.iconst 1, 1) := by decide +kernel
theorem dX4_changesAt_23 : decode cX4_changesAt 23 = .ok (.ireturn, 1) := by decide +kernel
theorem dX4_changesAt_24 : decode cX4_changesAt 24 = .ok (.iinc 2 1, 3) := by decide +kernel
theorem dX4_changesAt_27 : decode cX4_changesAt 27 = .ok (.goto (-25), 3) := by decide +kernel
theorem dX4_changesAt_30 : decode cX4_changesAt 30 = .ok (.iconst 0, 1) := by decide +kernel
theorem dX4_changesAt_31 : decode cX4_changesAt 31 = .ok (.ireturn, 1) := by decide +kernel
theorem dX8_init_0 : decode cX8_init 0 = .ok (.aload_n 0, 1) := by decide +kernel
theorem dX8_init_1 : decode cX8_init 1 = .ok (.invokespecial 3, 3) := by decide +kernel
theorem dX8_init_4 : decode cX8_init 4 = .ok (.aload_n 0, 1) := by decide +kernel
theorem dX8_init_5 : decode cX8_init 5 = .ok (.sipush 200, 3) := by decide +kernel
theorem dX8_init_8 : decode cX8_init 8 = .ok (.newarray .int, 2) := by decide +kernel
theorem dX8_init_10 : decode cX8_init 10 = .ok (.putfield 11, 3) := by decide +kernel
theorem dX8_init_13 : decode cX8_init 13 = .ok (.return_, 1) := by decide +kernel
theorem dX8_hasRoom_0 : decode cX8_hasRoom 0 = .ok (.aload_n 0, 1) := by decide +kernel
theorem dX8_hasRoom_1 : decode cX8_hasRoom 1 = .ok (.getfield 15, 3) := by decide +kernel
theorem dX8_hasRoom_4 : decode cX8_hasRoom 4 = .ok (.bipush 20, 2) := by decide +kernel
theorem dX8_hasRoom_6 : decode cX8_hasRoom 6 = .ok (.iadd, 1) := by decide +kernel
theorem dX8_hasRoom_7 : decode cX8_hasRoom 7 = .ok (.sipush 200, 3) := by decide +kernel
theorem dX8_hasRoom_10 : decode cX8_hasRoom 10 = .ok (.if_icmp .gt 7, 3) := by decide +kernel
theorem dX8_hasRoom_13 : decode cX8_hasRoom 13 = .ok (.iconst 1, 1) := by decide +kernel
theorem dX8_hasRoom_14 : decode cX8_hasRoom 14 = .ok (.goto 4, 3) := by decide +kernel
theorem dX8_hasRoom_17 : decode cX8_hasRoom 17 = .ok (.iconst 0, 1) := by decide +kernel
theorem dX8_hasRoom_18 : decode cX8_hasRoom 18 = .ok (.ireturn, 1) := by decide +kernel
theorem dX8_append_0 : decode cX8_append 0 = .ok (.bipush 24, 2) := by decide +kernel
theorem dX8_append_2 : decode cX8_append 2 = .ok (.istore_n 2, 1) := by decide +kernel
theorem dX8_append_3 : decode cX8_append 3 = .ok (.iload_n 2, 1) := by decide +kernel
theorem dX8_append_4 : decode cX8_append 4 = .ok (.ifCond .lt 45, 3) := by decide +kernel
theorem dX8_append_7 : decode cX8_append 7 = .ok (.aload_n 0, 1) := by decide +kernel
theorem dX8_append_8 : decode cX8_append 8 = .ok (.getfield 15, 3) := by decide +kernel
theorem dX8_append_11 : decode cX8_append 11 = .ok (.sipush 200, 3) := by decide +kernel
theorem dX8_append_14 : decode cX8_append 14 = .ok (.if_icmp .ge 35, 3) := by decide +kernel
theorem dX8_append_17 : decode cX8_append 17 = .ok (.aload_n 0, 1) := by decide +kernel
theorem dX8_append_18 : decode cX8_append 18 = .ok (.getfield 11, 3) := by decide +kernel
theorem dX8_append_21 : decode cX8_append 21 = .ok (.aload_n 0, 1) := by decide +kernel
theorem dX8_append_22 : decode cX8_append 22 = .ok (.getfield 15, 3) := by decide +kernel
theorem dX8_append_25 : decode cX8_append 25 = .ok (.iload_n 1, 1) := by decide +kernel
theorem dX8_append_26 : decode cX8_append 26 = .ok (.iload_n 2, 1) := by decide +kernel
theorem dX8_append_27 : decode cX8_append 27 = .ok (.ishr, 1) := by decide +kernel
theorem dX8_append_28 : decode cX8_append 28 = .ok (.sipush 255, 3) := by decide +kernel
theorem dX8_append_31 : decode cX8_append 31 = .ok (.iand, 1) := by decide +kernel
theorem dX8_append_32 : decode cX8_append 32 = .ok (.iastore, 1) := by decide +kernel
theorem dX8_append_33 : decode cX8_append 33 = .ok (.aload_n 0, 1) := by decide +kernel
theorem dX8_append_34 : decode cX8_append 34 = .ok (.dup, 1) := by decide +kernel
theorem dX8_append_35 : decode cX8_append 35 = .ok (.getfield 15, 3) := by decide +kernel
theorem dX8_append_38 : decode cX8_append 38 = .ok (.iconst 1, 1) := by decide +kernel
theorem dX8_append_39 : decode cX8_append 39 = .ok (.iadd, 1) := by decide +kernel
theorem dX8_append_40 : decode cX8_append 40 = .ok (.putfield 15, 3) := by decide +kernel
theorem dX8_append_43 : decode cX8_append 43 = .ok (.iinc 2 (-8), 3) := by decide +kernel
theorem dX8_append_46 : decode cX8_append 46 = .ok (.goto (-43), 3) := by decide +kernel
theorem dX8_append_49 : decode cX8_append 49 = .ok (.return_, 1) := by decide +kernel
theorem dX8_at_0 : decode cX8_at 0 = .ok (.iload_n 1, 1) := by decide +kernel
theorem dX8_at_1 : decode cX8_at 1 = .ok (.ifCond .lt 20, 3) := by decide +kernel
theorem dX8_at_4 : decode cX8_at 4 = .ok (.iload_n 1, 1) := by decide +kernel
theorem dX8_at_5 : decode cX8_at 5 = .ok (.aload_n 0, 1) := by decide +kernel
theorem dX8_at_6 : decode cX8_at 6 = .ok (.getfield 15, 3) := by decide +kernel
theorem dX8_at_9 : decode cX8_at 9 = .ok (.if_icmp .ge 12, 3) := by decide +kernel
theorem dX8_at_12 : decode cX8_at 12 = .ok (.aload_n 0, 1) := by decide +kernel
theorem dX8_at_13 : decode cX8_at 13 = .ok (.getfield 11, 3) := by decide +kernel
theorem dX8_at_16 : decode cX8_at 16 = .ok (.iload_n 1, 1) := by decide +kernel
theorem dX8_at_17 : decode cX8_at 17 = .ok (.iaload, 1) := by decide +kernel
theorem dX8_at_18 : decode cX8_at 18 = .ok (.goto 4, 3) := by decide +kernel
theorem dX8_at_21 : decode cX8_at 21 = .ok (.iconst (-1), 1) := by decide +kernel
theorem dX8_at_22 : decode cX8_at 22 = .ok (.ireturn, 1) := by decide +kernel
theorem dX8_clear_0 : decode cX8_clear 0 = .ok (.aload_n 0, 1) := by decide +kernel
theorem dX8_clear_1 : decode cX8_clear 1 = .ok (.iconst 0, 1) := by decide +kernel
theorem dX8_clear_2 : decode cX8_clear 2 = .ok (.putfield 15, 3) := by decide +kernel
theorem dX8_clear_5 : decode cX8_clear 5 = .ok (.return_, 1) := by decide +kernel
theorem dX9_init_0 : decode cX9_init 0 = .ok (.aload_n 0, 1) := by decide +kernel
theorem dX9_init_1 : decode cX9_init 1 = .ok (.invokespecial 3, 3) := by decide +kernel
theorem dX9_init_4 : decode cX9_init 4 = .ok (.aload_n 0, 1) := by decide +kernel
theorem dX9_init_5 : decode cX9_init 5 = .ok (.iconst (-1), 1) := by decide +kernel
theorem dX9_init_6 : decode cX9_init 6 = .ok (.putfield 9, 3) := by decide +kernel
theorem dX9_init_9 : decode cX9_init 9 = .ok (.aload_n 0, 1) := by decide +kernel
theorem dX9_init_10 : decode cX9_init 10 = .ok (.iconst (-1), 1) := by decide +kernel
theorem dX9_init_11 : decode cX9_init 11 = .ok (.putfield 15, 3) := by decide +kernel
theorem dX9_init_14 : decode cX9_init 14 = .ok (.aload_n 0, 1) := by decide +kernel
theorem dX9_init_15 : decode cX9_init 15 = .ok (.iconst (-1), 1) := by decide +kernel
theorem dX9_init_16 : decode cX9_init 16 = .ok (.putfield 18, 3) := by decide +kernel
theorem dX9_init_19 : decode cX9_init 19 = .ok (.aload_n 0, 1) := by decide +kernel
theorem dX9_init_20 : decode cX9_init 20 = .ok (.aload_n 1, 1) := by decide +kernel
theorem dX9_init_21 : decode cX9_init 21 = .ok (.putfield 21, 3) := by decide +kernel
theorem dX9_init_24 : decode cX9_init 24 = .ok (.return_, 1) := by decide +kernel
theorem dX9_tell_0 : decode cX9_tell 0 = .ok (.aload_n 0, 1) := by decide +kernel
theorem dX9_tell_1 : decode cX9_tell 1 = .ok (.iload_n 1, 1) := by decide +kernel
theorem dX9_tell_2 : decode cX9_tell 2 = .ok (.putfield 9, 3) := by decide +kernel
theorem dX9_tell_5 : decode cX9_tell 5 = .ok (.aload_n 0, 1) := by decide +kernel
theorem dX9_tell_6 : decode cX9_tell 6 = .ok (.iload_n 2, 1) := by decide +kernel
theorem dX9_tell_7 : decode cX9_tell 7 = .ok (.putfield 15, 3) := by decide +kernel
theorem dX9_tell_10 : decode cX9_tell 10 = .ok (.aload_n 0, 1) := by decide +kernel
theorem dX9_tell_11 : decode cX9_tell 11 = .ok (.iload_n 3, 1) := by decide +kernel
theorem dX9_tell_12 : decode cX9_tell 12 = .ok (.putfield 18, 3) := by decide +kernel
theorem dX9_tell_15 : decode cX9_tell 15 = .ok (.return_, 1) := by decide +kernel
theorem dX9_clausesOf_0 : decode cX9_clausesOf 0 = .ok (.iload_n 1, 1) := by decide +kernel
theorem dX9_clausesOf_1 : decode cX9_clausesOf 1 = .ok (.ifCond .lt 33, 3) := by decide +kernel
theorem dX9_clausesOf_4 : decode cX9_clausesOf 4 = .ok (.iload_n 1, 1) := by decide +kernel
theorem dX9_clausesOf_5 : decode cX9_clausesOf 5 = .ok (.aload_n 0, 1) := by decide +kernel
theorem dX9_clausesOf_6 : decode cX9_clausesOf 6 = .ok (.getfield 21, 3) := by decide +kernel
theorem dX9_clausesOf_9 : decode cX9_clausesOf 9 = .ok (.arraylength, 1) := by decide +kernel
theorem dX9_clausesOf_10 : decode cX9_clausesOf 10 = .ok (.if_icmp .ge 24, 3) := by decide +kernel
theorem dX9_clausesOf_13 : decode cX9_clausesOf 13 = .ok (.aload_n 0, 1) := by decide +kernel
theorem dX9_clausesOf_14 : decode cX9_clausesOf 14 = .ok (.getfield 21, 3) := by decide +kernel
theorem dX9_clausesOf_17 : decode cX9_clausesOf 17 = .ok (.iload_n 1, 1) := by decide +kernel
theorem dX9_clausesOf_18 : decode cX9_clausesOf 18 = .ok (.aaload, 1) := by decide +kernel
theorem dX9_clausesOf_19 : decode cX9_clausesOf 19 = .ok (.ifnull 15, 3) := by decide +kernel
theorem dX9_clausesOf_22 : decode cX9_clausesOf 22 = .ok (.aload_n 0, 1) := by decide +kernel
theorem dX9_clausesOf_23 : decode cX9_clausesOf 23 = .ok (.getfield 21, 3) := by decide +kernel
theorem dX9_clausesOf_26 : decode cX9_clausesOf 26 = .ok (.iload_n 1, 1) := by decide +kernel
theorem dX9_clausesOf_27 : decode cX9_clausesOf 27 = .ok (.aaload, 1) := by decide +kernel
theorem dX9_clausesOf_28 : decode cX9_clausesOf 28 = .ok (.getfield 25, 3) := by decide +kernel
theorem dX9_clausesOf_31 : decode cX9_clausesOf 31 = .ok (.goto 4, 3) := by decide +kernel
theorem dX9_clausesOf_34 : decode cX9_clausesOf 34 = .ok (.iconst 0, 1) := by decide +kernel
theorem dX9_clausesOf_35 : decode cX9_clausesOf 35 = .ok (.ireturn, 1) := by decide +kernel
theorem dX9_isTold_0 : decode cX9_isTold 0 = .ok (.aload_n 0, 1) := by decide +kernel
theorem dX9_isTold_1 : decode cX9_isTold 1 = .ok (.iload_n 1, 1) := by decide +kernel
theorem dX9_isTold_2 : decode cX9_isTold 2 = .ok (.invokevirtual 30, 3) := by decide +kernel
theorem dX9_isTold_5 : decode cX9_isTold 5 = .ok (.ifCond .le 7, 3) := by decide +kernel
theorem dX9_isTold_8 : decode cX9_isTold 8 = .ok (.iconst 1, 1) := by decide +kernel
theorem dX9_isTold_9 : decode cX9_isTold 9 = .ok (.goto 4, 3) := by decide +kernel
theorem dX9_isTold_12 : decode cX9_isTold 12 = .ok (.iconst 0, 1) := by decide +kernel
theorem dX9_isTold_13 : decode cX9_isTold 13 = .ok (.ireturn, 1) := by decide +kernel
theorem dX9_anyTold_0 : decode cX9_anyTold 0 = .ok (.iconst 0, 1) := by decide +kernel
theorem dX9_anyTold_1 : decode cX9_anyTold 1 = .ok (.istore_n 1, 1) := by decide +kernel
theorem dX9_anyTold_2 : decode cX9_anyTold 2 = .ok (.iload_n 1, 1) := by decide +kernel
theorem dX9_anyTold_3 : decode cX9_anyTold 3 = .ok (.aload_n 0, 1) := by decide +kernel
theorem dX9_anyTold_4 : decode cX9_anyTold 4 = .ok (.getfield 21, 3) := by decide +kernel
theorem dX9_anyTold_7 : decode cX9_anyTold 7 = .ok (.arraylength, 1) := by decide +kernel
theorem dX9_anyTold_8 : decode cX9_anyTold 8 = .ok (.if_icmp .ge 19, 3) := by decide +kernel
theorem dX9_anyTold_11 : decode cX9_anyTold 11 = .ok (.aload_n 0, 1) := by decide +kernel
theorem dX9_anyTold_12 : decode cX9_anyTold 12 = .ok (.iload_n 1, 1) := by decide +kernel
theorem dX9_anyTold_13 : decode cX9_anyTold 13 = .ok (.invokevirtual 34, 3) := by decide +kernel
theorem dX9_anyTold_16 : decode cX9_anyTold 16 = .ok (.ifCond .eq 5, 3) := by decide +kernel
theorem dX9_anyTold_19 : decode cX9_anyTold 19 = .ok (.iconst 1, 1) := by decide +kernel
theorem dX9_anyTold_20 : decode cX9_anyTold 20 = .ok (.ireturn, 1) := by decide +kernel
theorem dX9_anyTold_21 : decode cX9_anyTold 21 = .ok (.iinc 1 1, 3) := by decide +kernel
theorem dX9_anyTold_24 : decode cX9_anyTold 24 = .ok (.goto (-22), 3) := by decide +kernel
theorem dX9_anyTold_27 : decode cX9_anyTold 27 = .ok (.iconst 0, 1) := by decide +kernel
theorem dX9_anyTold_28 : decode cX9_anyTold 28 = .ok (.ireturn, 1) := by decide +kernel
theorem dX9_inYear_0 : decode cX9_inYear 0 = .ok (.iload_n 1, 1) := by decide +kernel
theorem dX9_inYear_1 : decode cX9_inYear 1 = .ok (.aload_n 0, 1) := by decide +kernel
theorem dX9_inYear_2 : decode cX9_inYear 2 = .ok (.getfield 18, 3) := by decide +kernel
theorem dX9_inYear_5 : decode cX9_inYear 5 = .ok (.if_icmp .ge 10, 3) := by decide +kernel
theorem dX9_inYear_8 : decode cX9_inYear 8 = .ok (.aload_n 0, 1) := by decide +kernel
theorem dX9_inYear_9 : decode cX9_inYear 9 = .ok (.getfield 9, 3) := by decide +kernel
theorem dX9_inYear_12 : decode cX9_inYear 12 = .ok (.goto 7, 3) := by decide +kernel
theorem dX9_inYear_15 : decode cX9_inYear 15 = .ok (.aload_n 0, 1) := by decide +kernel
theorem dX9_inYear_16 : decode cX9_inYear 16 = .ok (.getfield 15, 3) := by decide +kernel
theorem dX9_inYear_19 : decode cX9_inYear 19 = .ok (.istore_n 2, 1) := by decide +kernel
theorem dX9_inYear_20 : decode cX9_inYear 20 = .ok (.aload_n 0, 1) := by decide +kernel
theorem dX9_inYear_21 : decode cX9_inYear 21 = .ok (.iload_n 2, 1) := by decide +kernel
theorem dX9_inYear_22 : decode cX9_inYear 22 = .ok (.invokevirtual 34, 3) := by decide +kernel
theorem dX9_inYear_25 : decode cX9_inYear 25 = .ok (.ifCond .eq 12, 3) := by decide +kernel
theorem dX9_inYear_28 : decode cX9_inYear 28 = .ok (.aload_n 0, 1) := by decide +kernel
theorem dX9_inYear_29 : decode cX9_inYear 29 = .ok (.getfield 21, 3) := by decide +kernel
theorem dX9_inYear_32 : decode cX9_inYear 32 = .ok (.iload_n 2, 1) := by decide +kernel
theorem dX9_inYear_33 : decode cX9_inYear 33 = .ok (.aaload, 1) := by decide +kernel
theorem dX9_inYear_34 : decode cX9_inYear 34 = .ok (.goto 4, 3) := by decide +kernel
theorem dX9_inYear_37 : decode cX9_inYear 37 = .ok (.aconst_null, 1) := by decide +kernel
theorem dX9_inYear_38 : decode cX9_inYear 38 = .ok (.areturn, 1) := by decide +kernel
theorem dX0_init_0 : decode cX0_init 0 = .ok (.aload_n 0, 1) := by decide +kernel
theorem dX0_init_1 : decode cX0_init 1 = .ok (.invokespecial 3, 3) := by decide +kernel
theorem dX0_init_4 : decode cX0_init 4 = .ok (.aload_n 0, 1) := by decide +kernel
theorem dX0_init_5 : decode cX0_init 5 = .ok (.new 9, 3) := by decide +kernel
theorem dX0_init_8 : decode cX0_init 8 = .ok (.dup, 1) := by decide +kernel
theorem dX0_init_9 : decode cX0_init 9 = .ok (.invokespecial 11, 3) := by decide +kernel
theorem dX0_init_12 : decode cX0_init 12 = .ok (.putfield 12, 3) := by decide +kernel
theorem dX0_init_15 : decode cX0_init 15 = .ok (.aload_n 0, 1) := by decide +kernel
theorem dX0_init_16 : decode cX0_init 16 = .ok (.new 18, 3) := by decide +kernel
theorem dX0_init_19 : decode cX0_init 19 = .ok (.dup, 1) := by decide +kernel
theorem dX0_init_20 : decode cX0_init 20 = .ok (.invokespecial 20, 3) := by decide +kernel
theorem dX0_init_23 : decode cX0_init 23 = .ok (.putfield 21, 3) := by decide +kernel
theorem dX0_init_26 : decode cX0_init 26 = .ok (.aload_n 0, 1) := by decide +kernel
theorem dX0_init_27 : decode cX0_init 27 = .ok (.new 25, 3) := by decide +kernel
theorem dX0_init_30 : decode cX0_init 30 = .ok (.dup, 1) := by decide +kernel
theorem dX0_init_31 : decode cX0_init 31 = .ok (.invokespecial 27, 3) := by decide +kernel
theorem dX0_init_34 : decode cX0_init 34 = .ok (.putfield 28, 3) := by decide +kernel
theorem dX0_init_37 : decode cX0_init 37 = .ok (.aload_n 0, 1) := by decide +kernel
theorem dX0_init_38 : decode cX0_init 38 = .ok (.bipush 10, 2) := by decide +kernel
theorem dX0_init_40 : decode cX0_init 40 = .ok (.putfield 32, 3) := by decide +kernel
theorem dX0_init_43 : decode cX0_init 43 = .ok (.aload_n 0, 1) := by decide +kernel
theorem dX0_init_44 : decode cX0_init 44 = .ok (.bipush 20, 2) := by decide +kernel
theorem dX0_init_46 : decode cX0_init 46 = .ok (.putfield 36, 3) := by decide +kernel
theorem dX0_init_49 : decode cX0_init 49 = .ok (.return_, 1) := by decide +kernel
theorem dX0_knows_0 : decode cX0_knows 0 = .ok (.aload_n 0, 1) := by decide +kernel
theorem dX0_knows_1 : decode cX0_knows 1 = .ok (.getfield 21, 3) := by decide +kernel
theorem dX0_knows_4 : decode cX0_knows 4 = .ok (.iload_n 1, 1) := by decide +kernel
theorem dX0_knows_5 : decode cX0_knows 5 = .ok (.invokevirtual 39, 3) := by decide +kernel
theorem dX0_knows_8 : decode cX0_knows 8 = .ok (.ifCond .eq 24, 3) := by decide +kernel
theorem dX0_knows_11 : decode cX0_knows 11 = .ok (.iload_n 2, 1) := by decide +kernel
theorem dX0_knows_12 : decode cX0_knows 12 = .ok (.ifCond .lt 20, 3) := by decide +kernel
theorem dX0_knows_15 : decode cX0_knows 15 = .ok (.iload_n 2, 1) := by decide +kernel
theorem dX0_knows_16 : decode cX0_knows 16 = .ok (.iconst 1, 1) := by decide +kernel
theorem dX0_knows_17 : decode cX0_knows 17 = .ok (.aload_n 0, 1) := by decide +kernel
theorem dX0_knows_18 : decode cX0_knows 18 = .ok (.getfield 28, 3) := by decide +kernel
theorem dX0_knows_21 : decode cX0_knows 21 = .ok (.getfield 43, 3) := by decide +kernel
theorem dX0_knows_24 : decode cX0_knows 24 = .ok (.ishl, 1) := by decide +kernel
theorem dX0_knows_25 : decode cX0_knows 25 = .ok (.if_icmp .ge 7, 3) := by decide +kernel
theorem dX0_knows_28 : decode cX0_knows 28 = .ok (.iconst 1, 1) := by decide +kernel
theorem dX0_knows_29 : decode cX0_knows 29 = .ok (.goto 4, 3) := by decide +kernel
theorem dX0_knows_32 : decode cX0_knows 32 = .ok (.iconst 0, 1) := by decide +kernel
theorem dX0_knows_33 : decode cX0_knows 33 = .ok (.ireturn, 1) := by decide +kernel
theorem dX0_canTie_0 : decode cX0_canTie 0 = .ok (.aload_n 0, 1) := by decide +kernel
theorem dX0_canTie_1 : decode cX0_canTie 1 = .ok (.getfield 28, 3) := by decide +kernel
theorem dX0_canTie_4 : decode cX0_canTie 4 = .ok (.getfield 46, 3) := by decide +kernel
theorem dX0_canTie_7 : decode cX0_canTie 7 = .ok (.iload_n 1, 1) := by decide +kernel
theorem dX0_canTie_8 : decode cX0_canTie 8 = .ok (.iaload, 1) := by decide +kernel
theorem dX0_canTie_9 : decode cX0_canTie 9 = .ok (.aload_n 0, 1) := by decide +kernel
theorem dX0_canTie_10 : decode cX0_canTie 10 = .ok (.getfield 21, 3) := by decide +kernel
theorem dX0_canTie_13 : decode cX0_canTie 13 = .ok (.getfield 50, 3) := by decide +kernel
theorem dX0_canTie_16 : decode cX0_canTie 16 = .ok (.iload_n 2, 1) := by decide +kernel
theorem dX0_canTie_17 : decode cX0_canTie 17 = .ok (.iaload, 1) := by decide +kernel
theorem dX0_canTie_18 : decode cX0_canTie 18 = .ok (.if_icmp .eq 5, 3) := by decide +kernel
theorem dX0_canTie_21 : decode cX0_canTie 21 = .ok (.iconst 0, 1) := by decide +kernel
theorem dX0_canTie_22 : decode cX0_canTie 22 = .ok (.ireturn, 1) := by decide +kernel
theorem dX0_canTie_23 : decode cX0_canTie 23 = .ok (.aload_n 0, 1) := by decide +kernel
theorem dX0_canTie_24 : decode cX0_canTie 24 = .ok (.getfield 28, 3) := by decide +kernel
theorem dX0_canTie_27 : decode cX0_canTie 27 = .ok (.getfield 53, 3) := by decide +kernel
theorem dX0_canTie_30 : decode cX0_canTie 30 = .ok (.iload_n 1, 1) := by decide +kernel
theorem dX0_canTie_31 : decode cX0_canTie 31 = .ok (.iaload, 1) := by decide +kernel
theorem dX0_canTie_32 : decode cX0_canTie 32 = .ok (.iconst (-1), 1) := by decide +kernel
theorem dX0_canTie_33 : decode cX0_canTie 33 = .ok (.if_icmp .eq 26, 3) := by decide +kernel
theorem dX0_canTie_36 : decode cX0_canTie 36 = .ok (.aload_n 0, 1) := by decide +kernel
theorem dX0_canTie_37 : decode cX0_canTie 37 = .ok (.getfield 28, 3) := by decide +kernel
theorem dX0_canTie_40 : decode cX0_canTie 40 = .ok (.getfield 53, 3) := by decide +kernel
theorem dX0_canTie_43 : decode cX0_canTie 43 = .ok (.iload_n 1, 1) := by decide +kernel
theorem dX0_canTie_44 : decode cX0_canTie 44 = .ok (.iaload, 1) := by decide +kernel
theorem dX0_canTie_45 : decode cX0_canTie 45 = .ok (.aload_n 0, 1) := by decide +kernel
theorem dX0_canTie_46 : decode cX0_canTie 46 = .ok (.getfield 21, 3) := by decide +kernel
theorem dX0_canTie_49 : decode cX0_canTie 49 = .ok (.getfield 56, 3) := by decide +kernel
theorem dX0_canTie_52 : decode cX0_canTie 52 = .ok (.iload_n 2, 1) := by decide +kernel
theorem dX0_canTie_53 : decode cX0_canTie 53 = .ok (.iaload, 1) := by decide +kernel
theorem dX0_canTie_54 : decode cX0_canTie 54 = .ok (.if_icmp .eq 5, 3) := by decide +kernel
theorem dX0_canTie_57 : decode cX0_canTie 57 = .ok (.iconst 0, 1) := by decide +kernel
theorem dX0_canTie_58 : decode cX0_canTie 58 = .ok (.ireturn, 1) := by decide +kernel
theorem dX0_canTie_59 : decode cX0_canTie 59 = .ok (.aload_n 0, 1) := by decide +kernel
theorem dX0_canTie_60 : decode cX0_canTie 60 = .ok (.getfield 28, 3) := by decide +kernel
theorem dX0_canTie_63 : decode cX0_canTie 63 = .ok (.getfield 59, 3) := by decide +kernel
theorem dX0_canTie_66 : decode cX0_canTie 66 = .ok (.iload_n 1, 1) := by decide +kernel
theorem dX0_canTie_67 : decode cX0_canTie 67 = .ok (.iaload, 1) := by decide +kernel
theorem dX0_canTie_68 : decode cX0_canTie 68 = .ok (.aload_n 0, 1) := by decide +kernel
theorem dX0_canTie_69 : decode cX0_canTie 69 = .ok (.getfield 21, 3) := by decide +kernel
theorem dX0_canTie_72 : decode cX0_canTie 72 = .ok (.getfield 62, 3) := by decide +kernel
theorem dX0_canTie_75 : decode cX0_canTie 75 = .ok (.iload_n 2, 1) := by decide +kernel
theorem dX0_canTie_76 : decode cX0_canTie 76 = .ok (.iaload, 1) := by decide +kernel
theorem dX0_canTie_77 : decode cX0_canTie 77 = .ok (.if_icmp .lt 28, 3) := by decide +kernel
theorem dX0_canTie_80 : decode cX0_canTie 80 = .ok (.aload_n 0, 1) := by decide +kernel
theorem dX0_canTie_81 : decode cX0_canTie 81 = .ok (.getfield 28, 3) := by decide +kernel
theorem dX0_canTie_84 : decode cX0_canTie 84 = .ok (.getfield 59, 3) := by decide +kernel
theorem dX0_canTie_87 : decode cX0_canTie 87 = .ok (.iload_n 1, 1) := by decide +kernel
theorem dX0_canTie_88 : decode cX0_canTie 88 = .ok (.iaload, 1) := by decide +kernel
theorem dX0_canTie_89 : decode cX0_canTie 89 = .ok (.aload_n 0, 1) := by decide +kernel
theorem dX0_canTie_90 : decode cX0_canTie 90 = .ok (.getfield 21, 3) := by decide +kernel
theorem dX0_canTie_93 : decode cX0_canTie 93 = .ok (.getfield 65, 3) := by decide +kernel
theorem dX0_canTie_96 : decode cX0_canTie 96 = .ok (.iload_n 2, 1) := by decide +kernel
theorem dX0_canTie_97 : decode cX0_canTie 97 = .ok (.iaload, 1) := by decide +kernel
theorem dX0_canTie_98 : decode cX0_canTie 98 = .ok (.if_icmp .gt 7, 3) := by decide +kernel
theorem dX0_canTie_101 : decode cX0_canTie 101 = .ok (.iconst 1, 1) := by decide +kernel
theorem dX0_canTie_102 : decode cX0_canTie 102 = .ok (.goto 4, 3) := by decide +kernel
theorem dX0_canTie_105 : decode cX0_canTie 105 = .ok (.iconst 0, 1) := by decide +kernel
theorem dX0_canTie_106 : decode cX0_canTie 106 = .ok (.ireturn, 1) := by decide +kernel
theorem dX0_tiesOf_0 : decode cX0_tiesOf 0 = .ok (.iconst 0, 1) := by decide +kernel
theorem dX0_tiesOf_1 : decode cX0_tiesOf 1 = .ok (.istore_n 2, 1) := by decide +kernel
theorem dX0_tiesOf_2 : decode cX0_tiesOf 2 = .ok (.iconst 0, 1) := by decide +kernel
theorem dX0_tiesOf_3 : decode cX0_tiesOf 3 = .ok (.istore_n 3, 1) := by decide +kernel
theorem dX0_tiesOf_4 : decode cX0_tiesOf 4 = .ok (.iload_n 3, 1) := by decide +kernel
theorem dX0_tiesOf_5 : decode cX0_tiesOf 5 = .ok (.aload_n 0, 1) := by decide +kernel
theorem dX0_tiesOf_6 : decode cX0_tiesOf 6 = .ok (.getfield 28, 3) := by decide +kernel
theorem dX0_tiesOf_9 : decode cX0_tiesOf 9 = .ok (.getfield 43, 3) := by decide +kernel
theorem dX0_tiesOf_12 : decode cX0_tiesOf 12 = .ok (.if_icmp .ge 24, 3) := by decide +kernel
theorem dX0_tiesOf_15 : decode cX0_tiesOf 15 = .ok (.aload_n 0, 1) := by decide +kernel
theorem dX0_tiesOf_16 : decode cX0_tiesOf 16 = .ok (.iload_n 3, 1) := by decide +kernel
theorem dX0_tiesOf_17 : decode cX0_tiesOf 17 = .ok (.iload_n 1, 1) := by decide +kernel
theorem dX0_tiesOf_18 : decode cX0_tiesOf 18 = .ok (.invokevirtual 68, 3) := by decide +kernel
theorem dX0_tiesOf_21 : decode cX0_tiesOf 21 = .ok (.ifCond .eq 9, 3) := by decide +kernel
theorem dX0_tiesOf_24 : decode cX0_tiesOf 24 = .ok (.iload_n 2, 1) := by decide +kernel
theorem dX0_tiesOf_25 : decode cX0_tiesOf 25 = .ok (.iconst 1, 1) := by decide +kernel
theorem dX0_tiesOf_26 : decode cX0_tiesOf 26 = .ok (.iload_n 3, 1) := by decide +kernel
theorem dX0_tiesOf_27 : decode cX0_tiesOf 27 = .ok (.ishl, 1) := by decide +kernel
theorem dX0_tiesOf_28 : decode cX0_tiesOf 28 = .ok (.ior, 1) := by decide +kernel
theorem dX0_tiesOf_29 : decode cX0_tiesOf 29 = .ok (.istore_n 2, 1) := by decide +kernel
theorem dX0_tiesOf_30 : decode cX0_tiesOf 30 = .ok (.iinc 3 1, 3) := by decide +kernel
theorem dX0_tiesOf_33 : decode cX0_tiesOf 33 = .ok (.goto (-29), 3) := by decide +kernel
theorem dX0_tiesOf_36 : decode cX0_tiesOf 36 = .ok (.iload_n 2, 1) := by decide +kernel
theorem dX0_tiesOf_37 : decode cX0_tiesOf 37 = .ok (.ireturn, 1) := by decide +kernel
theorem dX2_init_0 : decode cX2_init 0 = .ok (.aload_n 0, 1) := by decide +kernel
theorem dX2_init_1 : decode cX2_init 1 = .ok (.invokespecial 3, 3) := by decide +kernel
theorem dX2_init_4 : decode cX2_init 4 = .ok (.aload_n 0, 1) := by decide +kernel
theorem dX2_init_5 : decode cX2_init 5 = .ok (.bipush 12, 2) := by decide +kernel
theorem dX2_init_7 : decode cX2_init 7 = .ok (.newarray .int, 2) := by decide +kernel
theorem dX2_init_9 : decode cX2_init 9 = .ok (.putfield 9, 3) := by decide +kernel
theorem dX2_init_12 : decode cX2_init 12 = .ok (.aload_n 0, 1) := by decide +kernel
theorem dX2_init_13 : decode cX2_init 13 = .ok (.bipush 12, 2) := by decide +kernel
theorem dX2_init_15 : decode cX2_init 15 = .ok (.newarray .int, 2) := by decide +kernel
theorem dX2_init_17 : decode cX2_init 17 = .ok (.putfield 15, 3) := by decide +kernel
theorem dX2_init_20 : decode cX2_init 20 = .ok (.aload_n 0, 1) := by decide +kernel
theorem dX2_init_21 : decode cX2_init 21 = .ok (.sipush 160, 3) := by decide +kernel
theorem dX2_init_24 : decode cX2_init 24 = .ok (.newarray .int, 2) := by decide +kernel
theorem dX2_init_26 : decode cX2_init 26 = .ok (.putfield 18, 3) := by decide +kernel
theorem dX2_init_29 : decode cX2_init 29 = .ok (.aload_n 0, 1) := by decide +kernel
theorem dX2_init_30 : decode cX2_init 30 = .ok (.sipush 160, 3) := by decide +kernel
theorem dX2_init_33 : decode cX2_init 33 = .ok (.newarray .int, 2) := by decide +kernel
theorem dX2_init_35 : decode cX2_init 35 = .ok (.putfield 21, 3) := by decide +kernel
theorem dX2_init_38 : decode cX2_init 38 = .ok (.aload_n 0, 1) := by decide +kernel
theorem dX2_init_39 : decode cX2_init 39 = .ok (.bipush 16, 2) := by decide +kernel
theorem dX2_init_41 : decode cX2_init 41 = .ok (.newarray .int, 2) := by decide +kernel
theorem dX2_init_43 : decode cX2_init 43 = .ok (.putfield 24, 3) := by decide +kernel
theorem dX2_init_46 : decode cX2_init 46 = .ok (.return_, 1) := by decide +kernel
theorem dX2_clear_0 : decode cX2_clear 0 = .ok (.aload_n 0, 1) := by decide +kernel
theorem dX2_clear_1 : decode cX2_clear 1 = .ok (.iconst 0, 1) := by decide +kernel
theorem dX2_clear_2 : decode cX2_clear 2 = .ok (.putfield 27, 3) := by decide +kernel
theorem dX2_clear_5 : decode cX2_clear 5 = .ok (.aload_n 0, 1) := by decide +kernel
theorem dX2_clear_6 : decode cX2_clear 6 = .ok (.iconst 0, 1) := by decide +kernel
theorem dX2_clear_7 : decode cX2_clear 7 = .ok (.putfield 31, 3) := by decide +kernel
theorem dX2_clear_10 : decode cX2_clear 10 = .ok (.return_, 1) := by decide +kernel
theorem dX2_addStep_0 : decode cX2_addStep 0 = .ok (.aload_n 0, 1) := by decide +kernel
theorem dX2_addStep_1 : decode cX2_addStep 1 = .ok (.getfield 27, 3) := by decide +kernel
theorem dX2_addStep_4 : decode cX2_addStep 4 = .ok (.aload_n 0, 1) := by decide +kernel
theorem dX2_addStep_5 : decode cX2_addStep 5 = .ok (.getfield 18, 3) := by decide +kernel
theorem dX2_addStep_8 : decode cX2_addStep 8 = .ok (.arraylength, 1) := by decide +kernel
theorem dX2_addStep_9 : decode cX2_addStep 9 = .ok (.if_icmp .lt 5, 3) := by decide +kernel
theorem dX2_addStep_12 : decode cX2_addStep 12 = .ok (.iconst (-1), 1) := by decide +kernel
theorem dX2_addStep_13 : decode cX2_addStep 13 = .ok (.ireturn, 1) := by decide +kernel
theorem dX2_addStep_14 : decode cX2_addStep 14 = .ok (.aload_n 0, 1) := by decide +kernel
theorem dX2_addStep_15 : decode cX2_addStep 15 = .ok (.getfield 18, 3) := by decide +kernel
theorem dX2_addStep_18 : decode cX2_addStep 18 = .ok (.aload_n 0, 1) := by decide +kernel
theorem dX2_addStep_19 : decode cX2_addStep 19 = .ok (.getfield 27, 3) := by decide +kernel
theorem dX2_addStep_22 : decode cX2_addStep 22 = .ok (.iload_n 1, 1) := by decide +kernel
theorem dX2_addStep_23 : decode cX2_addStep 23 = .ok (.iastore, 1) := by decide +kernel
theorem dX2_addStep_24 : decode cX2_addStep 24 = .ok (.aload_n 0, 1) := by decide +kernel
theorem dX2_addStep_25 : decode cX2_addStep 25 = .ok (.getfield 21, 3) := by decide +kernel
theorem dX2_addStep_28 : decode cX2_addStep 28 = .ok (.aload_n 0, 1) := by decide +kernel
theorem dX2_addStep_29 : decode cX2_addStep 29 = .ok (.getfield 27, 3) := by decide +kernel
theorem dX2_addStep_32 : decode cX2_addStep 32 = .ok (.iload_n 2, 1) := by decide +kernel
theorem dX2_addStep_33 : decode cX2_addStep 33 = .ok (.iastore, 1) := by decide +kernel
theorem dX2_addStep_34 : decode cX2_addStep 34 = .ok (.aload_n 0, 1) := by decide +kernel
theorem dX2_addStep_35 : decode cX2_addStep 35 = .ok (.dup, 1) := by decide +kernel
theorem dX2_addStep_36 : decode cX2_addStep 36 = .ok (.getfield 27, 3) := by decide +kernel
theorem dX2_addStep_39 : decode cX2_addStep 39 = .ok (.iconst 1, 1) := by decide +kernel
theorem dX2_addStep_40 : decode cX2_addStep 40 = .ok (.iadd, 1) := by decide +kernel
theorem dX2_addStep_41 : decode cX2_addStep 41 = .ok (.putfield 27, 3) := by decide +kernel
theorem dX2_addStep_44 : decode cX2_addStep 44 = .ok (.aload_n 0, 1) := by decide +kernel
theorem dX2_addStep_45 : decode cX2_addStep 45 = .ok (.getfield 27, 3) := by decide +kernel
theorem dX2_addStep_48 : decode cX2_addStep 48 = .ok (.iconst 1, 1) := by decide +kernel
theorem dX2_addStep_49 : decode cX2_addStep 49 = .ok (.isub, 1) := by decide +kernel
theorem dX2_addStep_50 : decode cX2_addStep 50 = .ok (.ireturn, 1) := by decide +kernel
theorem dX2_leadHere_0 : decode cX2_leadHere 0 = .ok (.iload_n 1, 1) := by decide +kernel
theorem dX2_leadHere_1 : decode cX2_leadHere 1 = .ok (.ifCond .lt 21, 3) := by decide +kernel
theorem dX2_leadHere_4 : decode cX2_leadHere 4 = .ok (.iload_n 1, 1) := by decide +kernel
theorem dX2_leadHere_5 : decode cX2_leadHere 5 = .ok (.aload_n 0, 1) := by decide +kernel
theorem dX2_leadHere_6 : decode cX2_leadHere 6 = .ok (.getfield 27, 3) := by decide +kernel
theorem dX2_leadHere_9 : decode cX2_leadHere 9 = .ok (.if_icmp .ge 13, 3) := by decide +kernel
theorem dX2_leadHere_12 : decode cX2_leadHere 12 = .ok (.aload_n 0, 1) := by decide +kernel
theorem dX2_leadHere_13 : decode cX2_leadHere 13 = .ok (.getfield 21, 3) := by decide +kernel
theorem dX2_leadHere_16 : decode cX2_leadHere 16 = .ok (.iload_n 1, 1) := by decide +kernel
theorem dX2_leadHere_17 : decode cX2_leadHere 17 = .ok (.aload_n 0, 1) := by decide +kernel
theorem dX2_leadHere_18 : decode cX2_leadHere 18 = .ok (.getfield 27, 3) := by decide +kernel
theorem dX2_leadHere_21 : decode cX2_leadHere 21 = .ok (.iastore, 1) := by decide +kernel
theorem dX2_leadHere_22 : decode cX2_leadHere 22 = .ok (.return_, 1) := by decide +kernel
theorem dX2_endClause_0 : decode cX2_endClause 0 = .ok (.aload_n 0, 1) := by decide +kernel
theorem dX2_endClause_1 : decode cX2_endClause 1 = .ok (.getfield 31, 3) := by decide +kernel
theorem dX2_endClause_4 : decode cX2_endClause 4 = .ok (.aload_n 0, 1) := by decide +kernel
theorem dX2_endClause_5 : decode cX2_endClause 5 = .ok (.getfield 9, 3) := by decide +kernel
theorem dX2_endClause_8 : decode cX2_endClause 8 = .ok (.arraylength, 1) := by decide +kernel
theorem dX2_endClause_9 : decode cX2_endClause 9 = .ok (.if_icmp .ge 36, 3) := by decide +kernel
theorem dX2_endClause_12 : decode cX2_endClause 12 = .ok (.aload_n 0, 1) := by decide +kernel
theorem dX2_endClause_13 : decode cX2_endClause 13 = .ok (.getfield 9, 3) := by decide +kernel
theorem dX2_endClause_16 : decode cX2_endClause 16 = .ok (.aload_n 0, 1) := by decide +kernel
theorem dX2_endClause_17 : decode cX2_endClause 17 = .ok (.getfield 31, 3) := by decide +kernel
theorem dX2_endClause_20 : decode cX2_endClause 20 = .ok (.iload_n 1, 1) := by decide +kernel
theorem dX2_endClause_21 : decode cX2_endClause 21 = .ok (.iastore, 1) := by decide +kernel
theorem dX2_endClause_22 : decode cX2_endClause 22 = .ok (.aload_n 0, 1) := by decide +kernel
theorem dX2_endClause_23 : decode cX2_endClause 23 = .ok (.getfield 15, 3) := by decide +kernel
theorem dX2_endClause_26 : decode cX2_endClause 26 = .ok (.aload_n 0, 1) := by decide +kernel
theorem dX2_endClause_27 : decode cX2_endClause 27 = .ok (.getfield 31, 3) := by decide +kernel
theorem dX2_endClause_30 : decode cX2_endClause 30 = .ok (.aload_n 0, 1) := by decide +kernel
theorem dX2_endClause_31 : decode cX2_endClause 31 = .ok (.getfield 27, 3) := by decide +kernel
theorem dX2_endClause_34 : decode cX2_endClause 34 = .ok (.iastore, 1) := by decide +kernel
theorem dX2_endClause_35 : decode cX2_endClause 35 = .ok (.aload_n 0, 1) := by decide +kernel
theorem dX2_endClause_36 : decode cX2_endClause 36 = .ok (.dup, 1) := by decide +kernel
theorem dX2_endClause_37 : decode cX2_endClause 37 = .ok (.getfield 31, 3) := by decide +kernel
theorem dX2_endClause_40 : decode cX2_endClause 40 = .ok (.iconst 1, 1) := by decide +kernel
theorem dX2_endClause_41 : decode cX2_endClause 41 = .ok (.iadd, 1) := by decide +kernel
theorem dX2_endClause_42 : decode cX2_endClause 42 = .ok (.putfield 31, 3) := by decide +kernel
theorem dX2_endClause_45 : decode cX2_endClause 45 = .ok (.return_, 1) := by decide +kernel
theorem dX2_firstFor_0 : decode cX2_firstFor 0 = .ok (.iconst 0, 1) := by decide +kernel
theorem dX2_firstFor_1 : decode cX2_firstFor 1 = .ok (.istore_n 3, 1) := by decide +kernel
theorem dX2_firstFor_2 : decode cX2_firstFor 2 = .ok (.iconst 0, 1) := by decide +kernel
theorem dX2_firstFor_3 : decode cX2_firstFor 3 = .ok (.istore 4, 2) := by decide +kernel
theorem dX2_firstFor_5 : decode cX2_firstFor 5 = .ok (.iload 4, 2) := by decide +kernel
theorem dX2_firstFor_7 : decode cX2_firstFor 7 = .ok (.aload_n 0, 1) := by decide +kernel
theorem dX2_firstFor_8 : decode cX2_firstFor 8 = .ok (.getfield 31, 3) := by decide +kernel
theorem dX2_firstFor_11 : decode cX2_firstFor 11 = .ok (.if_icmp .ge 56, 3) := by decide +kernel
theorem dX2_firstFor_14 : decode cX2_firstFor 14 = .ok (.iload_n 2, 1) := by decide +kernel
theorem dX2_firstFor_15 : decode cX2_firstFor 15 = .ok (.aload_n 0, 1) := by decide +kernel
theorem dX2_firstFor_16 : decode cX2_firstFor 16 = .ok (.getfield 9, 3) := by decide +kernel
theorem dX2_firstFor_19 : decode cX2_firstFor 19 = .ok (.iload 4, 2) := by decide +kernel
theorem dX2_firstFor_21 : decode cX2_firstFor 21 = .ok (.iaload, 1) := by decide +kernel
theorem dX2_firstFor_22 : decode cX2_firstFor 22 = .ok (.ishr, 1) := by decide +kernel
theorem dX2_firstFor_23 : decode cX2_firstFor 23 = .ok (.iconst 1, 1) := by decide +kernel
theorem dX2_firstFor_24 : decode cX2_firstFor 24 = .ok (.iand, 1) := by decide +kernel
theorem dX2_firstFor_25 : decode cX2_firstFor 25 = .ok (.iconst 1, 1) := by decide +kernel
theorem dX2_firstFor_26 : decode cX2_firstFor 26 = .ok (.if_icmp .ne 27, 3) := by decide +kernel
theorem dX2_firstFor_29 : decode cX2_firstFor 29 = .ok (.aload_n 0, 1) := by decide +kernel
theorem dX2_firstFor_30 : decode cX2_firstFor 30 = .ok (.iload_n 3, 1) := by decide +kernel
theorem dX2_firstFor_31 : decode cX2_firstFor 31 = .ok (.aload_n 0, 1) := by decide +kernel
theorem dX2_firstFor_32 : decode cX2_firstFor 32 = .ok (.getfield 15, 3) := by decide +kernel
theorem dX2_firstFor_35 : decode cX2_firstFor 35 = .ok (.iload 4, 2) := by decide +kernel
theorem dX2_firstFor_37 : decode cX2_firstFor 37 = .ok (.iaload, 1) := by decide +kernel
theorem dX2_firstFor_38 : decode cX2_firstFor 38 = .ok (.aload_n 1, 1) := by decide +kernel
theorem dX2_firstFor_39 : decode cX2_firstFor 39 = .ok (.invokevirtual 34, 3) := by decide +kernel
theorem dX2_firstFor_42 : decode cX2_firstFor 42 = .ok (.ifCond .eq 11, 3) := by decide +kernel
theorem dX2_firstFor_45 : decode cX2_firstFor 45 = .ok (.aload_n 0, 1) := by decide +kernel
theorem dX2_firstFor_46 : decode cX2_firstFor 46 = .ok (.getfield 9, 3) := by decide +kernel
theorem dX2_firstFor_49 : decode cX2_firstFor 49 = .ok (.iload 4, 2) := by decide +kernel
theorem dX2_firstFor_51 : decode cX2_firstFor 51 = .ok (.iaload, 1) := by decide +kernel
theorem dX2_firstFor_52 : decode cX2_firstFor 52 = .ok (.ireturn, 1) := by decide +kernel
theorem dX2_firstFor_53 : decode cX2_firstFor 53 = .ok (.aload_n 0, 1) := by decide +kernel
theorem dX2_firstFor_54 : decode cX2_firstFor 54 = .ok (.getfield 15, 3) := by decide +kernel
theorem dX2_firstFor_57 : decode cX2_firstFor 57 = .ok (.iload 4, 2) := by decide +kernel
theorem dX2_firstFor_59 : decode cX2_firstFor 59 = .ok (.iaload, 1) := by decide +kernel
theorem dX2_firstFor_60 : decode cX2_firstFor 60 = .ok (.istore_n 3, 1) := by decide +kernel
theorem dX2_firstFor_61 : decode cX2_firstFor 61 = .ok (.iinc 4 1, 3) := by decide +kernel
theorem dX2_firstFor_64 : decode cX2_firstFor 64 = .ok (.goto (-59), 3) := by decide +kernel
theorem dX2_firstFor_67 : decode cX2_firstFor 67 = .ok (.iconst (-1), 1) := by decide +kernel
theorem dX2_firstFor_68 : decode cX2_firstFor 68 = .ok (.ireturn, 1) := by decide +kernel
theorem dX2_holds_0 : decode cX2_holds 0 = .ok (.iconst 0, 1) := by decide +kernel
theorem dX2_holds_1 : decode cX2_holds 1 = .ok (.istore 4, 2) := by decide +kernel
theorem dX2_holds_3 : decode cX2_holds 3 = .ok (.iload_n 1, 1) := by decide +kernel
theorem dX2_holds_4 : decode cX2_holds 4 = .ok (.istore 5, 2) := by decide +kernel
theorem dX2_holds_6 : decode cX2_holds 6 = .ok (.iload 5, 2) := by decide +kernel
theorem dX2_holds_8 : decode cX2_holds 8 = .ok (.iload_n 2, 1) := by decide +kernel
theorem dX2_holds_9 : decode cX2_holds 9 = .ok (.if_icmp .ge 273, 3) := by decide +kernel
theorem dX2_holds_12 : decode cX2_holds 12 = .ok (.aload_n 0, 1) := by decide +kernel
theorem dX2_holds_13 : decode cX2_holds 13 = .ok (.getfield 18, 3) := by decide +kernel
theorem dX2_holds_16 : decode cX2_holds 16 = .ok (.iload 5, 2) := by decide +kernel
theorem dX2_holds_18 : decode cX2_holds 18 = .ok (.iaload, 1) := by decide +kernel
theorem dX2_holds_19 : decode cX2_holds 19 = .ok (.istore 6, 2) := by decide +kernel
theorem dX2_holds_21 : decode cX2_holds 21 = .ok (.iload 6, 2) := by decide +kernel
theorem dX2_holds_23 : decode cX2_holds 23 = .ok (.bipush 48, 2) := by decide +kernel
theorem dX2_holds_25 : decode cX2_holds 25 = .ok (.if_icmp .eq 10, 3) := by decide +kernel
theorem dX2_holds_28 : decode cX2_holds 28 = .ok (.iload 6, 2) := by decide +kernel
theorem dX2_holds_30 : decode cX2_holds 30 = .ok (.bipush 110, 2) := by decide +kernel
theorem dX2_holds_32 : decode cX2_holds 32 = .ok (.if_icmp .ne 56, 3) := by decide +kernel
theorem dX2_holds_35 : decode cX2_holds 35 = .ok (.iload 4, 2) := by decide +kernel
theorem dX2_holds_37 : decode cX2_holds 37 = .ok (.aload_n 0, 1) := by decide +kernel
theorem dX2_holds_38 : decode cX2_holds 38 = .ok (.getfield 24, 3) := by decide +kernel
theorem dX2_holds_41 : decode cX2_holds 41 = .ok (.arraylength, 1) := by decide +kernel
theorem dX2_holds_42 : decode cX2_holds 42 = .ok (.if_icmp .lt 5, 3) := by decide +kernel
theorem dX2_holds_45 : decode cX2_holds 45 = .ok (.iconst 0, 1) := by decide +kernel
theorem dX2_holds_46 : decode cX2_holds 46 = .ok (.ireturn, 1) := by decide +kernel
theorem dX2_holds_47 : decode cX2_holds 47 = .ok (.aload_n 0, 1) := by decide +kernel
theorem dX2_holds_48 : decode cX2_holds 48 = .ok (.getfield 24, 3) := by decide +kernel
theorem dX2_holds_51 : decode cX2_holds 51 = .ok (.iload 4, 2) := by decide +kernel
theorem dX2_holds_53 : decode cX2_holds 53 = .ok (.iload 6, 2) := by decide +kernel
theorem dX2_holds_55 : decode cX2_holds 55 = .ok (.bipush 48, 2) := by decide +kernel
theorem dX2_holds_57 : decode cX2_holds 57 = .ok (.if_icmp .ne 13, 3) := by decide +kernel
theorem dX2_holds_60 : decode cX2_holds 60 = .ok (.aload_n 0, 1) := by decide +kernel
theorem dX2_holds_61 : decode cX2_holds 61 = .ok (.getfield 21, 3) := by decide +kernel
theorem dX2_holds_64 : decode cX2_holds 64 = .ok (.iload 5, 2) := by decide +kernel
theorem dX2_holds_66 : decode cX2_holds 66 = .ok (.iaload, 1) := by decide +kernel
theorem dX2_holds_67 : decode cX2_holds 67 = .ok (.goto 14, 3) := by decide +kernel
theorem dX2_holds_70 : decode cX2_holds 70 = .ok (.aload_n 3, 1) := by decide +kernel
theorem dX2_holds_71 : decode cX2_holds 71 = .ok (.aload_n 0, 1) := by decide +kernel
theorem dX2_holds_72 : decode cX2_holds 72 = .ok (.getfield 21, 3) := by decide +kernel
theorem dX2_holds_75 : decode cX2_holds 75 = .ok (.iload 5, 2) := by decide +kernel
theorem dX2_holds_77 : decode cX2_holds 77 = .ok (.iaload, 1) := by decide +kernel
theorem dX2_holds_78 : decode cX2_holds 78 = .ok (.invokestatic 38, 3) := by decide +kernel
theorem dX2_holds_81 : decode cX2_holds 81 = .ok (.iastore, 1) := by decide +kernel
theorem dX2_holds_82 : decode cX2_holds 82 = .ok (.iinc 4 1, 3) := by decide +kernel
theorem dX2_holds_85 : decode cX2_holds 85 = .ok (.goto 191, 3) := by decide +kernel
theorem dX2_holds_88 : decode cX2_holds 88 = .ok (.iload 4, 2) := by decide +kernel
theorem dX2_holds_90 : decode cX2_holds 90 = .ok (.iconst 1, 1) := by decide +kernel
theorem dX2_holds_91 : decode cX2_holds 91 = .ok (.if_icmp .ge 5, 3) := by decide +kernel
theorem dX2_holds_94 : decode cX2_holds 94 = .ok (.iconst 0, 1) := by decide +kernel
theorem dX2_holds_95 : decode cX2_holds 95 = .ok (.ireturn, 1) := by decide +kernel
theorem dX2_holds_96 : decode cX2_holds 96 = .ok (.iload 6, 2) := by decide +kernel
theorem dX2_holds_98 : decode cX2_holds 98 = .ok (.bipush 33, 2) := by decide +kernel
theorem dX2_holds_100 : decode cX2_holds 100 = .ok (.if_icmp .ne 26, 3) := by decide +kernel
theorem dX2_holds_103 : decode cX2_holds 103 = .ok (.aload_n 0, 1) := by decide +kernel
theorem dX2_holds_104 : decode cX2_holds 104 = .ok (.getfield 24, 3) := by decide +kernel
theorem dX2_holds_107 : decode cX2_holds 107 = .ok (.iload 4, 2) := by decide +kernel
theorem dX2_holds_109 : decode cX2_holds 109 = .ok (.iconst 1, 1) := by decide +kernel
theorem dX2_holds_110 : decode cX2_holds 110 = .ok (.isub, 1) := by decide +kernel
theorem dX2_holds_111 : decode cX2_holds 111 = .ok (.iconst 1, 1) := by decide +kernel
theorem dX2_holds_112 : decode cX2_holds 112 = .ok (.aload_n 0, 1) := by decide +kernel
theorem dX2_holds_113 : decode cX2_holds 113 = .ok (.getfield 24, 3) := by decide +kernel
theorem dX2_holds_116 : decode cX2_holds 116 = .ok (.iload 4, 2) := by decide +kernel
theorem dX2_holds_118 : decode cX2_holds 118 = .ok (.iconst 1, 1) := by decide +kernel
theorem dX2_holds_119 : decode cX2_holds 119 = .ok (.isub, 1) := by decide +kernel
theorem dX2_holds_120 : decode cX2_holds 120 = .ok (.iaload, 1) := by decide +kernel
theorem dX2_holds_121 : decode cX2_holds 121 = .ok (.isub, 1) := by decide +kernel
theorem dX2_holds_122 : decode cX2_holds 122 = .ok (.iastore, 1) := by decide +kernel
theorem dX2_holds_123 : decode cX2_holds 123 = .ok (.goto 153, 3) := by decide +kernel
theorem dX2_holds_126 : decode cX2_holds 126 = .ok (.iload 6, 2) := by decide +kernel
theorem dX2_holds_128 : decode cX2_holds 128 = .ok (.bipush 38, 2) := by decide +kernel
theorem dX2_holds_130 : decode cX2_holds 130 = .ok (.if_icmp .eq 10, 3) := by decide +kernel
theorem dX2_holds_133 : decode cX2_holds 133 = .ok (.iload 6, 2) := by decide +kernel
theorem dX2_holds_135 : decode cX2_holds 135 = .ok (.bipush 124, 2) := by decide +kernel
theorem dX2_holds_137 : decode cX2_holds 137 = .ok (.if_icmp .ne 72, 3) := by decide +kernel
theorem dX2_holds_140 : decode cX2_holds 140 = .ok (.aload_n 0, 1) := by decide +kernel
theorem dX2_holds_141 : decode cX2_holds 141 = .ok (.getfield 24, 3) := by decide +kernel
theorem dX2_holds_144 : decode cX2_holds 144 = .ok (.iload 4, 2) := by decide +kernel
theorem dX2_holds_146 : decode cX2_holds 146 = .ok (.iconst 1, 1) := by decide +kernel
theorem dX2_holds_147 : decode cX2_holds 147 = .ok (.isub, 1) := by decide +kernel
theorem dX2_holds_148 : decode cX2_holds 148 = .ok (.iaload, 1) := by decide +kernel
theorem dX2_holds_149 : decode cX2_holds 149 = .ok (.ifCond .ne 7, 3) := by decide +kernel
theorem dX2_holds_152 : decode cX2_holds 152 = .ok (.iconst 1, 1) := by decide +kernel
theorem dX2_holds_153 : decode cX2_holds 153 = .ok (.goto 4, 3) := by decide +kernel
theorem dX2_holds_156 : decode cX2_holds 156 = .ok (.iconst 0, 1) := by decide +kernel
theorem dX2_holds_157 : decode cX2_holds 157 = .ok (.iload 6, 2) := by decide +kernel
theorem dX2_holds_159 : decode cX2_holds 159 = .ok (.bipush 38, 2) := by decide +kernel
theorem dX2_holds_161 : decode cX2_holds 161 = .ok (.if_icmp .ne 7, 3) := by decide +kernel
theorem dX2_holds_164 : decode cX2_holds 164 = .ok (.iconst 1, 1) := by decide +kernel
theorem dX2_holds_165 : decode cX2_holds 165 = .ok (.goto 4, 3) := by decide +kernel
theorem dX2_holds_168 : decode cX2_holds 168 = .ok (.iconst 0, 1) := by decide +kernel
theorem dX2_holds_169 : decode cX2_holds 169 = .ok (.if_icmp .ne 7, 3) := by decide +kernel
theorem dX2_holds_172 : decode cX2_holds 172 = .ok (.iconst 1, 1) := by decide +kernel
theorem dX2_holds_173 : decode cX2_holds 173 = .ok (.goto 4, 3) := by decide +kernel
theorem dX2_holds_176 : decode cX2_holds 176 = .ok (.iconst 0, 1) := by decide +kernel
theorem dX2_holds_177 : decode cX2_holds 177 = .ok (.istore 7, 2) := by decide +kernel
theorem dX2_holds_179 : decode cX2_holds 179 = .ok (.iload 7, 2) := by decide +kernel
theorem dX2_holds_181 : decode cX2_holds 181 = .ok (.ifCond .eq 22, 3) := by decide +kernel
theorem dX2_holds_184 : decode cX2_holds 184 = .ok (.iload 5, 2) := by decide +kernel
theorem dX2_holds_186 : decode cX2_holds 186 = .ok (.aload_n 0, 1) := by decide +kernel
theorem dX2_holds_187 : decode cX2_holds 187 = .ok (.getfield 21, 3) := by decide +kernel
theorem dX2_holds_190 : decode cX2_holds 190 = .ok (.iload 5, 2) := by decide +kernel
theorem dX2_holds_192 : decode cX2_holds 192 = .ok (.iaload, 1) := by decide +kernel
theorem dX2_holds_193 : decode cX2_holds 193 = .ok (.iconst 1, 1) := by decide +kernel
theorem dX2_holds_194 : decode cX2_holds 194 = .ok (.isub, 1) := by decide +kernel
theorem dX2_holds_195 : decode cX2_holds 195 = .ok (.invokestatic 42, 3) := by decide +kernel
theorem dX2_holds_198 : decode cX2_holds 198 = .ok (.istore 5, 2) := by decide +kernel
theorem dX2_holds_200 : decode cX2_holds 200 = .ok (.goto 6, 3) := by decide +kernel
theorem dX2_holds_203 : decode cX2_holds 203 = .ok (.iinc 4 (-1), 3) := by decide +kernel
theorem dX2_holds_206 : decode cX2_holds 206 = .ok (.goto 70, 3) := by decide +kernel
theorem dX2_holds_209 : decode cX2_holds 209 = .ok (.iload 4, 2) := by decide +kernel
theorem dX2_holds_211 : decode cX2_holds 211 = .ok (.iconst 2, 1) := by decide +kernel
theorem dX2_holds_212 : decode cX2_holds 212 = .ok (.if_icmp .lt 29, 3) := by decide +kernel
theorem dX2_holds_215 : decode cX2_holds 215 = .ok (.aload_n 0, 1) := by decide +kernel
theorem dX2_holds_216 : decode cX2_holds 216 = .ok (.getfield 24, 3) := by decide +kernel
theorem dX2_holds_219 : decode cX2_holds 219 = .ok (.iload 4, 2) := by decide +kernel
theorem dX2_holds_221 : decode cX2_holds 221 = .ok (.iconst 1, 1) := by decide +kernel
theorem dX2_holds_222 : decode cX2_holds 222 = .ok (.isub, 1) := by decide +kernel
theorem dX2_holds_223 : decode cX2_holds 223 = .ok (.iaload, 1) := by decide +kernel
theorem dX2_holds_224 : decode cX2_holds 224 = .ok (.ifCond .ne 19, 3) := by decide +kernel
theorem dX2_holds_227 : decode cX2_holds 227 = .ok (.iload 6, 2) := by decide +kernel
theorem dX2_holds_229 : decode cX2_holds 229 = .ok (.bipush 47, 2) := by decide +kernel
theorem dX2_holds_231 : decode cX2_holds 231 = .ok (.if_icmp .eq 10, 3) := by decide +kernel
theorem dX2_holds_234 : decode cX2_holds 234 = .ok (.iload 6, 2) := by decide +kernel
theorem dX2_holds_236 : decode cX2_holds 236 = .ok (.bipush 37, 2) := by decide +kernel
theorem dX2_holds_238 : decode cX2_holds 238 = .ok (.if_icmp .ne 5, 3) := by decide +kernel
theorem dX2_holds_241 : decode cX2_holds 241 = .ok (.iconst 0, 1) := by decide +kernel
theorem dX2_holds_242 : decode cX2_holds 242 = .ok (.ireturn, 1) := by decide +kernel
theorem dX2_holds_243 : decode cX2_holds 243 = .ok (.iinc 4 (-1), 3) := by decide +kernel
theorem dX2_holds_246 : decode cX2_holds 246 = .ok (.aload_n 0, 1) := by decide +kernel
theorem dX2_holds_247 : decode cX2_holds 247 = .ok (.getfield 24, 3) := by decide +kernel
theorem dX2_holds_250 : decode cX2_holds 250 = .ok (.iload 4, 2) := by decide +kernel
theorem dX2_holds_252 : decode cX2_holds 252 = .ok (.iconst 1, 1) := by decide +kernel
theorem dX2_holds_253 : decode cX2_holds 253 = .ok (.isub, 1) := by decide +kernel
theorem dX2_holds_254 : decode cX2_holds 254 = .ok (.iload 6, 2) := by decide +kernel
theorem dX2_holds_256 : decode cX2_holds 256 = .ok (.aload_n 0, 1) := by decide +kernel
theorem dX2_holds_257 : decode cX2_holds 257 = .ok (.getfield 24, 3) := by decide +kernel
theorem dX2_holds_260 : decode cX2_holds 260 = .ok (.iload 4, 2) := by decide +kernel
theorem dX2_holds_262 : decode cX2_holds 262 = .ok (.iconst 1, 1) := by decide +kernel
theorem dX2_holds_263 : decode cX2_holds 263 = .ok (.isub, 1) := by decide +kernel
theorem dX2_holds_264 : decode cX2_holds 264 = .ok (.iaload, 1) := by decide +kernel
theorem dX2_holds_265 : decode cX2_holds 265 = .ok (.aload_n 0, 1) := by decide +kernel
theorem dX2_holds_266 : decode cX2_holds 266 = .ok (.getfield 24, 3) := by decide +kernel
theorem dX2_holds_269 : decode cX2_holds 269 = .ok (.iload 4, 2) := by decide +kernel
theorem dX2_holds_271 : decode cX2_holds 271 = .ok (.iaload, 1) := by decide +kernel
theorem dX2_holds_272 : decode cX2_holds 272 = .ok (.invokestatic 48, 3) := by decide +kernel
theorem dX2_holds_275 : decode cX2_holds 275 = .ok (.iastore, 1) := by decide +kernel
theorem dX2_holds_276 : decode cX2_holds 276 = .ok (.iinc 5 1, 3) := by decide +kernel
theorem dX2_holds_279 : decode cX2_holds 279 = .ok (.goto (-273), 3) := by decide +kernel
theorem dX2_holds_282 : decode cX2_holds 282 = .ok (.iload 4, 2) := by decide +kernel
theorem dX2_holds_284 : decode cX2_holds 284 = .ok (.iconst 1, 1) := by decide +kernel
theorem dX2_holds_285 : decode cX2_holds 285 = .ok (.if_icmp .ne 16, 3) := by decide +kernel
theorem dX2_holds_288 : decode cX2_holds 288 = .ok (.aload_n 0, 1) := by decide +kernel
theorem dX2_holds_289 : decode cX2_holds 289 = .ok (.getfield 24, 3) := by decide +kernel
theorem dX2_holds_292 : decode cX2_holds 292 = .ok (.iconst 0, 1) := by decide +kernel
theorem dX2_holds_293 : decode cX2_holds 293 = .ok (.iaload, 1) := by decide +kernel
theorem dX2_holds_294 : decode cX2_holds 294 = .ok (.ifCond .eq 7, 3) := by decide +kernel
theorem dX2_holds_297 : decode cX2_holds 297 = .ok (.iconst 1, 1) := by decide +kernel
theorem dX2_holds_298 : decode cX2_holds 298 = .ok (.goto 4, 3) := by decide +kernel
theorem dX2_holds_301 : decode cX2_holds 301 = .ok (.iconst 0, 1) := by decide +kernel
theorem dX2_holds_302 : decode cX2_holds 302 = .ok (.ireturn, 1) := by decide +kernel
theorem dX2_factAt_0 : decode cX2_factAt 0 = .ok (.iload_n 1, 1) := by decide +kernel
theorem dX2_factAt_1 : decode cX2_factAt 1 = .ok (.ifCond .lt 15, 3) := by decide +kernel
theorem dX2_factAt_4 : decode cX2_factAt 4 = .ok (.iload_n 1, 1) := by decide +kernel
theorem dX2_factAt_5 : decode cX2_factAt 5 = .ok (.aload_n 0, 1) := by decide +kernel
theorem dX2_factAt_6 : decode cX2_factAt 6 = .ok (.arraylength, 1) := by decide +kernel
theorem dX2_factAt_7 : decode cX2_factAt 7 = .ok (.if_icmp .ge 9, 3) := by decide +kernel
theorem dX2_factAt_10 : decode cX2_factAt 10 = .ok (.aload_n 0, 1) := by decide +kernel
theorem dX2_factAt_11 : decode cX2_factAt 11 = .ok (.iload_n 1, 1) := by decide +kernel
theorem dX2_factAt_12 : decode cX2_factAt 12 = .ok (.iaload, 1) := by decide +kernel
theorem dX2_factAt_13 : decode cX2_factAt 13 = .ok (.goto 4, 3) := by decide +kernel
theorem dX2_factAt_16 : decode cX2_factAt 16 = .ok (.iconst 0, 1) := by decide +kernel
theorem dX2_factAt_17 : decode cX2_factAt 17 = .ok (.ireturn, 1) := by decide +kernel
theorem dX2_reckon_0 : decode cX2_reckon 0 = .ok (.iload_n 0, 1) := by decide +kernel
theorem dX2_reckon_1 : decode cX2_reckon 1 = .ok (.lookupswitch 125 #[(37, 91), (42, 75), (43, 67), (45, 71), (47, 79), (60, 103), (62, 114)], 67) := by decide +kernel
theorem dX2_reckon_68 : decode cX2_reckon 68 = .ok (.iload_n 1, 1) := by decide +kernel
theorem dX2_reckon_69 : decode cX2_reckon 69 = .ok (.iload_n 2, 1) := by decide +kernel
theorem dX2_reckon_70 : decode cX2_reckon 70 = .ok (.iadd, 1) := by decide +kernel
theorem dX2_reckon_71 : decode cX2_reckon 71 = .ok (.ireturn, 1) := by decide +kernel
theorem dX2_reckon_72 : decode cX2_reckon 72 = .ok (.iload_n 1, 1) := by decide +kernel
theorem dX2_reckon_73 : decode cX2_reckon 73 = .ok (.iload_n 2, 1) := by decide +kernel
theorem dX2_reckon_74 : decode cX2_reckon 74 = .ok (.isub, 1) := by decide +kernel
theorem dX2_reckon_75 : decode cX2_reckon 75 = .ok (.ireturn, 1) := by decide +kernel
theorem dX2_reckon_76 : decode cX2_reckon 76 = .ok (.iload_n 1, 1) := by decide +kernel
theorem dX2_reckon_77 : decode cX2_reckon 77 = .ok (.iload_n 2, 1) := by decide +kernel
theorem dX2_reckon_78 : decode cX2_reckon 78 = .ok (.imul, 1) := by decide +kernel
theorem dX2_reckon_79 : decode cX2_reckon 79 = .ok (.ireturn, 1) := by decide +kernel
theorem dX2_reckon_80 : decode cX2_reckon 80 = .ok (.iload_n 2, 1) := by decide +kernel
theorem dX2_reckon_81 : decode cX2_reckon 81 = .ok (.ifCond .ne 7, 3) := by decide +kernel
theorem dX2_reckon_84 : decode cX2_reckon 84 = .ok (.iconst 0, 1) := by decide +kernel
theorem dX2_reckon_85 : decode cX2_reckon 85 = .ok (.goto 6, 3) := by decide +kernel
theorem dX2_reckon_88 : decode cX2_reckon 88 = .ok (.iload_n 1, 1) := by decide +kernel
theorem dX2_reckon_89 : decode cX2_reckon 89 = .ok (.iload_n 2, 1) := by decide +kernel
theorem dX2_reckon_90 : decode cX2_reckon 90 = .ok (.idiv, 1) := by decide +kernel
theorem dX2_reckon_91 : decode cX2_reckon 91 = .ok (.ireturn, 1) := by decide +kernel
theorem dX2_reckon_92 : decode cX2_reckon 92 = .ok (.iload_n 2, 1) := by decide +kernel
theorem dX2_reckon_93 : decode cX2_reckon 93 = .ok (.ifCond .ne 7, 3) := by decide +kernel
theorem dX2_reckon_96 : decode cX2_reckon 96 = .ok (.iconst 0, 1) := by decide +kernel
theorem dX2_reckon_97 : decode cX2_reckon 97 = .ok (.goto 6, 3) := by decide +kernel
theorem dX2_reckon_100 : decode cX2_reckon 100 = .ok (.iload_n 1, 1) := by decide +kernel
theorem dX2_reckon_101 : decode cX2_reckon 101 = .ok (.iload_n 2, 1) := by decide +kernel
theorem dX2_reckon_102 : decode cX2_reckon 102 = .ok (.irem, 1) := by decide +kernel
theorem dX2_reckon_103 : decode cX2_reckon 103 = .ok (.ireturn, 1) := by decide +kernel
theorem dX2_reckon_104 : decode cX2_reckon 104 = .ok (.iload_n 1, 1) := by decide +kernel
theorem dX2_reckon_105 : decode cX2_reckon 105 = .ok (.iload_n 2, 1) := by decide +kernel
theorem dX2_reckon_106 : decode cX2_reckon 106 = .ok (.if_icmp .ge 7, 3) := by decide +kernel
theorem dX2_reckon_109 : decode cX2_reckon 109 = .ok (.iconst 1, 1) := by decide +kernel
theorem dX2_reckon_110 : decode cX2_reckon 110 = .ok (.goto 4, 3) := by decide +kernel
theorem dX2_reckon_113 : decode cX2_reckon 113 = .ok (.iconst 0, 1) := by decide +kernel
theorem dX2_reckon_114 : decode cX2_reckon 114 = .ok (.ireturn, 1) := by decide +kernel
theorem dX2_reckon_115 : decode cX2_reckon 115 = .ok (.iload_n 1, 1) := by decide +kernel
theorem dX2_reckon_116 : decode cX2_reckon 116 = .ok (.iload_n 2, 1) := by decide +kernel
theorem dX2_reckon_117 : decode cX2_reckon 117 = .ok (.if_icmp .le 7, 3) := by decide +kernel
theorem dX2_reckon_120 : decode cX2_reckon 120 = .ok (.iconst 1, 1) := by decide +kernel
theorem dX2_reckon_121 : decode cX2_reckon 121 = .ok (.goto 4, 3) := by decide +kernel
theorem dX2_reckon_124 : decode cX2_reckon 124 = .ok (.iconst 0, 1) := by decide +kernel
theorem dX2_reckon_125 : decode cX2_reckon 125 = .ok (.ireturn, 1) := by decide +kernel
theorem dX2_reckon_126 : decode cX2_reckon 126 = .ok (.iload_n 1, 1) := by decide +kernel
theorem dX2_reckon_127 : decode cX2_reckon 127 = .ok (.iload_n 2, 1) := by decide +kernel
theorem dX2_reckon_128 : decode cX2_reckon 128 = .ok (.if_icmp .ne 7, 3) := by decide +kernel
theorem dX2_reckon_131 : decode cX2_reckon 131 = .ok (.iconst 1, 1) := by decide +kernel
theorem dX2_reckon_132 : decode cX2_reckon 132 = .ok (.goto 4, 3) := by decide +kernel
theorem dX2_reckon_135 : decode cX2_reckon 135 = .ok (.iconst 0, 1) := by decide +kernel
theorem dX2_reckon_136 : decode cX2_reckon 136 = .ok (.ireturn, 1) := by decide +kernel
theorem dX7_init_0 : decode cX7_init 0 = .ok (.aload_n 0, 1) := by decide +kernel
theorem dX7_init_1 : decode cX7_init 1 = .ok (.invokespecial 3, 3) := by decide +kernel
theorem dX7_init_4 : decode cX7_init 4 = .ok (.aload_n 0, 1) := by decide +kernel
theorem dX7_init_5 : decode cX7_init 5 = .ok (.bipush 7, 2) := by decide +kernel
theorem dX7_init_7 : decode cX7_init 7 = .ok (.newarray .int, 2) := by decide +kernel
theorem dX7_init_9 : decode cX7_init 9 = .ok (.putfield 9, 3) := by decide +kernel
theorem dX7_init_12 : decode cX7_init 12 = .ok (.aload_n 0, 1) := by decide +kernel
theorem dX7_init_13 : decode cX7_init 13 = .ok (.aload_n 1, 1) := by decide +kernel
theorem dX7_init_14 : decode cX7_init 14 = .ok (.putfield 15, 3) := by decide +kernel
theorem dX7_init_17 : decode cX7_init 17 = .ok (.aload_n 0, 1) := by decide +kernel
theorem dX7_init_18 : decode cX7_init 18 = .ok (.aload_n 2, 1) := by decide +kernel
theorem dX7_init_19 : decode cX7_init 19 = .ok (.putfield 19, 3) := by decide +kernel
theorem dX7_init_22 : decode cX7_init 22 = .ok (.return_, 1) := by decide +kernel
theorem dX7_take_0 : decode cX7_take 0 = .ok (.iconst 0, 1) := by decide +kernel
theorem dX7_take_1 : decode cX7_take 1 = .ok (.istore_n 2, 1) := by decide +kernel
theorem dX7_take_2 : decode cX7_take 2 = .ok (.iload_n 2, 1) := by decide +kernel
theorem dX7_take_3 : decode cX7_take 3 = .ok (.aload_n 0, 1) := by decide +kernel
theorem dX7_take_4 : decode cX7_take 4 = .ok (.getfield 9, 3) := by decide +kernel
theorem dX7_take_7 : decode cX7_take 7 = .ok (.arraylength, 1) := by decide +kernel
theorem dX7_take_8 : decode cX7_take 8 = .ok (.if_icmp .ge 16, 3) := by decide +kernel
theorem dX7_take_11 : decode cX7_take 11 = .ok (.aload_n 0, 1) := by decide +kernel
theorem dX7_take_12 : decode cX7_take 12 = .ok (.getfield 9, 3) := by decide +kernel
theorem dX7_take_15 : decode cX7_take 15 = .ok (.iload_n 2, 1) := by decide +kernel
theorem dX7_take_16 : decode cX7_take 16 = .ok (.iconst 0, 1) := by decide +kernel
theorem dX7_take_17 : decode cX7_take 17 = .ok (.iastore, 1) := by decide +kernel
theorem dX7_take_18 : decode cX7_take 18 = .ok (.iinc 2 1, 3) := by decide +kernel
theorem dX7_take_21 : decode cX7_take 21 = .ok (.goto (-19), 3) := by decide +kernel
theorem dX7_take_24 : decode cX7_take 24 = .ok (.iconst (-1), 1) := by decide +kernel
theorem dX7_take_25 : decode cX7_take 25 = .ok (.istore_n 2, 1) := by decide +kernel
theorem dX7_take_26 : decode cX7_take 26 = .ok (.aload_n 0, 1) := by decide +kernel
theorem dX7_take_27 : decode cX7_take 27 = .ok (.getfield 15, 3) := by decide +kernel
theorem dX7_take_30 : decode cX7_take 30 = .ok (.getfield 23, 3) := by decide +kernel
theorem dX7_take_33 : decode cX7_take 33 = .ok (.getfield 29, 3) := by decide +kernel
theorem dX7_take_36 : decode cX7_take 36 = .ok (.iconst 1, 1) := by decide +kernel
theorem dX7_take_37 : decode cX7_take 37 = .ok (.isub, 1) := by decide +kernel
theorem dX7_take_38 : decode cX7_take 38 = .ok (.istore_n 3, 1) := by decide +kernel
theorem dX7_take_39 : decode cX7_take 39 = .ok (.iload_n 3, 1) := by decide +kernel
theorem dX7_take_40 : decode cX7_take 40 = .ok (.ifCond .lt 81, 3) := by decide +kernel
theorem dX7_take_43 : decode cX7_take 43 = .ok (.aload_n 1, 1) := by decide +kernel
theorem dX7_take_44 : decode cX7_take 44 = .ok (.iload_n 3, 1) := by decide +kernel
theorem dX7_take_45 : decode cX7_take 45 = .ok (.invokevirtual 35, 3) := by decide +kernel
theorem dX7_take_48 : decode cX7_take 48 = .ok (.istore 4, 2) := by decide +kernel
theorem dX7_take_50 : decode cX7_take 50 = .ok (.iload 4, 2) := by decide +kernel
theorem dX7_take_52 : decode cX7_take 52 = .ok (.bipush 6, 2) := by decide +kernel
theorem dX7_take_54 : decode cX7_take 54 = .ok (.if_icmp .eq 31, 3) := by decide +kernel
theorem dX7_take_57 : decode cX7_take 57 = .ok (.aload_n 0, 1) := by decide +kernel
theorem dX7_take_58 : decode cX7_take 58 = .ok (.getfield 15, 3) := by decide +kernel
theorem dX7_take_61 : decode cX7_take 61 = .ok (.getfield 41, 3) := by decide +kernel
theorem dX7_take_64 : decode cX7_take 64 = .ok (.iload 4, 2) := by decide +kernel
theorem dX7_take_66 : decode cX7_take 66 = .ok (.invokevirtual 45, 3) := by decide +kernel
theorem dX7_take_69 : decode cX7_take 69 = .ok (.ifCond .eq 20, 3) := by decide +kernel
theorem dX7_take_72 : decode cX7_take 72 = .ok (.aload_n 0, 1) := by decide +kernel
theorem dX7_take_73 : decode cX7_take 73 = .ok (.getfield 15, 3) := by decide +kernel
theorem dX7_take_76 : decode cX7_take 76 = .ok (.iload_n 3, 1) := by decide +kernel
theorem dX7_take_77 : decode cX7_take 77 = .ok (.iload 4, 2) := by decide +kernel
theorem dX7_take_79 : decode cX7_take 79 = .ok (.invokevirtual 51, 3) := by decide +kernel
theorem dX7_take_82 : decode cX7_take 82 = .ok (.ifCond .eq 7, 3) := by decide +kernel
theorem dX7_take_85 : decode cX7_take 85 = .ok (.iconst 1, 1) := by decide +kernel
theorem dX7_take_86 : decode cX7_take 86 = .ok (.goto 4, 3) := by decide +kernel
theorem dX7_take_89 : decode cX7_take 89 = .ok (.iconst 0, 1) := by decide +kernel
theorem dX7_take_90 : decode cX7_take 90 = .ok (.istore 5, 2) := by decide +kernel
theorem dX7_take_92 : decode cX7_take 92 = .ok (.iload 5, 2) := by decide +kernel
theorem dX7_take_94 : decode cX7_take 94 = .ok (.ifCond .eq 19, 3) := by decide +kernel
theorem dX7_take_97 : decode cX7_take 97 = .ok (.aload_n 0, 1) := by decide +kernel
theorem dX7_take_98 : decode cX7_take 98 = .ok (.getfield 9, 3) := by decide +kernel
theorem dX7_take_101 : decode cX7_take 101 = .ok (.iload 4, 2) := by decide +kernel
theorem dX7_take_103 : decode cX7_take 103 = .ok (.dup2, 1) := by decide +kernel
theorem dX7_take_104 : decode cX7_take 104 = .ok (.iaload, 1) := by decide +kernel
theorem dX7_take_105 : decode cX7_take 105 = .ok (.iconst 1, 1) := by decide +kernel
theorem dX7_take_106 : decode cX7_take 106 = .ok (.iload_n 3, 1) := by decide +kernel
theorem dX7_take_107 : decode cX7_take 107 = .ok (.ishl, 1) := by decide +kernel
theorem dX7_take_108 : decode cX7_take 108 = .ok (.ior, 1) := by decide +kernel
theorem dX7_take_109 : decode cX7_take 109 = .ok (.iastore, 1) := by decide +kernel
theorem dX7_take_110 : decode cX7_take 110 = .ok (.goto 5, 3) := by decide +kernel
theorem dX7_take_113 : decode cX7_take 113 = .ok (.iload_n 3, 1) := by decide +kernel
theorem dX7_take_114 : decode cX7_take 114 = .ok (.istore_n 2, 1) := by decide +kernel
theorem dX7_take_115 : decode cX7_take 115 = .ok (.iinc 3 (-1), 3) := by decide +kernel
theorem dX7_take_118 : decode cX7_take 118 = .ok (.goto (-79), 3) := by decide +kernel
theorem dX7_take_121 : decode cX7_take 121 = .ok (.aload_n 1, 1) := by decide +kernel
theorem dX7_take_122 : decode cX7_take 122 = .ok (.invokevirtual 55, 3) := by decide +kernel
theorem dX7_take_125 : decode cX7_take 125 = .ok (.iload_n 2, 1) := by decide +kernel
theorem dX7_take_126 : decode cX7_take 126 = .ok (.iconst (-1), 1) := by decide +kernel
theorem dX7_take_127 : decode cX7_take 127 = .ok (.if_icmp .ne 10, 3) := by decide +kernel
theorem dX7_take_130 : decode cX7_take 130 = .ok (.aload_n 0, 1) := by decide +kernel
theorem dX7_take_131 : decode cX7_take 131 = .ok (.invokevirtual 58, 3) := by decide +kernel
theorem dX7_take_134 : decode cX7_take 134 = .ok (.goto 7, 3) := by decide +kernel
theorem dX7_take_137 : decode cX7_take 137 = .ok (.ldc 62, 2) := by decide +kernel
theorem dX7_take_139 : decode cX7_take 139 = .ok (.iload_n 2, 1) := by decide +kernel
theorem dX7_take_140 : decode cX7_take 140 = .ok (.isub, 1) := by decide +kernel
theorem dX7_take_141 : decode cX7_take 141 = .ok (.ireturn, 1) := by decide +kernel
theorem dX7_firstBroken_0 : decode cX7_firstBroken 0 = .ok (.iconst 0, 1) := by decide +kernel
theorem dX7_firstBroken_1 : decode cX7_firstBroken 1 = .ok (.istore_n 1, 1) := by decide +kernel
theorem dX7_firstBroken_2 : decode cX7_firstBroken 2 = .ok (.iload_n 1, 1) := by decide +kernel
theorem dX7_firstBroken_3 : decode cX7_firstBroken 3 = .ok (.aload_n 0, 1) := by decide +kernel
theorem dX7_firstBroken_4 : decode cX7_firstBroken 4 = .ok (.getfield 15, 3) := by decide +kernel
theorem dX7_firstBroken_7 : decode cX7_firstBroken 7 = .ok (.getfield 41, 3) := by decide +kernel
theorem dX7_firstBroken_10 : decode cX7_firstBroken 10 = .ok (.getfield 63, 3) := by decide +kernel
theorem dX7_firstBroken_13 : decode cX7_firstBroken 13 = .ok (.if_icmp .ge 31, 3) := by decide +kernel
theorem dX7_firstBroken_16 : decode cX7_firstBroken 16 = .ok (.aload_n 0, 1) := by decide +kernel
theorem dX7_firstBroken_17 : decode cX7_firstBroken 17 = .ok (.getfield 19, 3) := by decide +kernel
theorem dX7_firstBroken_20 : decode cX7_firstBroken 20 = .ok (.iload_n 1, 1) := by decide +kernel
theorem dX7_firstBroken_21 : decode cX7_firstBroken 21 = .ok (.aload_n 0, 1) := by decide +kernel
theorem dX7_firstBroken_22 : decode cX7_firstBroken 22 = .ok (.getfield 9, 3) := by decide +kernel
theorem dX7_firstBroken_25 : decode cX7_firstBroken 25 = .ok (.iload_n 1, 1) := by decide +kernel
theorem dX7_firstBroken_26 : decode cX7_firstBroken 26 = .ok (.iaload, 1) := by decide +kernel
theorem dX7_firstBroken_27 : decode cX7_firstBroken 27 = .ok (.invokevirtual 64, 3) := by decide +kernel
theorem dX7_firstBroken_30 : decode cX7_firstBroken 30 = .ok (.ifCond .ne 8, 3) := by decide +kernel
theorem dX7_firstBroken_33 : decode cX7_firstBroken 33 = .ok (.ldc 69, 2) := by decide +kernel
theorem dX7_firstBroken_35 : decode cX7_firstBroken 35 = .ok (.iload_n 1, 1) := by decide +kernel
theorem dX7_firstBroken_36 : decode cX7_firstBroken 36 = .ok (.isub, 1) := by decide +kernel
theorem dX7_firstBroken_37 : decode cX7_firstBroken 37 = .ok (.ireturn, 1) := by decide +kernel
theorem dX7_firstBroken_38 : decode cX7_firstBroken 38 = .ok (.iinc 1 1, 3) := by decide +kernel
theorem dX7_firstBroken_41 : decode cX7_firstBroken 41 = .ok (.goto (-39), 3) := by decide +kernel
theorem dX7_firstBroken_44 : decode cX7_firstBroken 44 = .ok (.iconst 0, 1) := by decide +kernel
theorem dX7_firstBroken_45 : decode cX7_firstBroken 45 = .ok (.ireturn, 1) := by decide +kernel
theorem dX7_worthBy_0 : decode cX7_worthBy 0 = .ok (.aload_n 0, 1) := by decide +kernel
theorem dX7_worthBy_1 : decode cX7_worthBy 1 = .ok (.getfield 15, 3) := by decide +kernel
theorem dX7_worthBy_4 : decode cX7_worthBy 4 = .ok (.getfield 70, 3) := by decide +kernel
theorem dX7_worthBy_7 : decode cX7_worthBy 7 = .ok (.ineg, 1) := by decide +kernel
theorem dX7_worthBy_8 : decode cX7_worthBy 8 = .ok (.aload_n 0, 1) := by decide +kernel
theorem dX7_worthBy_9 : decode cX7_worthBy 9 = .ok (.getfield 9, 3) := by decide +kernel
theorem dX7_worthBy_12 : decode cX7_worthBy 12 = .ok (.bipush 6, 2) := by decide +kernel
theorem dX7_worthBy_14 : decode cX7_worthBy 14 = .ok (.iaload, 1) := by decide +kernel
theorem dX7_worthBy_15 : decode cX7_worthBy 15 = .ok (.invokestatic 73, 3) := by decide +kernel
theorem dX7_worthBy_18 : decode cX7_worthBy 18 = .ok (.imul, 1) := by decide +kernel
theorem dX7_worthBy_19 : decode cX7_worthBy 19 = .ok (.istore_n 2, 1) := by decide +kernel
theorem dX7_worthBy_20 : decode cX7_worthBy 20 = .ok (.iconst 0, 1) := by decide +kernel
theorem dX7_worthBy_21 : decode cX7_worthBy 21 = .ok (.istore_n 3, 1) := by decide +kernel
theorem dX7_worthBy_22 : decode cX7_worthBy 22 = .ok (.iload_n 3, 1) := by decide +kernel
theorem dX7_worthBy_23 : decode cX7_worthBy 23 = .ok (.aload_n 0, 1) := by decide +kernel
theorem dX7_worthBy_24 : decode cX7_worthBy 24 = .ok (.getfield 15, 3) := by decide +kernel
theorem dX7_worthBy_27 : decode cX7_worthBy 27 = .ok (.getfield 41, 3) := by decide +kernel
theorem dX7_worthBy_30 : decode cX7_worthBy 30 = .ok (.getfield 63, 3) := by decide +kernel
theorem dX7_worthBy_33 : decode cX7_worthBy 33 = .ok (.if_icmp .ge 27, 3) := by decide +kernel
theorem dX7_worthBy_36 : decode cX7_worthBy 36 = .ok (.iload_n 2, 1) := by decide +kernel
theorem dX7_worthBy_37 : decode cX7_worthBy 37 = .ok (.aload_n 0, 1) := by decide +kernel
theorem dX7_worthBy_38 : decode cX7_worthBy 38 = .ok (.getfield 19, 3) := by decide +kernel
theorem dX7_worthBy_41 : decode cX7_worthBy 41 = .ok (.iload_n 3, 1) := by decide +kernel
theorem dX7_worthBy_42 : decode cX7_worthBy 42 = .ok (.aload_n 0, 1) := by decide +kernel
theorem dX7_worthBy_43 : decode cX7_worthBy 43 = .ok (.getfield 9, 3) := by decide +kernel
theorem dX7_worthBy_46 : decode cX7_worthBy 46 = .ok (.iload_n 3, 1) := by decide +kernel
theorem dX7_worthBy_47 : decode cX7_worthBy 47 = .ok (.iaload, 1) := by decide +kernel
theorem dX7_worthBy_48 : decode cX7_worthBy 48 = .ok (.aload_n 1, 1) := by decide +kernel
theorem dX7_worthBy_49 : decode cX7_worthBy 49 = .ok (.invokevirtual 78, 3) := by decide +kernel
theorem dX7_worthBy_52 : decode cX7_worthBy 52 = .ok (.iadd, 1) := by decide +kernel
theorem dX7_worthBy_53 : decode cX7_worthBy 53 = .ok (.istore_n 2, 1) := by decide +kernel
theorem dX7_worthBy_54 : decode cX7_worthBy 54 = .ok (.iinc 3 1, 3) := by decide +kernel
theorem dX7_worthBy_57 : decode cX7_worthBy 57 = .ok (.goto (-35), 3) := by decide +kernel
theorem dX7_worthBy_60 : decode cX7_worthBy 60 = .ok (.iload_n 2, 1) := by decide +kernel
theorem dX7_worthBy_61 : decode cX7_worthBy 61 = .ok (.ireturn, 1) := by decide +kernel
theorem dX7_learn_0 : decode cX7_learn 0 = .ok (.ldc 82, 2) := by decide +kernel
theorem dX7_learn_2 : decode cX7_learn 2 = .ok (.istore 4, 2) := by decide +kernel
theorem dX7_learn_4 : decode cX7_learn 4 = .ok (.iconst (-1), 1) := by decide +kernel
theorem dX7_learn_5 : decode cX7_learn 5 = .ok (.istore 5, 2) := by decide +kernel
theorem dX7_learn_7 : decode cX7_learn 7 = .ok (.iconst (-1), 1) := by decide +kernel
theorem dX7_learn_8 : decode cX7_learn 8 = .ok (.istore 6, 2) := by decide +kernel
theorem dX7_learn_10 : decode cX7_learn 10 = .ok (.iconst (-1), 1) := by decide +kernel
theorem dX7_learn_11 : decode cX7_learn 11 = .ok (.istore 7, 2) := by decide +kernel
theorem dX7_learn_13 : decode cX7_learn 13 = .ok (.iconst 0, 1) := by decide +kernel
theorem dX7_learn_14 : decode cX7_learn 14 = .ok (.istore 8, 2) := by decide +kernel
theorem dX7_learn_16 : decode cX7_learn 16 = .ok (.iload 8, 2) := by decide +kernel
theorem dX7_learn_18 : decode cX7_learn 18 = .ok (.bipush 16, 2) := by decide +kernel
theorem dX7_learn_20 : decode cX7_learn 20 = .ok (.if_icmp .ge 127, 3) := by decide +kernel
theorem dX7_learn_23 : decode cX7_learn 23 = .ok (.iload 8, 2) := by decide +kernel
theorem dX7_learn_25 : decode cX7_learn 25 = .ok (.iconst 4, 1) := by decide +kernel
theorem dX7_learn_26 : decode cX7_learn 26 = .ok (.idiv, 1) := by decide +kernel
theorem dX7_learn_27 : decode cX7_learn 27 = .ok (.istore 9, 2) := by decide +kernel
theorem dX7_learn_29 : decode cX7_learn 29 = .ok (.iload 8, 2) := by decide +kernel
theorem dX7_learn_31 : decode cX7_learn 31 = .ok (.iconst 4, 1) := by decide +kernel
theorem dX7_learn_32 : decode cX7_learn 32 = .ok (.irem, 1) := by decide +kernel
theorem dX7_learn_33 : decode cX7_learn 33 = .ok (.istore 10, 2) := by decide +kernel
theorem dX7_learn_35 : decode cX7_learn 35 = .ok (.aload_n 1, 1) := by decide +kernel
theorem dX7_learn_36 : decode cX7_learn 36 = .ok (.iload 9, 2) := by decide +kernel
theorem dX7_learn_38 : decode cX7_learn 38 = .ok (.invokevirtual 83, 3) := by decide +kernel
theorem dX7_learn_41 : decode cX7_learn 41 = .ok (.ifCond .eq 16, 3) := by decide +kernel
theorem dX7_learn_44 : decode cX7_learn 44 = .ok (.aload_n 1, 1) := by decide +kernel
theorem dX7_learn_45 : decode cX7_learn 45 = .ok (.iload 10, 2) := by decide +kernel
theorem dX7_learn_47 : decode cX7_learn 47 = .ok (.invokevirtual 83, 3) := by decide +kernel
theorem dX7_learn_50 : decode cX7_learn 50 = .ok (.ifCond .eq 7, 3) := by decide +kernel
theorem dX7_learn_53 : decode cX7_learn 53 = .ok (.iconst 1, 1) := by decide +kernel
theorem dX7_learn_54 : decode cX7_learn 54 = .ok (.goto 4, 3) := by decide +kernel
theorem dX7_learn_57 : decode cX7_learn 57 = .ok (.iconst 0, 1) := by decide +kernel
theorem dX7_learn_58 : decode cX7_learn 58 = .ok (.istore 11, 2) := by decide +kernel
theorem dX7_learn_60 : decode cX7_learn 60 = .ok (.iload_n 2, 1) := by decide +kernel
theorem dX7_learn_61 : decode cX7_learn 61 = .ok (.istore 12, 2) := by decide +kernel
theorem dX7_learn_63 : decode cX7_learn 63 = .ok (.iload 11, 2) := by decide +kernel
theorem dX7_learn_65 : decode cX7_learn 65 = .ok (.ifCond .eq 76, 3) := by decide +kernel
theorem dX7_learn_68 : decode cX7_learn 68 = .ok (.iload 12, 2) := by decide +kernel
theorem dX7_learn_70 : decode cX7_learn 70 = .ok (.iload_n 3, 1) := by decide +kernel
theorem dX7_learn_71 : decode cX7_learn 71 = .ok (.if_icmp .gt 70, 3) := by decide +kernel
theorem dX7_learn_74 : decode cX7_learn 74 = .ok (.iload 12, 2) := by decide +kernel
theorem dX7_learn_76 : decode cX7_learn 76 = .ok (.iload_n 2, 1) := by decide +kernel
theorem dX7_learn_77 : decode cX7_learn 77 = .ok (.if_icmp .eq 18, 3) := by decide +kernel
theorem dX7_learn_80 : decode cX7_learn 80 = .ok (.aload_n 0, 1) := by decide +kernel
theorem dX7_learn_81 : decode cX7_learn 81 = .ok (.getfield 15, 3) := by decide +kernel
theorem dX7_learn_84 : decode cX7_learn 84 = .ok (.getfield 23, 3) := by decide +kernel
theorem dX7_learn_87 : decode cX7_learn 87 = .ok (.iload 12, 2) := by decide +kernel
theorem dX7_learn_89 : decode cX7_learn 89 = .ok (.invokevirtual 88, 3) := by decide +kernel
theorem dX7_learn_92 : decode cX7_learn 92 = .ok (.ifCond .eq 43, 3) := by decide +kernel
theorem dX7_learn_95 : decode cX7_learn 95 = .ok (.aload_n 1, 1) := by decide +kernel
theorem dX7_learn_96 : decode cX7_learn 96 = .ok (.iload 9, 2) := by decide +kernel
theorem dX7_learn_98 : decode cX7_learn 98 = .ok (.iload 10, 2) := by decide +kernel
theorem dX7_learn_100 : decode cX7_learn 100 = .ok (.iload 12, 2) := by decide +kernel
theorem dX7_learn_102 : decode cX7_learn 102 = .ok (.invokevirtual 91, 3) := by decide +kernel
theorem dX7_learn_105 : decode cX7_learn 105 = .ok (.aload_n 0, 1) := by decide +kernel
theorem dX7_learn_106 : decode cX7_learn 106 = .ok (.aload_n 1, 1) := by decide +kernel
theorem dX7_learn_107 : decode cX7_learn 107 = .ok (.invokevirtual 95, 3) := by decide +kernel
theorem dX7_learn_110 : decode cX7_learn 110 = .ok (.istore 13, 2) := by decide +kernel
theorem dX7_learn_112 : decode cX7_learn 112 = .ok (.iload 13, 2) := by decide +kernel
theorem dX7_learn_114 : decode cX7_learn 114 = .ok (.iload 4, 2) := by decide +kernel
theorem dX7_learn_116 : decode cX7_learn 116 = .ok (.if_icmp .le 19, 3) := by decide +kernel
theorem dX7_learn_119 : decode cX7_learn 119 = .ok (.iload 13, 2) := by decide +kernel
theorem dX7_learn_121 : decode cX7_learn 121 = .ok (.istore 4, 2) := by decide +kernel
theorem dX7_learn_123 : decode cX7_learn 123 = .ok (.iload 9, 2) := by decide +kernel
theorem dX7_learn_125 : decode cX7_learn 125 = .ok (.istore 5, 2) := by decide +kernel
theorem dX7_learn_127 : decode cX7_learn 127 = .ok (.iload 10, 2) := by decide +kernel
theorem dX7_learn_129 : decode cX7_learn 129 = .ok (.istore 6, 2) := by decide +kernel
theorem dX7_learn_131 : decode cX7_learn 131 = .ok (.iload 12, 2) := by decide +kernel
theorem dX7_learn_133 : decode cX7_learn 133 = .ok (.istore 7, 2) := by decide +kernel
theorem dX7_learn_135 : decode cX7_learn 135 = .ok (.iinc 12 1, 3) := by decide +kernel
theorem dX7_learn_138 : decode cX7_learn 138 = .ok (.goto (-75), 3) := by decide +kernel
theorem dX7_learn_141 : decode cX7_learn 141 = .ok (.iinc 8 1, 3) := by decide +kernel
theorem dX7_learn_144 : decode cX7_learn 144 = .ok (.goto (-128), 3) := by decide +kernel
theorem dX7_learn_147 : decode cX7_learn 147 = .ok (.aload_n 1, 1) := by decide +kernel
theorem dX7_learn_148 : decode cX7_learn 148 = .ok (.iload 5, 2) := by decide +kernel
theorem dX7_learn_150 : decode cX7_learn 150 = .ok (.iload 6, 2) := by decide +kernel
theorem dX7_learn_152 : decode cX7_learn 152 = .ok (.iload 7, 2) := by decide +kernel
theorem dX7_learn_154 : decode cX7_learn 154 = .ok (.invokevirtual 91, 3) := by decide +kernel
theorem dX7_learn_157 : decode cX7_learn 157 = .ok (.iload 4, 2) := by decide +kernel
theorem dX7_learn_159 : decode cX7_learn 159 = .ok (.ireturn, 1) := by decide +kernel
