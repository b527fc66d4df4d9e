theorem dX3_init_0 : decode cX3_init 0 = .ok (.aload_n 0, 1) := by decide +kernel
theorem dX3_init_1 : decode cX3_init 1 = .ok (.invokespecial 3, 3) := by decide +kernel
theorem dX3_init_4 : decode cX3_init 4 = .ok (.aload_n 0, 1) := by decide +kernel
theorem dX3_init_5 : decode cX3_init 5 = .ok (.bipush 10, 2) := by decide +kernel
theorem dX3_init_7 : decode cX3_init 7 = .ok (.newarray .int, 2) := by decide +kernel
theorem dX3_init_9 : decode cX3_init 9 = .ok (.putfield 9, 3) := by decide +kernel
theorem dX3_init_12 : decode cX3_init 12 = .ok (.aload_n 0, 1) := by decide +kernel
theorem dX3_init_13 : decode cX3_init 13 = .ok (.bipush 10, 2) := by decide +kernel
theorem dX3_init_15 : decode cX3_init 15 = .ok (.newarray .int, 2) := by decide +kernel
theorem dX3_init_17 : decode cX3_init 17 = .ok (.putfield 15, 3) := by decide +kernel
theorem dX3_init_20 : decode cX3_init 20 = .ok (.aload_n 0, 1) := by decide +kernel
theorem dX3_init_21 : decode cX3_init 21 = .ok (.bipush 10, 2) := by decide +kernel
theorem dX3_init_23 : decode cX3_init 23 = .ok (.newarray .int, 2) := by decide +kernel
theorem dX3_init_25 : decode cX3_init 25 = .ok (.putfield 18, 3) := by decide +kernel
theorem dX3_init_28 : decode cX3_init 28 = .ok (.aload_n 0, 1) := by decide +kernel
theorem dX3_init_29 : decode cX3_init 29 = .ok (.iconst 4, 1) := by decide +kernel
theorem dX3_init_30 : decode cX3_init 30 = .ok (.newarray .int, 2) := by decide +kernel
theorem dX3_init_32 : decode cX3_init 32 = .ok (.putfield 21, 3) := by decide +kernel
theorem dX3_init_35 : decode cX3_init 35 = .ok (.aload_n 0, 1) := by decide +kernel
theorem dX3_init_36 : decode cX3_init 36 = .ok (.ldc 24, 2) := by decide +kernel
theorem dX3_init_38 : decode cX3_init 38 = .ok (.invokevirtual 26, 3) := by decide +kernel
theorem dX3_init_41 : decode cX3_init 41 = .ok (.newarray .int, 2) := by decide +kernel
theorem dX3_init_43 : decode cX3_init 43 = .ok (.putfield 32, 3) := by decide +kernel
theorem dX3_init_46 : decode cX3_init 46 = .ok (.aload_n 0, 1) := by decide +kernel
theorem dX3_init_47 : decode cX3_init 47 = .ok (.bipush 60, 2) := by decide +kernel
theorem dX3_init_49 : decode cX3_init 49 = .ok (.newarray .int, 2) := by decide +kernel
theorem dX3_init_51 : decode cX3_init 51 = .ok (.putfield 35, 3) := by decide +kernel
theorem dX3_init_54 : decode cX3_init 54 = .ok (.aload_n 0, 1) := by decide +kernel
theorem dX3_init_55 : decode cX3_init 55 = .ok (.aload_n 1, 1) := by decide +kernel
theorem dX3_init_56 : decode cX3_init 56 = .ok (.putfield 38, 3) := by decide +kernel
theorem dX3_init_59 : decode cX3_init 59 = .ok (.return_, 1) := by decide +kernel
theorem dX3_gather_0 : decode cX3_gather 0 = .ok (.aload_n 0, 1) := by decide +kernel
theorem dX3_gather_1 : decode cX3_gather 1 = .ok (.iload_n 1, 1) := by decide +kernel
theorem dX3_gather_2 : decode cX3_gather 2 = .ok (.putfield 42, 3) := by decide +kernel
theorem dX3_gather_5 : decode cX3_gather 5 = .ok (.aload_n 0, 1) := by decide +kernel
theorem dX3_gather_6 : decode cX3_gather 6 = .ok (.iconst 0, 1) := by decide +kernel
theorem dX3_gather_7 : decode cX3_gather 7 = .ok (.putfield 46, 3) := by decide +kernel
theorem dX3_gather_10 : decode cX3_gather 10 = .ok (.iconst 0, 1) := by decide +kernel
theorem dX3_gather_11 : decode cX3_gather 11 = .ok (.istore_n 3, 1) := by decide +kernel
theorem dX3_gather_12 : decode cX3_gather 12 = .ok (.iload_n 3, 1) := by decide +kernel
theorem dX3_gather_13 : decode cX3_gather 13 = .ok (.aload_n 0, 1) := by decide +kernel
theorem dX3_gather_14 : decode cX3_gather 14 = .ok (.getfield 38, 3) := by decide +kernel
theorem dX3_gather_17 : decode cX3_gather 17 = .ok (.getfield 49, 3) := by decide +kernel
theorem dX3_gather_20 : decode cX3_gather 20 = .ok (.getfield 55, 3) := by decide +kernel
theorem dX3_gather_23 : decode cX3_gather 23 = .ok (.if_icmp .ge 81, 3) := by decide +kernel
theorem dX3_gather_26 : decode cX3_gather 26 = .ok (.aload_n 0, 1) := by decide +kernel
theorem dX3_gather_27 : decode cX3_gather 27 = .ok (.getfield 38, 3) := by decide +kernel
theorem dX3_gather_30 : decode cX3_gather 30 = .ok (.getfield 49, 3) := by decide +kernel
theorem dX3_gather_33 : decode cX3_gather 33 = .ok (.getfield 58, 3) := by decide +kernel
theorem dX3_gather_36 : decode cX3_gather 36 = .ok (.iload_n 3, 1) := by decide +kernel
theorem dX3_gather_37 : decode cX3_gather 37 = .ok (.iaload, 1) := by decide +kernel
theorem dX3_gather_38 : decode cX3_gather 38 = .ok (.istore 4, 2) := by decide +kernel
theorem dX3_gather_40 : decode cX3_gather 40 = .ok (.iload_n 2, 1) := by decide +kernel
theorem dX3_gather_41 : decode cX3_gather 41 = .ok (.iload 4, 2) := by decide +kernel
theorem dX3_gather_43 : decode cX3_gather 43 = .ok (.ishr, 1) := by decide +kernel
theorem dX3_gather_44 : decode cX3_gather 44 = .ok (.iconst 1, 1) := by decide +kernel
theorem dX3_gather_45 : decode cX3_gather 45 = .ok (.iand, 1) := by decide +kernel
theorem dX3_gather_46 : decode cX3_gather 46 = .ok (.iconst 1, 1) := by decide +kernel
theorem dX3_gather_47 : decode cX3_gather 47 = .ok (.if_icmp .ne 51, 3) := by decide +kernel
theorem dX3_gather_50 : decode cX3_gather 50 = .ok (.aload_n 0, 1) := by decide +kernel
theorem dX3_gather_51 : decode cX3_gather 51 = .ok (.getfield 38, 3) := by decide +kernel
theorem dX3_gather_54 : decode cX3_gather 54 = .ok (.iload 4, 2) := by decide +kernel
theorem dX3_gather_56 : decode cX3_gather 56 = .ok (.aload_n 0, 1) := by decide +kernel
theorem dX3_gather_57 : decode cX3_gather 57 = .ok (.getfield 42, 3) := by decide +kernel
theorem dX3_gather_60 : decode cX3_gather 60 = .ok (.invokevirtual 61, 3) := by decide +kernel
theorem dX3_gather_63 : decode cX3_gather 63 = .ok (.ifCond .eq 12, 3) := by decide +kernel
theorem dX3_gather_66 : decode cX3_gather 66 = .ok (.aload_n 0, 1) := by decide +kernel
theorem dX3_gather_67 : decode cX3_gather 67 = .ok (.iload 4, 2) := by decide +kernel
theorem dX3_gather_69 : decode cX3_gather 69 = .ok (.invokevirtual 65, 3) := by decide +kernel
theorem dX3_gather_72 : decode cX3_gather 72 = .ok (.ifCond .ne 5, 3) := by decide +kernel
theorem dX3_gather_75 : decode cX3_gather 75 = .ok (.iconst 0, 1) := by decide +kernel
theorem dX3_gather_76 : decode cX3_gather 76 = .ok (.ireturn, 1) := by decide +kernel
theorem dX3_gather_77 : decode cX3_gather 77 = .ok (.aload_n 0, 1) := by decide +kernel
theorem dX3_gather_78 : decode cX3_gather 78 = .ok (.getfield 9, 3) := by decide +kernel
theorem dX3_gather_81 : decode cX3_gather 81 = .ok (.aload_n 0, 1) := by decide +kernel
theorem dX3_gather_82 : decode cX3_gather 82 = .ok (.getfield 46, 3) := by decide +kernel
theorem dX3_gather_85 : decode cX3_gather 85 = .ok (.iload 4, 2) := by decide +kernel
theorem dX3_gather_87 : decode cX3_gather 87 = .ok (.iastore, 1) := by decide +kernel
theorem dX3_gather_88 : decode cX3_gather 88 = .ok (.aload_n 0, 1) := by decide +kernel
theorem dX3_gather_89 : decode cX3_gather 89 = .ok (.dup, 1) := by decide +kernel
theorem dX3_gather_90 : decode cX3_gather 90 = .ok (.getfield 46, 3) := by decide +kernel
theorem dX3_gather_93 : decode cX3_gather 93 = .ok (.iconst 1, 1) := by decide +kernel
theorem dX3_gather_94 : decode cX3_gather 94 = .ok (.iadd, 1) := by decide +kernel
theorem dX3_gather_95 : decode cX3_gather 95 = .ok (.putfield 46, 3) := by decide +kernel
theorem dX3_gather_98 : decode cX3_gather 98 = .ok (.iinc 3 1, 3) := by decide +kernel
theorem dX3_gather_101 : decode cX3_gather 101 = .ok (.goto (-89), 3) := by decide +kernel
theorem dX3_gather_104 : decode cX3_gather 104 = .ok (.iconst 1, 1) := by decide +kernel
theorem dX3_gather_105 : decode cX3_gather 105 = .ok (.ireturn, 1) := by decide +kernel
theorem dX3_fitsElders_0 : decode cX3_fitsElders 0 = .ok (.aload_n 0, 1) := by decide +kernel
theorem dX3_fitsElders_1 : decode cX3_fitsElders 1 = .ok (.getfield 38, 3) := by decide +kernel
theorem dX3_fitsElders_4 : decode cX3_fitsElders 4 = .ok (.getfield 49, 3) := by decide +kernel
theorem dX3_fitsElders_7 : decode cX3_fitsElders 7 = .ok (.astore_n 2, 1) := by decide +kernel
theorem dX3_fitsElders_8 : decode cX3_fitsElders 8 = .ok (.aload_n 2, 1) := by decide +kernel
theorem dX3_fitsElders_9 : decode cX3_fitsElders 9 = .ok (.getfield 69, 3) := by decide +kernel
theorem dX3_fitsElders_12 : decode cX3_fitsElders 12 = .ok (.iload_n 1, 1) := by decide +kernel
theorem dX3_fitsElders_13 : decode cX3_fitsElders 13 = .ok (.iaload, 1) := by decide +kernel
theorem dX3_fitsElders_14 : decode cX3_fitsElders 14 = .ok (.istore_n 3, 1) := by decide +kernel
theorem dX3_fitsElders_15 : decode cX3_fitsElders 15 = .ok (.iconst 0, 1) := by decide +kernel
theorem dX3_fitsElders_16 : decode cX3_fitsElders 16 = .ok (.istore 4, 2) := by decide +kernel
theorem dX3_fitsElders_18 : decode cX3_fitsElders 18 = .ok (.iconst 0, 1) := by decide +kernel
theorem dX3_fitsElders_19 : decode cX3_fitsElders 19 = .ok (.istore 5, 2) := by decide +kernel
theorem dX3_fitsElders_21 : decode cX3_fitsElders 21 = .ok (.iload 5, 2) := by decide +kernel
theorem dX3_fitsElders_23 : decode cX3_fitsElders 23 = .ok (.aload_n 0, 1) := by decide +kernel
theorem dX3_fitsElders_24 : decode cX3_fitsElders 24 = .ok (.getfield 46, 3) := by decide +kernel
theorem dX3_fitsElders_27 : decode cX3_fitsElders 27 = .ok (.if_icmp .ge 75, 3) := by decide +kernel
theorem dX3_fitsElders_30 : decode cX3_fitsElders 30 = .ok (.aload_n 0, 1) := by decide +kernel
theorem dX3_fitsElders_31 : decode cX3_fitsElders 31 = .ok (.getfield 9, 3) := by decide +kernel
theorem dX3_fitsElders_34 : decode cX3_fitsElders 34 = .ok (.iload 5, 2) := by decide +kernel
theorem dX3_fitsElders_36 : decode cX3_fitsElders 36 = .ok (.iaload, 1) := by decide +kernel
theorem dX3_fitsElders_37 : decode cX3_fitsElders 37 = .ok (.istore 6, 2) := by decide +kernel
theorem dX3_fitsElders_39 : decode cX3_fitsElders 39 = .ok (.aload_n 2, 1) := by decide +kernel
theorem dX3_fitsElders_40 : decode cX3_fitsElders 40 = .ok (.getfield 69, 3) := by decide +kernel
theorem dX3_fitsElders_43 : decode cX3_fitsElders 43 = .ok (.iload 6, 2) := by decide +kernel
theorem dX3_fitsElders_45 : decode cX3_fitsElders 45 = .ok (.iaload, 1) := by decide +kernel
theorem dX3_fitsElders_46 : decode cX3_fitsElders 46 = .ok (.iload_n 3, 1) := by decide +kernel
theorem dX3_fitsElders_47 : decode cX3_fitsElders 47 = .ok (.iconst 1, 1) := by decide +kernel
theorem dX3_fitsElders_48 : decode cX3_fitsElders 48 = .ok (.isub, 1) := by decide +kernel
theorem dX3_fitsElders_49 : decode cX3_fitsElders 49 = .ok (.if_icmp .ne 5, 3) := by decide +kernel
theorem dX3_fitsElders_52 : decode cX3_fitsElders 52 = .ok (.iconst 0, 1) := by decide +kernel
theorem dX3_fitsElders_53 : decode cX3_fitsElders 53 = .ok (.ireturn, 1) := by decide +kernel
theorem dX3_fitsElders_54 : decode cX3_fitsElders 54 = .ok (.aload_n 2, 1) := by decide +kernel
theorem dX3_fitsElders_55 : decode cX3_fitsElders 55 = .ok (.getfield 72, 3) := by decide +kernel
theorem dX3_fitsElders_58 : decode cX3_fitsElders 58 = .ok (.iload 6, 2) := by decide +kernel
theorem dX3_fitsElders_60 : decode cX3_fitsElders 60 = .ok (.iaload, 1) := by decide +kernel
theorem dX3_fitsElders_61 : decode cX3_fitsElders 61 = .ok (.aload_n 2, 1) := by decide +kernel
theorem dX3_fitsElders_62 : decode cX3_fitsElders 62 = .ok (.getfield 72, 3) := by decide +kernel
theorem dX3_fitsElders_65 : decode cX3_fitsElders 65 = .ok (.iload_n 1, 1) := by decide +kernel
theorem dX3_fitsElders_66 : decode cX3_fitsElders 66 = .ok (.iaload, 1) := by decide +kernel
theorem dX3_fitsElders_67 : decode cX3_fitsElders 67 = .ok (.if_icmp .ne 15, 3) := by decide +kernel
theorem dX3_fitsElders_70 : decode cX3_fitsElders 70 = .ok (.aload_n 2, 1) := by decide +kernel
theorem dX3_fitsElders_71 : decode cX3_fitsElders 71 = .ok (.iload 6, 2) := by decide +kernel
theorem dX3_fitsElders_73 : decode cX3_fitsElders 73 = .ok (.iload_n 3, 1) := by decide +kernel
theorem dX3_fitsElders_74 : decode cX3_fitsElders 74 = .ok (.invokevirtual 75, 3) := by decide +kernel
theorem dX3_fitsElders_77 : decode cX3_fitsElders 77 = .ok (.ifCond .ne 5, 3) := by decide +kernel
theorem dX3_fitsElders_80 : decode cX3_fitsElders 80 = .ok (.iconst 0, 1) := by decide +kernel
theorem dX3_fitsElders_81 : decode cX3_fitsElders 81 = .ok (.ireturn, 1) := by decide +kernel
theorem dX3_fitsElders_82 : decode cX3_fitsElders 82 = .ok (.aload_n 2, 1) := by decide +kernel
theorem dX3_fitsElders_83 : decode cX3_fitsElders 83 = .ok (.getfield 69, 3) := by decide +kernel
theorem dX3_fitsElders_86 : decode cX3_fitsElders 86 = .ok (.iload 6, 2) := by decide +kernel
theorem dX3_fitsElders_88 : decode cX3_fitsElders 88 = .ok (.iaload, 1) := by decide +kernel
theorem dX3_fitsElders_89 : decode cX3_fitsElders 89 = .ok (.iload_n 3, 1) := by decide +kernel
theorem dX3_fitsElders_90 : decode cX3_fitsElders 90 = .ok (.if_icmp .ne 6, 3) := by decide +kernel
theorem dX3_fitsElders_93 : decode cX3_fitsElders 93 = .ok (.iinc 4 1, 3) := by decide +kernel
theorem dX3_fitsElders_96 : decode cX3_fitsElders 96 = .ok (.iinc 5 1, 3) := by decide +kernel
theorem dX3_fitsElders_99 : decode cX3_fitsElders 99 = .ok (.goto (-78), 3) := by decide +kernel
theorem dX3_fitsElders_102 : decode cX3_fitsElders 102 = .ok (.iload 4, 2) := by decide +kernel
theorem dX3_fitsElders_104 : decode cX3_fitsElders 104 = .ok (.iconst 2, 1) := by decide +kernel
theorem dX3_fitsElders_105 : decode cX3_fitsElders 105 = .ok (.if_icmp .ge 7, 3) := by decide +kernel
theorem dX3_fitsElders_108 : decode cX3_fitsElders 108 = .ok (.iconst 1, 1) := by decide +kernel
theorem dX3_fitsElders_109 : decode cX3_fitsElders 109 = .ok (.goto 4, 3) := by decide +kernel
theorem dX3_fitsElders_112 : decode cX3_fitsElders 112 = .ok (.iconst 0, 1) := by decide +kernel
theorem dX3_fitsElders_113 : decode cX3_fitsElders 113 = .ok (.ireturn, 1) := by decide +kernel
theorem dX3_worth_0 : decode cX3_worth 0 = .ok (.aload_n 0, 1) := by decide +kernel
theorem dX3_worth_1 : decode cX3_worth 1 = .ok (.iload_n 1, 1) := by decide +kernel
theorem dX3_worth_2 : decode cX3_worth 2 = .ok (.iload_n 2, 1) := by decide +kernel
theorem dX3_worth_3 : decode cX3_worth 3 = .ok (.invokevirtual 78, 3) := by decide +kernel
theorem dX3_worth_6 : decode cX3_worth 6 = .ok (.ifCond .ne 6, 3) := by decide +kernel
theorem dX3_worth_9 : decode cX3_worth 9 = .ok (.ldc 81, 2) := by decide +kernel
theorem dX3_worth_11 : decode cX3_worth 11 = .ok (.ireturn, 1) := by decide +kernel
theorem dX3_worth_12 : decode cX3_worth 12 = .ok (.aload_n 0, 1) := by decide +kernel
theorem dX3_worth_13 : decode cX3_worth 13 = .ok (.aload_n 3, 1) := by decide +kernel
theorem dX3_worth_14 : decode cX3_worth 14 = .ok (.invokevirtual 82, 3) := by decide +kernel
theorem dX3_worth_17 : decode cX3_worth 17 = .ok (.iconst 0, 1) := by decide +kernel
theorem dX3_worth_18 : decode cX3_worth 18 = .ok (.istore 4, 2) := by decide +kernel
theorem dX3_worth_20 : decode cX3_worth 20 = .ok (.iconst 0, 1) := by decide +kernel
theorem dX3_worth_21 : decode cX3_worth 21 = .ok (.istore 5, 2) := by decide +kernel
theorem dX3_worth_23 : decode cX3_worth 23 = .ok (.iload 5, 2) := by decide +kernel
theorem dX3_worth_25 : decode cX3_worth 25 = .ok (.aload_n 0, 1) := by decide +kernel
theorem dX3_worth_26 : decode cX3_worth 26 = .ok (.getfield 46, 3) := by decide +kernel
theorem dX3_worth_29 : decode cX3_worth 29 = .ok (.if_icmp .ge 26, 3) := by decide +kernel
theorem dX3_worth_32 : decode cX3_worth 32 = .ok (.iload 4, 2) := by decide +kernel
theorem dX3_worth_34 : decode cX3_worth 34 = .ok (.aload_n 0, 1) := by decide +kernel
theorem dX3_worth_35 : decode cX3_worth 35 = .ok (.iload 5, 2) := by decide +kernel
theorem dX3_worth_37 : decode cX3_worth 37 = .ok (.aload_n 0, 1) := by decide +kernel
theorem dX3_worth_38 : decode cX3_worth 38 = .ok (.iload 5, 2) := by decide +kernel
theorem dX3_worth_40 : decode cX3_worth 40 = .ok (.invokevirtual 86, 3) := by decide +kernel
theorem dX3_worth_43 : decode cX3_worth 43 = .ok (.invokevirtual 90, 3) := by decide +kernel
theorem dX3_worth_46 : decode cX3_worth 46 = .ok (.iadd, 1) := by decide +kernel
theorem dX3_worth_47 : decode cX3_worth 47 = .ok (.istore 4, 2) := by decide +kernel
theorem dX3_worth_49 : decode cX3_worth 49 = .ok (.iinc 5 1, 3) := by decide +kernel
theorem dX3_worth_52 : decode cX3_worth 52 = .ok (.goto (-29), 3) := by decide +kernel
theorem dX3_worth_55 : decode cX3_worth 55 = .ok (.iload 4, 2) := by decide +kernel
theorem dX3_worth_57 : decode cX3_worth 57 = .ok (.ireturn, 1) := by decide +kernel
theorem dX3_ask_0 : decode cX3_ask 0 = .ok (.iconst 0, 1) := by decide +kernel
theorem dX3_ask_1 : decode cX3_ask 1 = .ok (.istore_n 2, 1) := by decide +kernel
theorem dX3_ask_2 : decode cX3_ask 2 = .ok (.iload_n 2, 1) := by decide +kernel
theorem dX3_ask_3 : decode cX3_ask 3 = .ok (.aload_n 0, 1) := by decide +kernel
theorem dX3_ask_4 : decode cX3_ask 4 = .ok (.getfield 46, 3) := by decide +kernel
theorem dX3_ask_7 : decode cX3_ask 7 = .ok (.if_icmp .ge 63, 3) := by decide +kernel
theorem dX3_ask_10 : decode cX3_ask 10 = .ok (.aload_n 0, 1) := by decide +kernel
theorem dX3_ask_11 : decode cX3_ask 11 = .ok (.iload_n 2, 1) := by decide +kernel
theorem dX3_ask_12 : decode cX3_ask 12 = .ok (.invokevirtual 94, 3) := by decide +kernel
theorem dX3_ask_15 : decode cX3_ask 15 = .ok (.istore_n 3, 1) := by decide +kernel
theorem dX3_ask_16 : decode cX3_ask 16 = .ok (.aload_n 1, 1) := by decide +kernel
theorem dX3_ask_17 : decode cX3_ask 17 = .ok (.aload_n 0, 1) := by decide +kernel
theorem dX3_ask_18 : decode cX3_ask 18 = .ok (.getfield 38, 3) := by decide +kernel
theorem dX3_ask_21 : decode cX3_ask 21 = .ok (.getfield 49, 3) := by decide +kernel
theorem dX3_ask_24 : decode cX3_ask 24 = .ok (.getfield 69, 3) := by decide +kernel
theorem dX3_ask_27 : decode cX3_ask 27 = .ok (.aload_n 0, 1) := by decide +kernel
theorem dX3_ask_28 : decode cX3_ask 28 = .ok (.getfield 9, 3) := by decide +kernel
theorem dX3_ask_31 : decode cX3_ask 31 = .ok (.iload_n 2, 1) := by decide +kernel
theorem dX3_ask_32 : decode cX3_ask 32 = .ok (.iaload, 1) := by decide +kernel
theorem dX3_ask_33 : decode cX3_ask 33 = .ok (.iaload, 1) := by decide +kernel
theorem dX3_ask_34 : decode cX3_ask 34 = .ok (.invokevirtual 97, 3) := by decide +kernel
theorem dX3_ask_37 : decode cX3_ask 37 = .ok (.astore 4, 2) := by decide +kernel
theorem dX3_ask_39 : decode cX3_ask 39 = .ok (.aload_n 0, 1) := by decide +kernel
theorem dX3_ask_40 : decode cX3_ask 40 = .ok (.getfield 15, 3) := by decide +kernel
theorem dX3_ask_43 : decode cX3_ask 43 = .ok (.iload_n 2, 1) := by decide +kernel
theorem dX3_ask_44 : decode cX3_ask 44 = .ok (.aload 4, 2) := by decide +kernel
theorem dX3_ask_46 : decode cX3_ask 46 = .ok (.ifnonnull 7, 3) := by decide +kernel
theorem dX3_ask_49 : decode cX3_ask 49 = .ok (.iconst (-1), 1) := by decide +kernel
theorem dX3_ask_50 : decode cX3_ask 50 = .ok (.goto 13, 3) := by decide +kernel
theorem dX3_ask_53 : decode cX3_ask 53 = .ok (.aload 4, 2) := by decide +kernel
theorem dX3_ask_55 : decode cX3_ask 55 = .ok (.aload_n 0, 1) := by decide +kernel
theorem dX3_ask_56 : decode cX3_ask 56 = .ok (.getfield 32, 3) := by decide +kernel
theorem dX3_ask_59 : decode cX3_ask 59 = .ok (.iload_n 3, 1) := by decide +kernel
theorem dX3_ask_60 : decode cX3_ask 60 = .ok (.invokevirtual 103, 3) := by decide +kernel
theorem dX3_ask_63 : decode cX3_ask 63 = .ok (.iastore, 1) := by decide +kernel
theorem dX3_ask_64 : decode cX3_ask 64 = .ok (.iinc 2 1, 3) := by decide +kernel
theorem dX3_ask_67 : decode cX3_ask 67 = .ok (.goto (-65), 3) := by decide +kernel
theorem dX3_ask_70 : decode cX3_ask 70 = .ok (.iconst 0, 1) := by decide +kernel
theorem dX3_ask_71 : decode cX3_ask 71 = .ok (.istore_n 2, 1) := by decide +kernel
theorem dX3_ask_72 : decode cX3_ask 72 = .ok (.iload_n 2, 1) := by decide +kernel
theorem dX3_ask_73 : decode cX3_ask 73 = .ok (.iconst 4, 1) := by decide +kernel
theorem dX3_ask_74 : decode cX3_ask 74 = .ok (.if_icmp .ge 48, 3) := by decide +kernel
theorem dX3_ask_77 : decode cX3_ask 77 = .ok (.aload_n 0, 1) := by decide +kernel
theorem dX3_ask_78 : decode cX3_ask 78 = .ok (.getfield 38, 3) := by decide +kernel
theorem dX3_ask_81 : decode cX3_ask 81 = .ok (.getfield 109, 3) := by decide +kernel
theorem dX3_ask_84 : decode cX3_ask 84 = .ok (.aload_n 0, 1) := by decide +kernel
theorem dX3_ask_85 : decode cX3_ask 85 = .ok (.getfield 42, 3) := by decide +kernel
theorem dX3_ask_88 : decode cX3_ask 88 = .ok (.iload_n 2, 1) := by decide +kernel
theorem dX3_ask_89 : decode cX3_ask 89 = .ok (.invokevirtual 113, 3) := by decide +kernel
theorem dX3_ask_92 : decode cX3_ask 92 = .ok (.istore_n 3, 1) := by decide +kernel
theorem dX3_ask_93 : decode cX3_ask 93 = .ok (.aload_n 0, 1) := by decide +kernel
theorem dX3_ask_94 : decode cX3_ask 94 = .ok (.getfield 21, 3) := by decide +kernel
theorem dX3_ask_97 : decode cX3_ask 97 = .ok (.iload_n 2, 1) := by decide +kernel
theorem dX3_ask_98 : decode cX3_ask 98 = .ok (.iload_n 3, 1) := by decide +kernel
theorem dX3_ask_99 : decode cX3_ask 99 = .ok (.iconst (-1), 1) := by decide +kernel
theorem dX3_ask_100 : decode cX3_ask 100 = .ok (.if_icmp .ne 14, 3) := by decide +kernel
theorem dX3_ask_103 : decode cX3_ask 103 = .ok (.aload_n 0, 1) := by decide +kernel
theorem dX3_ask_104 : decode cX3_ask 104 = .ok (.iload_n 2, 1) := by decide +kernel
theorem dX3_ask_105 : decode cX3_ask 105 = .ok (.invokevirtual 118, 3) := by decide +kernel
theorem dX3_ask_108 : decode cX3_ask 108 = .ok (.invokestatic 121, 3) := by decide +kernel
theorem dX3_ask_111 : decode cX3_ask 111 = .ok (.goto 4, 3) := by decide +kernel
theorem dX3_ask_114 : decode cX3_ask 114 = .ok (.iload_n 3, 1) := by decide +kernel
theorem dX3_ask_115 : decode cX3_ask 115 = .ok (.iastore, 1) := by decide +kernel
theorem dX3_ask_116 : decode cX3_ask 116 = .ok (.iinc 2 1, 3) := by decide +kernel
theorem dX3_ask_119 : decode cX3_ask 119 = .ok (.goto (-47), 3) := by decide +kernel
theorem dX3_ask_122 : decode cX3_ask 122 = .ok (.return_, 1) := by decide +kernel
theorem dX3_lowest_0 : decode cX3_lowest 0 = .ok (.iconst 0, 1) := by decide +kernel
theorem dX3_lowest_1 : decode cX3_lowest 1 = .ok (.istore_n 1, 1) := by decide +kernel
theorem dX3_lowest_2 : decode cX3_lowest 2 = .ok (.iload_n 1, 1) := by decide +kernel
theorem dX3_lowest_3 : decode cX3_lowest 3 = .ok (.bipush 16, 2) := by decide +kernel
theorem dX3_lowest_5 : decode cX3_lowest 5 = .ok (.if_icmp .ge 20, 3) := by decide +kernel
theorem dX3_lowest_8 : decode cX3_lowest 8 = .ok (.iload_n 0, 1) := by decide +kernel
theorem dX3_lowest_9 : decode cX3_lowest 9 = .ok (.iload_n 1, 1) := by decide +kernel
theorem dX3_lowest_10 : decode cX3_lowest 10 = .ok (.ishr, 1) := by decide +kernel
theorem dX3_lowest_11 : decode cX3_lowest 11 = .ok (.iconst 1, 1) := by decide +kernel
theorem dX3_lowest_12 : decode cX3_lowest 12 = .ok (.iand, 1) := by decide +kernel
theorem dX3_lowest_13 : decode cX3_lowest 13 = .ok (.iconst 1, 1) := by decide +kernel
theorem dX3_lowest_14 : decode cX3_lowest 14 = .ok (.if_icmp .ne 5, 3) := by decide +kernel
theorem dX3_lowest_17 : decode cX3_lowest 17 = .ok (.iload_n 1, 1) := by decide +kernel
theorem dX3_lowest_18 : decode cX3_lowest 18 = .ok (.ireturn, 1) := by decide +kernel
theorem dX3_lowest_19 : decode cX3_lowest 19 = .ok (.iinc 1 1, 3) := by decide +kernel
theorem dX3_lowest_22 : decode cX3_lowest 22 = .ok (.goto (-20), 3) := by decide +kernel
theorem dX3_lowest_25 : decode cX3_lowest 25 = .ok (.iconst (-1), 1) := by decide +kernel
theorem dX3_lowest_26 : decode cX3_lowest 26 = .ok (.ireturn, 1) := by decide +kernel
theorem dX3_observe_0 : decode cX3_observe 0 = .ok (.aload_n 0, 1) := by decide +kernel
theorem dX3_observe_1 : decode cX3_observe 1 = .ok (.getfield 38, 3) := by decide +kernel
theorem dX3_observe_4 : decode cX3_observe 4 = .ok (.getfield 49, 3) := by decide +kernel
theorem dX3_observe_7 : decode cX3_observe 7 = .ok (.astore_n 2, 1) := by decide +kernel
theorem dX3_observe_8 : decode cX3_observe 8 = .ok (.aload_n 0, 1) := by decide +kernel
theorem dX3_observe_9 : decode cX3_observe 9 = .ok (.getfield 9, 3) := by decide +kernel
theorem dX3_observe_12 : decode cX3_observe 12 = .ok (.iload_n 1, 1) := by decide +kernel
theorem dX3_observe_13 : decode cX3_observe 13 = .ok (.iaload, 1) := by decide +kernel
theorem dX3_observe_14 : decode cX3_observe 14 = .ok (.istore_n 3, 1) := by decide +kernel
theorem dX3_observe_15 : decode cX3_observe 15 = .ok (.aload_n 2, 1) := by decide +kernel
theorem dX3_observe_16 : decode cX3_observe 16 = .ok (.getfield 69, 3) := by decide +kernel
theorem dX3_observe_19 : decode cX3_observe 19 = .ok (.iload_n 3, 1) := by decide +kernel
theorem dX3_observe_20 : decode cX3_observe 20 = .ok (.iaload, 1) := by decide +kernel
theorem dX3_observe_21 : decode cX3_observe 21 = .ok (.istore 4, 2) := by decide +kernel
theorem dX3_observe_23 : decode cX3_observe 23 = .ok (.aload_n 0, 1) := by decide +kernel
theorem dX3_observe_24 : decode cX3_observe 24 = .ok (.iload_n 1, 1) := by decide +kernel
theorem dX3_observe_25 : decode cX3_observe 25 = .ok (.invokevirtual 124, 3) := by decide +kernel
theorem dX3_observe_28 : decode cX3_observe 28 = .ok (.istore 5, 2) := by decide +kernel
theorem dX3_observe_30 : decode cX3_observe 30 = .ok (.iconst 1, 1) := by decide +kernel
theorem dX3_observe_31 : decode cX3_observe 31 = .ok (.istore 6, 2) := by decide +kernel
theorem dX3_observe_33 : decode cX3_observe 33 = .ok (.iconst 0, 1) := by decide +kernel
theorem dX3_observe_34 : decode cX3_observe 34 = .ok (.istore 7, 2) := by decide +kernel
theorem dX3_observe_36 : decode cX3_observe 36 = .ok (.iconst 0, 1) := by decide +kernel
theorem dX3_observe_37 : decode cX3_observe 37 = .ok (.istore 8, 2) := by decide +kernel
theorem dX3_observe_39 : decode cX3_observe 39 = .ok (.aload_n 0, 1) := by decide +kernel
theorem dX3_observe_40 : decode cX3_observe 40 = .ok (.getfield 18, 3) := by decide +kernel
theorem dX3_observe_43 : decode cX3_observe 43 = .ok (.iload_n 1, 1) := by decide +kernel
theorem dX3_observe_44 : decode cX3_observe 44 = .ok (.iconst (-1), 1) := by decide +kernel
theorem dX3_observe_45 : decode cX3_observe 45 = .ok (.iastore, 1) := by decide +kernel
theorem dX3_observe_46 : decode cX3_observe 46 = .ok (.iload_n 1, 1) := by decide +kernel
theorem dX3_observe_47 : decode cX3_observe 47 = .ok (.iconst 1, 1) := by decide +kernel
theorem dX3_observe_48 : decode cX3_observe 48 = .ok (.isub, 1) := by decide +kernel
theorem dX3_observe_49 : decode cX3_observe 49 = .ok (.istore 9, 2) := by decide +kernel
theorem dX3_observe_51 : decode cX3_observe 51 = .ok (.iload 9, 2) := by decide +kernel
theorem dX3_observe_53 : decode cX3_observe 53 = .ok (.ifCond .lt 93, 3) := by decide +kernel
theorem dX3_observe_56 : decode cX3_observe 56 = .ok (.aload_n 2, 1) := by decide +kernel
theorem dX3_observe_57 : decode cX3_observe 57 = .ok (.getfield 72, 3) := by decide +kernel
theorem dX3_observe_60 : decode cX3_observe 60 = .ok (.aload_n 0, 1) := by decide +kernel
theorem dX3_observe_61 : decode cX3_observe 61 = .ok (.getfield 9, 3) := by decide +kernel
theorem dX3_observe_64 : decode cX3_observe 64 = .ok (.iload 9, 2) := by decide +kernel
theorem dX3_observe_66 : decode cX3_observe 66 = .ok (.iaload, 1) := by decide +kernel
theorem dX3_observe_67 : decode cX3_observe 67 = .ok (.iaload, 1) := by decide +kernel
theorem dX3_observe_68 : decode cX3_observe 68 = .ok (.istore 10, 2) := by decide +kernel
theorem dX3_observe_70 : decode cX3_observe 70 = .ok (.aload_n 0, 1) := by decide +kernel
theorem dX3_observe_71 : decode cX3_observe 71 = .ok (.iload 9, 2) := by decide +kernel
theorem dX3_observe_73 : decode cX3_observe 73 = .ok (.invokevirtual 124, 3) := by decide +kernel
theorem dX3_observe_76 : decode cX3_observe 76 = .ok (.iload 5, 2) := by decide +kernel
theorem dX3_observe_78 : decode cX3_observe 78 = .ok (.if_icmp .ne 53, 3) := by decide +kernel
theorem dX3_observe_81 : decode cX3_observe 81 = .ok (.iinc 6 1, 3) := by decide +kernel
theorem dX3_observe_84 : decode cX3_observe 84 = .ok (.aload_n 2, 1) := by decide +kernel
theorem dX3_observe_85 : decode cX3_observe 85 = .ok (.aload_n 0, 1) := by decide +kernel
theorem dX3_observe_86 : decode cX3_observe 86 = .ok (.getfield 9, 3) := by decide +kernel
theorem dX3_observe_89 : decode cX3_observe 89 = .ok (.iload 9, 2) := by decide +kernel
theorem dX3_observe_91 : decode cX3_observe 91 = .ok (.iaload, 1) := by decide +kernel
theorem dX3_observe_92 : decode cX3_observe 92 = .ok (.iload 4, 2) := by decide +kernel
theorem dX3_observe_94 : decode cX3_observe 94 = .ok (.invokevirtual 75, 3) := by decide +kernel
theorem dX3_observe_97 : decode cX3_observe 97 = .ok (.ifCond .eq 34, 3) := by decide +kernel
theorem dX3_observe_100 : decode cX3_observe 100 = .ok (.iinc 7 1, 3) := by decide +kernel
theorem dX3_observe_103 : decode cX3_observe 103 = .ok (.aload_n 0, 1) := by decide +kernel
theorem dX3_observe_104 : decode cX3_observe 104 = .ok (.getfield 18, 3) := by decide +kernel
theorem dX3_observe_107 : decode cX3_observe 107 = .ok (.iload_n 1, 1) := by decide +kernel
theorem dX3_observe_108 : decode cX3_observe 108 = .ok (.iaload, 1) := by decide +kernel
theorem dX3_observe_109 : decode cX3_observe 109 = .ok (.iconst (-1), 1) := by decide +kernel
theorem dX3_observe_110 : decode cX3_observe 110 = .ok (.if_icmp .ne 21, 3) := by decide +kernel
theorem dX3_observe_113 : decode cX3_observe 113 = .ok (.iload 8, 2) := by decide +kernel
theorem dX3_observe_115 : decode cX3_observe 115 = .ok (.iload 10, 2) := by decide +kernel
theorem dX3_observe_117 : decode cX3_observe 117 = .ok (.ishr, 1) := by decide +kernel
theorem dX3_observe_118 : decode cX3_observe 118 = .ok (.iconst 1, 1) := by decide +kernel
theorem dX3_observe_119 : decode cX3_observe 119 = .ok (.iand, 1) := by decide +kernel
theorem dX3_observe_120 : decode cX3_observe 120 = .ok (.ifCond .ne 11, 3) := by decide +kernel
theorem dX3_observe_123 : decode cX3_observe 123 = .ok (.aload_n 0, 1) := by decide +kernel
theorem dX3_observe_124 : decode cX3_observe 124 = .ok (.getfield 18, 3) := by decide +kernel
theorem dX3_observe_127 : decode cX3_observe 127 = .ok (.iload_n 1, 1) := by decide +kernel
theorem dX3_observe_128 : decode cX3_observe 128 = .ok (.iload 10, 2) := by decide +kernel
theorem dX3_observe_130 : decode cX3_observe 130 = .ok (.iastore, 1) := by decide +kernel
theorem dX3_observe_131 : decode cX3_observe 131 = .ok (.iload 8, 2) := by decide +kernel
theorem dX3_observe_133 : decode cX3_observe 133 = .ok (.iconst 1, 1) := by decide +kernel
theorem dX3_observe_134 : decode cX3_observe 134 = .ok (.iload 10, 2) := by decide +kernel
theorem dX3_observe_136 : decode cX3_observe 136 = .ok (.ishl, 1) := by decide +kernel
theorem dX3_observe_137 : decode cX3_observe 137 = .ok (.ior, 1) := by decide +kernel
theorem dX3_observe_138 : decode cX3_observe 138 = .ok (.istore 8, 2) := by decide +kernel
theorem dX3_observe_140 : decode cX3_observe 140 = .ok (.iinc 9 (-1), 3) := by decide +kernel
theorem dX3_observe_143 : decode cX3_observe 143 = .ok (.goto (-92), 3) := by decide +kernel
theorem dX3_observe_146 : decode cX3_observe 146 = .ok (.aload_n 0, 1) := by decide +kernel
theorem dX3_observe_147 : decode cX3_observe 147 = .ok (.getfield 32, 3) := by decide +kernel
theorem dX3_observe_150 : decode cX3_observe 150 = .ok (.iconst 0, 1) := by decide +kernel
theorem dX3_observe_151 : decode cX3_observe 151 = .ok (.iload 6, 2) := by decide +kernel
theorem dX3_observe_153 : decode cX3_observe 153 = .ok (.iastore, 1) := by decide +kernel
theorem dX3_observe_154 : decode cX3_observe 154 = .ok (.aload_n 0, 1) := by decide +kernel
theorem dX3_observe_155 : decode cX3_observe 155 = .ok (.getfield 32, 3) := by decide +kernel
theorem dX3_observe_158 : decode cX3_observe 158 = .ok (.iconst 1, 1) := by decide +kernel
theorem dX3_observe_159 : decode cX3_observe 159 = .ok (.iload_n 1, 1) := by decide +kernel
theorem dX3_observe_160 : decode cX3_observe 160 = .ok (.iastore, 1) := by decide +kernel
theorem dX3_observe_161 : decode cX3_observe 161 = .ok (.aload_n 0, 1) := by decide +kernel
theorem dX3_observe_162 : decode cX3_observe 162 = .ok (.getfield 32, 3) := by decide +kernel
theorem dX3_observe_165 : decode cX3_observe 165 = .ok (.iconst 2, 1) := by decide +kernel
theorem dX3_observe_166 : decode cX3_observe 166 = .ok (.iload 5, 2) := by decide +kernel
theorem dX3_observe_168 : decode cX3_observe 168 = .ok (.iastore, 1) := by decide +kernel
theorem dX3_observe_169 : decode cX3_observe 169 = .ok (.aload_n 0, 1) := by decide +kernel
theorem dX3_observe_170 : decode cX3_observe 170 = .ok (.getfield 32, 3) := by decide +kernel
theorem dX3_observe_173 : decode cX3_observe 173 = .ok (.iconst 3, 1) := by decide +kernel
theorem dX3_observe_174 : decode cX3_observe 174 = .ok (.iload 4, 2) := by decide +kernel
theorem dX3_observe_176 : decode cX3_observe 176 = .ok (.iastore, 1) := by decide +kernel
theorem dX3_observe_177 : decode cX3_observe 177 = .ok (.aload_n 0, 1) := by decide +kernel
theorem dX3_observe_178 : decode cX3_observe 178 = .ok (.getfield 32, 3) := by decide +kernel
theorem dX3_observe_181 : decode cX3_observe 181 = .ok (.iconst 4, 1) := by decide +kernel
theorem dX3_observe_182 : decode cX3_observe 182 = .ok (.iload 4, 2) := by decide +kernel
theorem dX3_observe_184 : decode cX3_observe 184 = .ok (.aload_n 0, 1) := by decide +kernel
theorem dX3_observe_185 : decode cX3_observe 185 = .ok (.getfield 38, 3) := by decide +kernel
theorem dX3_observe_188 : decode cX3_observe 188 = .ok (.getfield 109, 3) := by decide +kernel
theorem dX3_observe_191 : decode cX3_observe 191 = .ok (.getfield 127, 3) := by decide +kernel
theorem dX3_observe_194 : decode cX3_observe 194 = .ok (.aload_n 0, 1) := by decide +kernel
theorem dX3_observe_195 : decode cX3_observe 195 = .ok (.getfield 42, 3) := by decide +kernel
theorem dX3_observe_198 : decode cX3_observe 198 = .ok (.iaload, 1) := by decide +kernel
theorem dX3_observe_199 : decode cX3_observe 199 = .ok (.isub, 1) := by decide +kernel
theorem dX3_observe_200 : decode cX3_observe 200 = .ok (.iastore, 1) := by decide +kernel
theorem dX3_observe_201 : decode cX3_observe 201 = .ok (.aload_n 0, 1) := by decide +kernel
theorem dX3_observe_202 : decode cX3_observe 202 = .ok (.getfield 32, 3) := by decide +kernel
theorem dX3_observe_205 : decode cX3_observe 205 = .ok (.iconst 5, 1) := by decide +kernel
theorem dX3_observe_206 : decode cX3_observe 206 = .ok (.aload_n 0, 1) := by decide +kernel
theorem dX3_observe_207 : decode cX3_observe 207 = .ok (.iload_n 1, 1) := by decide +kernel
theorem dX3_observe_208 : decode cX3_observe 208 = .ok (.invokevirtual 130, 3) := by decide +kernel
theorem dX3_observe_211 : decode cX3_observe 211 = .ok (.ifCond .eq 7, 3) := by decide +kernel
theorem dX3_observe_214 : decode cX3_observe 214 = .ok (.iconst 1, 1) := by decide +kernel
theorem dX3_observe_215 : decode cX3_observe 215 = .ok (.goto 4, 3) := by decide +kernel
theorem dX3_observe_218 : decode cX3_observe 218 = .ok (.iconst 0, 1) := by decide +kernel
theorem dX3_observe_219 : decode cX3_observe 219 = .ok (.iastore, 1) := by decide +kernel
theorem dX3_observe_220 : decode cX3_observe 220 = .ok (.aload_n 0, 1) := by decide +kernel
theorem dX3_observe_221 : decode cX3_observe 221 = .ok (.getfield 32, 3) := by decide +kernel
theorem dX3_observe_224 : decode cX3_observe 224 = .ok (.bipush 6, 2) := by decide +kernel
theorem dX3_observe_226 : decode cX3_observe 226 = .ok (.aload_n 2, 1) := by decide +kernel
theorem dX3_observe_227 : decode cX3_observe 227 = .ok (.getfield 72, 3) := by decide +kernel
theorem dX3_observe_230 : decode cX3_observe 230 = .ok (.iload_n 3, 1) := by decide +kernel
theorem dX3_observe_231 : decode cX3_observe 231 = .ok (.iaload, 1) := by decide +kernel
theorem dX3_observe_232 : decode cX3_observe 232 = .ok (.iastore, 1) := by decide +kernel
theorem dX3_observe_233 : decode cX3_observe 233 = .ok (.aload_n 0, 1) := by decide +kernel
theorem dX3_observe_234 : decode cX3_observe 234 = .ok (.getfield 32, 3) := by decide +kernel
theorem dX3_observe_237 : decode cX3_observe 237 = .ok (.bipush 7, 2) := by decide +kernel
theorem dX3_observe_239 : decode cX3_observe 239 = .ok (.iload 7, 2) := by decide +kernel
theorem dX3_observe_241 : decode cX3_observe 241 = .ok (.iastore, 1) := by decide +kernel
theorem dX3_observe_242 : decode cX3_observe 242 = .ok (.aload_n 0, 1) := by decide +kernel
theorem dX3_observe_243 : decode cX3_observe 243 = .ok (.getfield 32, 3) := by decide +kernel
theorem dX3_observe_246 : decode cX3_observe 246 = .ok (.bipush 8, 2) := by decide +kernel
theorem dX3_observe_248 : decode cX3_observe 248 = .ok (.aload_n 0, 1) := by decide +kernel
theorem dX3_observe_249 : decode cX3_observe 249 = .ok (.getfield 46, 3) := by decide +kernel
theorem dX3_observe_252 : decode cX3_observe 252 = .ok (.iastore, 1) := by decide +kernel
theorem dX3_observe_253 : decode cX3_observe 253 = .ok (.iload 5, 2) := by decide +kernel
theorem dX3_observe_255 : decode cX3_observe 255 = .ok (.ifCond .ne 8, 3) := by decide +kernel
theorem dX3_observe_258 : decode cX3_observe 258 = .ok (.bipush 21, 2) := by decide +kernel
theorem dX3_observe_260 : decode cX3_observe 260 = .ok (.goto 5, 3) := by decide +kernel
theorem dX3_observe_263 : decode cX3_observe 263 = .ok (.bipush 42, 2) := by decide +kernel
theorem dX3_observe_265 : decode cX3_observe 265 = .ok (.istore 9, 2) := by decide +kernel
theorem dX3_observe_267 : decode cX3_observe 267 = .ok (.aload_n 2, 1) := by decide +kernel
theorem dX3_observe_268 : decode cX3_observe 268 = .ok (.getfield 133, 3) := by decide +kernel
theorem dX3_observe_271 : decode cX3_observe 271 = .ok (.iload_n 3, 1) := by decide +kernel
theorem dX3_observe_272 : decode cX3_observe 272 = .ok (.iaload, 1) := by decide +kernel
theorem dX3_observe_273 : decode cX3_observe 273 = .ok (.iconst (-1), 1) := by decide +kernel
theorem dX3_observe_274 : decode cX3_observe 274 = .ok (.if_icmp .eq 10, 3) := by decide +kernel
theorem dX3_observe_277 : decode cX3_observe 277 = .ok (.iload 9, 2) := by decide +kernel
theorem dX3_observe_279 : decode cX3_observe 279 = .ok (.bipush 64, 2) := by decide +kernel
theorem dX3_observe_281 : decode cX3_observe 281 = .ok (.ior, 1) := by decide +kernel
theorem dX3_observe_282 : decode cX3_observe 282 = .ok (.istore 9, 2) := by decide +kernel
theorem dX3_observe_284 : decode cX3_observe 284 = .ok (.aload_n 0, 1) := by decide +kernel
theorem dX3_observe_285 : decode cX3_observe 285 = .ok (.getfield 18, 3) := by decide +kernel
theorem dX3_observe_288 : decode cX3_observe 288 = .ok (.iload_n 1, 1) := by decide +kernel
theorem dX3_observe_289 : decode cX3_observe 289 = .ok (.iaload, 1) := by decide +kernel
theorem dX3_observe_290 : decode cX3_observe 290 = .ok (.iconst (-1), 1) := by decide +kernel
theorem dX3_observe_291 : decode cX3_observe 291 = .ok (.if_icmp .ne 8, 3) := by decide +kernel
theorem dX3_observe_294 : decode cX3_observe 294 = .ok (.iload 9, 2) := by decide +kernel
theorem dX3_observe_296 : decode cX3_observe 296 = .ok (.goto 9, 3) := by decide +kernel
theorem dX3_observe_299 : decode cX3_observe 299 = .ok (.iload 9, 2) := by decide +kernel
theorem dX3_observe_301 : decode cX3_observe 301 = .ok (.sipush 128, 3) := by decide +kernel
theorem dX3_observe_304 : decode cX3_observe 304 = .ok (.ior, 1) := by decide +kernel
theorem dX3_observe_305 : decode cX3_observe 305 = .ok (.ireturn, 1) := by decide +kernel
theorem dX3_sexAt_0 : decode cX3_sexAt 0 = .ok (.aload_n 0, 1) := by decide +kernel
theorem dX3_sexAt_1 : decode cX3_sexAt 1 = .ok (.getfield 38, 3) := by decide +kernel
theorem dX3_sexAt_4 : decode cX3_sexAt 4 = .ok (.getfield 136, 3) := by decide +kernel
theorem dX3_sexAt_7 : decode cX3_sexAt 7 = .ok (.getfield 140, 3) := by decide +kernel
theorem dX3_sexAt_10 : decode cX3_sexAt 10 = .ok (.aload_n 0, 1) := by decide +kernel
theorem dX3_sexAt_11 : decode cX3_sexAt 11 = .ok (.getfield 38, 3) := by decide +kernel
theorem dX3_sexAt_14 : decode cX3_sexAt 14 = .ok (.getfield 49, 3) := by decide +kernel
theorem dX3_sexAt_17 : decode cX3_sexAt 17 = .ok (.getfield 72, 3) := by decide +kernel
theorem dX3_sexAt_20 : decode cX3_sexAt 20 = .ok (.aload_n 0, 1) := by decide +kernel
theorem dX3_sexAt_21 : decode cX3_sexAt 21 = .ok (.getfield 9, 3) := by decide +kernel
theorem dX3_sexAt_24 : decode cX3_sexAt 24 = .ok (.iload_n 1, 1) := by decide +kernel
theorem dX3_sexAt_25 : decode cX3_sexAt 25 = .ok (.iaload, 1) := by decide +kernel
theorem dX3_sexAt_26 : decode cX3_sexAt 26 = .ok (.iaload, 1) := by decide +kernel
theorem dX3_sexAt_27 : decode cX3_sexAt 27 = .ok (.iaload, 1) := by decide +kernel
theorem dX3_sexAt_28 : decode cX3_sexAt 28 = .ok (.ireturn, 1) := by decide +kernel
theorem dX3_isTwin_0 : decode cX3_isTwin 0 = .ok (.aload_n 0, 1) := by decide +kernel
theorem dX3_isTwin_1 : decode cX3_isTwin 1 = .ok (.getfield 38, 3) := by decide +kernel
theorem dX3_isTwin_4 : decode cX3_isTwin 4 = .ok (.getfield 49, 3) := by decide +kernel
theorem dX3_isTwin_7 : decode cX3_isTwin 7 = .ok (.getfield 69, 3) := by decide +kernel
theorem dX3_isTwin_10 : decode cX3_isTwin 10 = .ok (.astore_n 2, 1) := by decide +kernel
theorem dX3_isTwin_11 : decode cX3_isTwin 11 = .ok (.iload_n 1, 1) := by decide +kernel
theorem dX3_isTwin_12 : decode cX3_isTwin 12 = .ok (.ifCond .le 24, 3) := by decide +kernel
theorem dX3_isTwin_15 : decode cX3_isTwin 15 = .ok (.aload_n 2, 1) := by decide +kernel
theorem dX3_isTwin_16 : decode cX3_isTwin 16 = .ok (.aload_n 0, 1) := by decide +kernel
theorem dX3_isTwin_17 : decode cX3_isTwin 17 = .ok (.getfield 9, 3) := by decide +kernel
theorem dX3_isTwin_20 : decode cX3_isTwin 20 = .ok (.iload_n 1, 1) := by decide +kernel
theorem dX3_isTwin_21 : decode cX3_isTwin 21 = .ok (.iconst 1, 1) := by decide +kernel
theorem dX3_isTwin_22 : decode cX3_isTwin 22 = .ok (.isub, 1) := by decide +kernel
theorem dX3_isTwin_23 : decode cX3_isTwin 23 = .ok (.iaload, 1) := by decide +kernel
theorem dX3_isTwin_24 : decode cX3_isTwin 24 = .ok (.iaload, 1) := by decide +kernel
theorem dX3_isTwin_25 : decode cX3_isTwin 25 = .ok (.aload_n 2, 1) := by decide +kernel
theorem dX3_isTwin_26 : decode cX3_isTwin 26 = .ok (.aload_n 0, 1) := by decide +kernel
theorem dX3_isTwin_27 : decode cX3_isTwin 27 = .ok (.getfield 9, 3) := by decide +kernel
theorem dX3_isTwin_30 : decode cX3_isTwin 30 = .ok (.iload_n 1, 1) := by decide +kernel
theorem dX3_isTwin_31 : decode cX3_isTwin 31 = .ok (.iaload, 1) := by decide +kernel
theorem dX3_isTwin_32 : decode cX3_isTwin 32 = .ok (.iaload, 1) := by decide +kernel
theorem dX3_isTwin_33 : decode cX3_isTwin 33 = .ok (.if_icmp .eq 34, 3) := by decide +kernel
theorem dX3_isTwin_36 : decode cX3_isTwin 36 = .ok (.iload_n 1, 1) := by decide +kernel
theorem dX3_isTwin_37 : decode cX3_isTwin 37 = .ok (.iconst 1, 1) := by decide +kernel
theorem dX3_isTwin_38 : decode cX3_isTwin 38 = .ok (.iadd, 1) := by decide +kernel
theorem dX3_isTwin_39 : decode cX3_isTwin 39 = .ok (.aload_n 0, 1) := by decide +kernel
theorem dX3_isTwin_40 : decode cX3_isTwin 40 = .ok (.getfield 46, 3) := by decide +kernel
theorem dX3_isTwin_43 : decode cX3_isTwin 43 = .ok (.if_icmp .ge 28, 3) := by decide +kernel
theorem dX3_isTwin_46 : decode cX3_isTwin 46 = .ok (.aload_n 2, 1) := by decide +kernel
theorem dX3_isTwin_47 : decode cX3_isTwin 47 = .ok (.aload_n 0, 1) := by decide +kernel
theorem dX3_isTwin_48 : decode cX3_isTwin 48 = .ok (.getfield 9, 3) := by decide +kernel
theorem dX3_isTwin_51 : decode cX3_isTwin 51 = .ok (.iload_n 1, 1) := by decide +kernel
theorem dX3_isTwin_52 : decode cX3_isTwin 52 = .ok (.iconst 1, 1) := by decide +kernel
theorem dX3_isTwin_53 : decode cX3_isTwin 53 = .ok (.iadd, 1) := by decide +kernel
theorem dX3_isTwin_54 : decode cX3_isTwin 54 = .ok (.iaload, 1) := by decide +kernel
theorem dX3_isTwin_55 : decode cX3_isTwin 55 = .ok (.iaload, 1) := by decide +kernel
theorem dX3_isTwin_56 : decode cX3_isTwin 56 = .ok (.aload_n 2, 1) := by decide +kernel
theorem dX3_isTwin_57 : decode cX3_isTwin 57 = .ok (.aload_n 0, 1) := by decide +kernel
theorem dX3_isTwin_58 : decode cX3_isTwin 58 = .ok (.getfield 9, 3) := by decide +kernel
theorem dX3_isTwin_61 : decode cX3_isTwin 61 = .ok (.iload_n 1, 1) := by decide +kernel
theorem dX3_isTwin_62 : decode cX3_isTwin 62 = .ok (.iaload, 1) := by decide +kernel
theorem dX3_isTwin_63 : decode cX3_isTwin 63 = .ok (.iaload, 1) := by decide +kernel
theorem dX3_isTwin_64 : decode cX3_isTwin 64 = .ok (.if_icmp .ne 7, 3) := by decide +kernel
theorem dX3_isTwin_67 : decode cX3_isTwin 67 = .ok (.iconst 1, 1) := by decide +kernel
theorem dX3_isTwin_68 : decode cX3_isTwin 68 = .ok (.goto 4, 3) := by decide +kernel
theorem dX3_isTwin_71 : decode cX3_isTwin 71 = .ok (.iconst 0, 1) := by decide +kernel
theorem dX3_isTwin_72 : decode cX3_isTwin 72 = .ok (.ireturn, 1) := by decide +kernel
theorem dX3_placeOf_0 : decode cX3_placeOf 0 = .ok (.iconst 0, 1) := by decide +kernel
theorem dX3_placeOf_1 : decode cX3_placeOf 1 = .ok (.istore_n 2, 1) := by decide +kernel
theorem dX3_placeOf_2 : decode cX3_placeOf 2 = .ok (.iload_n 2, 1) := by decide +kernel
theorem dX3_placeOf_3 : decode cX3_placeOf 3 = .ok (.aload_n 0, 1) := by decide +kernel
theorem dX3_placeOf_4 : decode cX3_placeOf 4 = .ok (.getfield 46, 3) := by decide +kernel
theorem dX3_placeOf_7 : decode cX3_placeOf 7 = .ok (.if_icmp .ge 21, 3) := by decide +kernel
theorem dX3_placeOf_10 : decode cX3_placeOf 10 = .ok (.aload_n 0, 1) := by decide +kernel
theorem dX3_placeOf_11 : decode cX3_placeOf 11 = .ok (.getfield 9, 3) := by decide +kernel
theorem dX3_placeOf_14 : decode cX3_placeOf 14 = .ok (.iload_n 2, 1) := by decide +kernel
theorem dX3_placeOf_15 : decode cX3_placeOf 15 = .ok (.iaload, 1) := by decide +kernel
theorem dX3_placeOf_16 : decode cX3_placeOf 16 = .ok (.iload_n 1, 1) := by decide +kernel
theorem dX3_placeOf_17 : decode cX3_placeOf 17 = .ok (.if_icmp .ne 5, 3) := by decide +kernel
theorem dX3_placeOf_20 : decode cX3_placeOf 20 = .ok (.iload_n 2, 1) := by decide +kernel
theorem dX3_placeOf_21 : decode cX3_placeOf 21 = .ok (.ireturn, 1) := by decide +kernel
theorem dX3_placeOf_22 : decode cX3_placeOf 22 = .ok (.iinc 2 1, 3) := by decide +kernel
theorem dX3_placeOf_25 : decode cX3_placeOf 25 = .ok (.goto (-23), 3) := by decide +kernel
theorem dX3_placeOf_28 : decode cX3_placeOf 28 = .ok (.iconst (-1), 1) := by decide +kernel
theorem dX3_placeOf_29 : decode cX3_placeOf 29 = .ok (.ireturn, 1) := by decide +kernel
theorem dX3_letterAt_0 : decode cX3_letterAt 0 = .ok (.iload_n 1, 1) := by decide +kernel
theorem dX3_letterAt_1 : decode cX3_letterAt 1 = .ok (.ifCond .lt 20, 3) := by decide +kernel
theorem dX3_letterAt_4 : decode cX3_letterAt 4 = .ok (.iload_n 1, 1) := by decide +kernel
theorem dX3_letterAt_5 : decode cX3_letterAt 5 = .ok (.aload_n 0, 1) := by decide +kernel
theorem dX3_letterAt_6 : decode cX3_letterAt 6 = .ok (.getfield 46, 3) := by decide +kernel
theorem dX3_letterAt_9 : decode cX3_letterAt 9 = .ok (.if_icmp .ge 12, 3) := by decide +kernel
theorem dX3_letterAt_12 : decode cX3_letterAt 12 = .ok (.aload_n 0, 1) := by decide +kernel
theorem dX3_letterAt_13 : decode cX3_letterAt 13 = .ok (.getfield 15, 3) := by decide +kernel
theorem dX3_letterAt_16 : decode cX3_letterAt 16 = .ok (.iload_n 1, 1) := by decide +kernel
theorem dX3_letterAt_17 : decode cX3_letterAt 17 = .ok (.iaload, 1) := by decide +kernel
theorem dX3_letterAt_18 : decode cX3_letterAt 18 = .ok (.goto 4, 3) := by decide +kernel
theorem dX3_letterAt_21 : decode cX3_letterAt 21 = .ok (.iconst (-1), 1) := by decide +kernel
theorem dX3_letterAt_22 : decode cX3_letterAt 22 = .ok (.ireturn, 1) := by decide +kernel
theorem dX3_due_0 : decode cX3_due 0 = .ok (.aload_n 0, 1) := by decide +kernel
theorem dX3_due_1 : decode cX3_due 1 = .ok (.iload_n 1, 1) := by decide +kernel
theorem dX3_due_2 : decode cX3_due 2 = .ok (.invokevirtual 145, 3) := by decide +kernel
theorem dX3_due_5 : decode cX3_due 5 = .ok (.istore_n 2, 1) := by decide +kernel
theorem dX3_due_6 : decode cX3_due 6 = .ok (.iload_n 2, 1) := by decide +kernel
theorem dX3_due_7 : decode cX3_due 7 = .ok (.ifCond .ge 6, 3) := by decide +kernel
theorem dX3_due_10 : decode cX3_due 10 = .ok (.bipush (-2), 2) := by decide +kernel
theorem dX3_due_12 : decode cX3_due 12 = .ok (.ireturn, 1) := by decide +kernel
theorem dX3_due_13 : decode cX3_due 13 = .ok (.iload_n 2, 1) := by decide +kernel
theorem dX3_due_14 : decode cX3_due 14 = .ok (.iconst 4, 1) := by decide +kernel
theorem dX3_due_15 : decode cX3_due 15 = .ok (.if_icmp .ge 10, 3) := by decide +kernel
theorem dX3_due_18 : decode cX3_due 18 = .ok (.aload_n 0, 1) := by decide +kernel
theorem dX3_due_19 : decode cX3_due 19 = .ok (.getfield 21, 3) := by decide +kernel
theorem dX3_due_22 : decode cX3_due 22 = .ok (.iload_n 2, 1) := by decide +kernel
theorem dX3_due_23 : decode cX3_due 23 = .ok (.iaload, 1) := by decide +kernel
theorem dX3_due_24 : decode cX3_due 24 = .ok (.ireturn, 1) := by decide +kernel
theorem dX3_due_25 : decode cX3_due 25 = .ok (.iload_n 2, 1) := by decide +kernel
theorem dX3_due_26 : decode cX3_due 26 = .ok (.tableswitch 76 4 6 #[26, 42, 58], 26) := by decide +kernel
theorem dX3_due_52 : decode cX3_due 52 = .ok (.aload_n 0, 1) := by decide +kernel
theorem dX3_due_53 : decode cX3_due 53 = .ok (.getfield 38, 3) := by decide +kernel
theorem dX3_due_56 : decode cX3_due 56 = .ok (.getfield 109, 3) := by decide +kernel
theorem dX3_due_59 : decode cX3_due 59 = .ok (.getfield 148, 3) := by decide +kernel
theorem dX3_due_62 : decode cX3_due 62 = .ok (.aload_n 0, 1) := by decide +kernel
theorem dX3_due_63 : decode cX3_due 63 = .ok (.getfield 42, 3) := by decide +kernel
theorem dX3_due_66 : decode cX3_due 66 = .ok (.iaload, 1) := by decide +kernel
theorem dX3_due_67 : decode cX3_due 67 = .ok (.ireturn, 1) := by decide +kernel
theorem dX3_due_68 : decode cX3_due 68 = .ok (.aload_n 0, 1) := by decide +kernel
theorem dX3_due_69 : decode cX3_due 69 = .ok (.getfield 38, 3) := by decide +kernel
theorem dX3_due_72 : decode cX3_due 72 = .ok (.getfield 109, 3) := by decide +kernel
theorem dX3_due_75 : decode cX3_due 75 = .ok (.getfield 151, 3) := by decide +kernel
theorem dX3_due_78 : decode cX3_due 78 = .ok (.aload_n 0, 1) := by decide +kernel
theorem dX3_due_79 : decode cX3_due 79 = .ok (.getfield 42, 3) := by decide +kernel
theorem dX3_due_82 : decode cX3_due 82 = .ok (.iaload, 1) := by decide +kernel
theorem dX3_due_83 : decode cX3_due 83 = .ok (.ireturn, 1) := by decide +kernel
theorem dX3_due_84 : decode cX3_due 84 = .ok (.aload_n 0, 1) := by decide +kernel
theorem dX3_due_85 : decode cX3_due 85 = .ok (.getfield 38, 3) := by decide +kernel
theorem dX3_due_88 : decode cX3_due 88 = .ok (.getfield 49, 3) := by decide +kernel
theorem dX3_due_91 : decode cX3_due 91 = .ok (.getfield 133, 3) := by decide +kernel
theorem dX3_due_94 : decode cX3_due 94 = .ok (.aload_n 0, 1) := by decide +kernel
theorem dX3_due_95 : decode cX3_due 95 = .ok (.getfield 9, 3) := by decide +kernel
theorem dX3_due_98 : decode cX3_due 98 = .ok (.iload_n 1, 1) := by decide +kernel
theorem dX3_due_99 : decode cX3_due 99 = .ok (.iaload, 1) := by decide +kernel
theorem dX3_due_100 : decode cX3_due 100 = .ok (.iaload, 1) := by decide +kernel
theorem dX3_due_101 : decode cX3_due 101 = .ok (.ireturn, 1) := by decide +kernel
theorem dX3_due_102 : decode cX3_due 102 = .ok (.aload_n 0, 1) := by decide +kernel
theorem dX3_due_103 : decode cX3_due 103 = .ok (.getfield 18, 3) := by decide +kernel
theorem dX3_due_106 : decode cX3_due 106 = .ok (.iload_n 1, 1) := by decide +kernel
theorem dX3_due_107 : decode cX3_due 107 = .ok (.iaload, 1) := by decide +kernel
theorem dX3_due_108 : decode cX3_due 108 = .ok (.ireturn, 1) := by decide +kernel
theorem dX3_gain_0 : decode cX3_gain 0 = .ok (.iload_n 2, 1) := by decide +kernel
theorem dX3_gain_1 : decode cX3_gain 1 = .ok (.bipush (-2), 2) := by decide +kernel
theorem dX3_gain_3 : decode cX3_gain 3 = .ok (.if_icmp .ne 5, 3) := by decide +kernel
theorem dX3_gain_6 : decode cX3_gain 6 = .ok (.iconst 0, 1) := by decide +kernel
theorem dX3_gain_7 : decode cX3_gain 7 = .ok (.ireturn, 1) := by decide +kernel
theorem dX3_gain_8 : decode cX3_gain 8 = .ok (.aload_n 0, 1) := by decide +kernel
theorem dX3_gain_9 : decode cX3_gain 9 = .ok (.getfield 38, 3) := by decide +kernel
theorem dX3_gain_12 : decode cX3_gain 12 = .ok (.getfield 49, 3) := by decide +kernel
theorem dX3_gain_15 : decode cX3_gain 15 = .ok (.getfield 72, 3) := by decide +kernel
theorem dX3_gain_18 : decode cX3_gain 18 = .ok (.aload_n 0, 1) := by decide +kernel
theorem dX3_gain_19 : decode cX3_gain 19 = .ok (.getfield 9, 3) := by decide +kernel
theorem dX3_gain_22 : decode cX3_gain 22 = .ok (.iload_n 1, 1) := by decide +kernel
theorem dX3_gain_23 : decode cX3_gain 23 = .ok (.iaload, 1) := by decide +kernel
theorem dX3_gain_24 : decode cX3_gain 24 = .ok (.iaload, 1) := by decide +kernel
theorem dX3_gain_25 : decode cX3_gain 25 = .ok (.istore_n 3, 1) := by decide +kernel
theorem dX3_gain_26 : decode cX3_gain 26 = .ok (.iload_n 3, 1) := by decide +kernel
theorem dX3_gain_27 : decode cX3_gain 27 = .ok (.iload_n 2, 1) := by decide +kernel
theorem dX3_gain_28 : decode cX3_gain 28 = .ok (.if_icmp .ne 18, 3) := by decide +kernel
theorem dX3_gain_31 : decode cX3_gain 31 = .ok (.aload_n 0, 1) := by decide +kernel
theorem dX3_gain_32 : decode cX3_gain 32 = .ok (.getfield 38, 3) := by decide +kernel
theorem dX3_gain_35 : decode cX3_gain 35 = .ok (.getfield 136, 3) := by decide +kernel
theorem dX3_gain_38 : decode cX3_gain 38 = .ok (.getfield 154, 3) := by decide +kernel
theorem dX3_gain_41 : decode cX3_gain 41 = .ok (.iload_n 3, 1) := by decide +kernel
theorem dX3_gain_42 : decode cX3_gain 42 = .ok (.iaload, 1) := by decide +kernel
theorem dX3_gain_43 : decode cX3_gain 43 = .ok (.goto 11, 3) := by decide +kernel
theorem dX3_gain_46 : decode cX3_gain 46 = .ok (.aload_n 0, 1) := by decide +kernel
theorem dX3_gain_47 : decode cX3_gain 47 = .ok (.getfield 38, 3) := by decide +kernel
theorem dX3_gain_50 : decode cX3_gain 50 = .ok (.getfield 157, 3) := by decide +kernel
theorem dX3_gain_53 : decode cX3_gain 53 = .ok (.ineg, 1) := by decide +kernel
theorem dX3_gain_54 : decode cX3_gain 54 = .ok (.ireturn, 1) := by decide +kernel
theorem dX3_namesFor_0 : decode cX3_namesFor 0 = .ok (.iconst 0, 1) := by decide +kernel
theorem dX3_namesFor_1 : decode cX3_namesFor 1 = .ok (.istore_n 2, 1) := by decide +kernel
theorem dX3_namesFor_2 : decode cX3_namesFor 2 = .ok (.iconst 0, 1) := by decide +kernel
theorem dX3_namesFor_3 : decode cX3_namesFor 3 = .ok (.istore_n 3, 1) := by decide +kernel
theorem dX3_namesFor_4 : decode cX3_namesFor 4 = .ok (.iload_n 3, 1) := by decide +kernel
theorem dX3_namesFor_5 : decode cX3_namesFor 5 = .ok (.aload_n 0, 1) := by decide +kernel
theorem dX3_namesFor_6 : decode cX3_namesFor 6 = .ok (.getfield 46, 3) := by decide +kernel
theorem dX3_namesFor_9 : decode cX3_namesFor 9 = .ok (.if_icmp .ge 29, 3) := by decide +kernel
theorem dX3_namesFor_12 : decode cX3_namesFor 12 = .ok (.iload_n 2, 1) := by decide +kernel
theorem dX3_namesFor_13 : decode cX3_namesFor 13 = .ok (.ifCond .ne 13, 3) := by decide +kernel
theorem dX3_namesFor_16 : decode cX3_namesFor 16 = .ok (.aload_n 0, 1) := by decide +kernel
theorem dX3_namesFor_17 : decode cX3_namesFor 17 = .ok (.getfield 15, 3) := by decide +kernel
theorem dX3_namesFor_20 : decode cX3_namesFor 20 = .ok (.iload_n 3, 1) := by decide +kernel
theorem dX3_namesFor_21 : decode cX3_namesFor 21 = .ok (.iaload, 1) := by decide +kernel
theorem dX3_namesFor_22 : decode cX3_namesFor 22 = .ok (.iload_n 1, 1) := by decide +kernel
theorem dX3_namesFor_23 : decode cX3_namesFor 23 = .ok (.if_icmp .ne 7, 3) := by decide +kernel
theorem dX3_namesFor_26 : decode cX3_namesFor 26 = .ok (.iconst 1, 1) := by decide +kernel
theorem dX3_namesFor_27 : decode cX3_namesFor 27 = .ok (.goto 4, 3) := by decide +kernel
theorem dX3_namesFor_30 : decode cX3_namesFor 30 = .ok (.iconst 0, 1) := by decide +kernel
theorem dX3_namesFor_31 : decode cX3_namesFor 31 = .ok (.istore_n 2, 1) := by decide +kernel
theorem dX3_namesFor_32 : decode cX3_namesFor 32 = .ok (.iinc 3 1, 3) := by decide +kernel
theorem dX3_namesFor_35 : decode cX3_namesFor 35 = .ok (.goto (-31), 3) := by decide +kernel
theorem dX3_namesFor_38 : decode cX3_namesFor 38 = .ok (.iconst 0, 1) := by decide +kernel
theorem dX3_namesFor_39 : decode cX3_namesFor 39 = .ok (.istore_n 3, 1) := by decide +kernel
theorem dX3_namesFor_40 : decode cX3_namesFor 40 = .ok (.ldc 81, 2) := by decide +kernel
theorem dX3_namesFor_42 : decode cX3_namesFor 42 = .ok (.istore 4, 2) := by decide +kernel
theorem dX3_namesFor_44 : decode cX3_namesFor 44 = .ok (.iconst 0, 1) := by decide +kernel
theorem dX3_namesFor_45 : decode cX3_namesFor 45 = .ok (.istore 5, 2) := by decide +kernel
theorem dX3_namesFor_47 : decode cX3_namesFor 47 = .ok (.iload_n 2, 1) := by decide +kernel
theorem dX3_namesFor_48 : decode cX3_namesFor 48 = .ok (.ifCond .eq 93, 3) := by decide +kernel
theorem dX3_namesFor_51 : decode cX3_namesFor 51 = .ok (.iload 5, 2) := by decide +kernel
theorem dX3_namesFor_53 : decode cX3_namesFor 53 = .ok (.aload_n 0, 1) := by decide +kernel
theorem dX3_namesFor_54 : decode cX3_namesFor 54 = .ok (.getfield 38, 3) := by decide +kernel
theorem dX3_namesFor_57 : decode cX3_namesFor 57 = .ok (.getfield 136, 3) := by decide +kernel
theorem dX3_namesFor_60 : decode cX3_namesFor 60 = .ok (.getfield 160, 3) := by decide +kernel
theorem dX3_namesFor_63 : decode cX3_namesFor 63 = .ok (.if_icmp .ge 78, 3) := by decide +kernel
theorem dX3_namesFor_66 : decode cX3_namesFor 66 = .ok (.aload_n 0, 1) := by decide +kernel
theorem dX3_namesFor_67 : decode cX3_namesFor 67 = .ok (.getfield 38, 3) := by decide +kernel
theorem dX3_namesFor_70 : decode cX3_namesFor 70 = .ok (.getfield 136, 3) := by decide +kernel
theorem dX3_namesFor_73 : decode cX3_namesFor 73 = .ok (.getfield 140, 3) := by decide +kernel
theorem dX3_namesFor_76 : decode cX3_namesFor 76 = .ok (.iload 5, 2) := by decide +kernel
theorem dX3_namesFor_78 : decode cX3_namesFor 78 = .ok (.iaload, 1) := by decide +kernel
theorem dX3_namesFor_79 : decode cX3_namesFor 79 = .ok (.iload_n 1, 1) := by decide +kernel
theorem dX3_namesFor_80 : decode cX3_namesFor 80 = .ok (.iconst 1, 1) := by decide +kernel
theorem dX3_namesFor_81 : decode cX3_namesFor 81 = .ok (.iand, 1) := by decide +kernel
theorem dX3_namesFor_82 : decode cX3_namesFor 82 = .ok (.if_icmp .ne 53, 3) := by decide +kernel
theorem dX3_namesFor_85 : decode cX3_namesFor 85 = .ok (.aload_n 0, 1) := by decide +kernel
theorem dX3_namesFor_86 : decode cX3_namesFor 86 = .ok (.iload_n 1, 1) := by decide +kernel
theorem dX3_namesFor_87 : decode cX3_namesFor 87 = .ok (.iload 5, 2) := by decide +kernel
theorem dX3_namesFor_89 : decode cX3_namesFor 89 = .ok (.invokevirtual 161, 3) := by decide +kernel
theorem dX3_namesFor_92 : decode cX3_namesFor 92 = .ok (.istore 6, 2) := by decide +kernel
theorem dX3_namesFor_94 : decode cX3_namesFor 94 = .ok (.iload 6, 2) := by decide +kernel
theorem dX3_namesFor_96 : decode cX3_namesFor 96 = .ok (.iload 4, 2) := by decide +kernel
theorem dX3_namesFor_98 : decode cX3_namesFor 98 = .ok (.if_icmp .le 10, 3) := by decide +kernel
theorem dX3_namesFor_101 : decode cX3_namesFor 101 = .ok (.iconst 1, 1) := by decide +kernel
theorem dX3_namesFor_102 : decode cX3_namesFor 102 = .ok (.iload 5, 2) := by decide +kernel
theorem dX3_namesFor_104 : decode cX3_namesFor 104 = .ok (.ishl, 1) := by decide +kernel
theorem dX3_namesFor_105 : decode cX3_namesFor 105 = .ok (.goto 20, 3) := by decide +kernel
theorem dX3_namesFor_108 : decode cX3_namesFor 108 = .ok (.iload 6, 2) := by decide +kernel
theorem dX3_namesFor_110 : decode cX3_namesFor 110 = .ok (.iload 4, 2) := by decide +kernel
theorem dX3_namesFor_112 : decode cX3_namesFor 112 = .ok (.if_icmp .ne 12, 3) := by decide +kernel
theorem dX3_namesFor_115 : decode cX3_namesFor 115 = .ok (.iload_n 3, 1) := by decide +kernel
theorem dX3_namesFor_116 : decode cX3_namesFor 116 = .ok (.iconst 1, 1) := by decide +kernel
theorem dX3_namesFor_117 : decode cX3_namesFor 117 = .ok (.iload 5, 2) := by decide +kernel
theorem dX3_namesFor_119 : decode cX3_namesFor 119 = .ok (.ishl, 1) := by decide +kernel
theorem dX3_namesFor_120 : decode cX3_namesFor 120 = .ok (.ior, 1) := by decide +kernel
theorem dX3_namesFor_121 : decode cX3_namesFor 121 = .ok (.goto 4, 3) := by decide +kernel
theorem dX3_namesFor_124 : decode cX3_namesFor 124 = .ok (.iload_n 3, 1) := by decide +kernel
theorem dX3_namesFor_125 : decode cX3_namesFor 125 = .ok (.istore_n 3, 1) := by decide +kernel
theorem dX3_namesFor_126 : decode cX3_namesFor 126 = .ok (.iload 4, 2) := by decide +kernel
theorem dX3_namesFor_128 : decode cX3_namesFor 128 = .ok (.iload 6, 2) := by decide +kernel
theorem dX3_namesFor_130 : decode cX3_namesFor 130 = .ok (.invokestatic 164, 3) := by decide +kernel
theorem dX3_namesFor_133 : decode cX3_namesFor 133 = .ok (.istore 4, 2) := by decide +kernel
theorem dX3_namesFor_135 : decode cX3_namesFor 135 = .ok (.iinc 5 1, 3) := by decide +kernel
theorem dX3_namesFor_138 : decode cX3_namesFor 138 = .ok (.goto (-91), 3) := by decide +kernel
theorem dX3_namesFor_141 : decode cX3_namesFor 141 = .ok (.iload_n 3, 1) := by decide +kernel
theorem dX3_namesFor_142 : decode cX3_namesFor 142 = .ok (.ireturn, 1) := by decide +kernel
theorem dX3_gainOfAll_0 : decode cX3_gainOfAll 0 = .ok (.iconst 0, 1) := by decide +kernel
theorem dX3_gainOfAll_1 : decode cX3_gainOfAll 1 = .ok (.istore_n 3, 1) := by decide +kernel
theorem dX3_gainOfAll_2 : decode cX3_gainOfAll 2 = .ok (.iconst 0, 1) := by decide +kernel
theorem dX3_gainOfAll_3 : decode cX3_gainOfAll 3 = .ok (.istore 4, 2) := by decide +kernel
theorem dX3_gainOfAll_5 : decode cX3_gainOfAll 5 = .ok (.iload 4, 2) := by decide +kernel
theorem dX3_gainOfAll_7 : decode cX3_gainOfAll 7 = .ok (.aload_n 0, 1) := by decide +kernel
theorem dX3_gainOfAll_8 : decode cX3_gainOfAll 8 = .ok (.getfield 46, 3) := by decide +kernel
theorem dX3_gainOfAll_11 : decode cX3_gainOfAll 11 = .ok (.if_icmp .ge 30, 3) := by decide +kernel
theorem dX3_gainOfAll_14 : decode cX3_gainOfAll 14 = .ok (.aload_n 0, 1) := by decide +kernel
theorem dX3_gainOfAll_15 : decode cX3_gainOfAll 15 = .ok (.getfield 15, 3) := by decide +kernel
theorem dX3_gainOfAll_18 : decode cX3_gainOfAll 18 = .ok (.iload 4, 2) := by decide +kernel
theorem dX3_gainOfAll_20 : decode cX3_gainOfAll 20 = .ok (.iaload, 1) := by decide +kernel
theorem dX3_gainOfAll_21 : decode cX3_gainOfAll 21 = .ok (.iload_n 1, 1) := by decide +kernel
theorem dX3_gainOfAll_22 : decode cX3_gainOfAll 22 = .ok (.if_icmp .ne 13, 3) := by decide +kernel
theorem dX3_gainOfAll_25 : decode cX3_gainOfAll 25 = .ok (.iload_n 3, 1) := by decide +kernel
theorem dX3_gainOfAll_26 : decode cX3_gainOfAll 26 = .ok (.aload_n 0, 1) := by decide +kernel
theorem dX3_gainOfAll_27 : decode cX3_gainOfAll 27 = .ok (.iload 4, 2) := by decide +kernel
theorem dX3_gainOfAll_29 : decode cX3_gainOfAll 29 = .ok (.iload_n 2, 1) := by decide +kernel
theorem dX3_gainOfAll_30 : decode cX3_gainOfAll 30 = .ok (.invokevirtual 90, 3) := by decide +kernel
theorem dX3_gainOfAll_33 : decode cX3_gainOfAll 33 = .ok (.iadd, 1) := by decide +kernel
theorem dX3_gainOfAll_34 : decode cX3_gainOfAll 34 = .ok (.istore_n 3, 1) := by decide +kernel
theorem dX3_gainOfAll_35 : decode cX3_gainOfAll 35 = .ok (.iinc 4 1, 3) := by decide +kernel
theorem dX3_gainOfAll_38 : decode cX3_gainOfAll 38 = .ok (.goto (-33), 3) := by decide +kernel
theorem dX3_gainOfAll_41 : decode cX3_gainOfAll 41 = .ok (.iload_n 3, 1) := by decide +kernel
theorem dX3_gainOfAll_42 : decode cX3_gainOfAll 42 = .ok (.ireturn, 1) := by decide +kernel
theorem dX3_missing_0 : decode cX3_missing 0 = .ok (.aload_n 0, 1) := by decide +kernel
theorem dX3_missing_1 : decode cX3_missing 1 = .ok (.aload_n 2, 1) := by decide +kernel
theorem dX3_missing_2 : decode cX3_missing 2 = .ok (.invokevirtual 169, 3) := by decide +kernel
theorem dX3_missing_5 : decode cX3_missing 5 = .ok (.bipush 6, 2) := by decide +kernel
theorem dX3_missing_7 : decode cX3_missing 7 = .ok (.istore_n 3, 1) := by decide +kernel
theorem dX3_missing_8 : decode cX3_missing 8 = .ok (.iconst 0, 1) := by decide +kernel
theorem dX3_missing_9 : decode cX3_missing 9 = .ok (.istore 4, 2) := by decide +kernel
theorem dX3_missing_11 : decode cX3_missing 11 = .ok (.iload 4, 2) := by decide +kernel
theorem dX3_missing_13 : decode cX3_missing 13 = .ok (.aload_n 0, 1) := by decide +kernel
theorem dX3_missing_14 : decode cX3_missing 14 = .ok (.getfield 38, 3) := by decide +kernel
theorem dX3_missing_17 : decode cX3_missing 17 = .ok (.getfield 136, 3) := by decide +kernel
theorem dX3_missing_20 : decode cX3_missing 20 = .ok (.getfield 160, 3) := by decide +kernel
theorem dX3_missing_23 : decode cX3_missing 23 = .ok (.if_icmp .ge 83, 3) := by decide +kernel
theorem dX3_missing_26 : decode cX3_missing 26 = .ok (.iconst 0, 1) := by decide +kernel
theorem dX3_missing_27 : decode cX3_missing 27 = .ok (.istore 5, 2) := by decide +kernel
theorem dX3_missing_29 : decode cX3_missing 29 = .ok (.iload 5, 2) := by decide +kernel
theorem dX3_missing_31 : decode cX3_missing 31 = .ok (.aload_n 0, 1) := by decide +kernel
theorem dX3_missing_32 : decode cX3_missing 32 = .ok (.getfield 38, 3) := by decide +kernel
theorem dX3_missing_35 : decode cX3_missing 35 = .ok (.getfield 136, 3) := by decide +kernel
theorem dX3_missing_38 : decode cX3_missing 38 = .ok (.getfield 160, 3) := by decide +kernel
theorem dX3_missing_41 : decode cX3_missing 41 = .ok (.if_icmp .ge 59, 3) := by decide +kernel
theorem dX3_missing_44 : decode cX3_missing 44 = .ok (.aload_n 0, 1) := by decide +kernel
theorem dX3_missing_45 : decode cX3_missing 45 = .ok (.iload_n 1, 1) := by decide +kernel
theorem dX3_missing_46 : decode cX3_missing 46 = .ok (.iload 4, 2) := by decide +kernel
theorem dX3_missing_48 : decode cX3_missing 48 = .ok (.invokevirtual 172, 3) := by decide +kernel
theorem dX3_missing_51 : decode cX3_missing 51 = .ok (.ifCond .eq 43, 3) := by decide +kernel
theorem dX3_missing_54 : decode cX3_missing 54 = .ok (.aload_n 0, 1) := by decide +kernel
theorem dX3_missing_55 : decode cX3_missing 55 = .ok (.iload_n 1, 1) := by decide +kernel
theorem dX3_missing_56 : decode cX3_missing 56 = .ok (.iconst 2, 1) := by decide +kernel
theorem dX3_missing_57 : decode cX3_missing 57 = .ok (.iadd, 1) := by decide +kernel
theorem dX3_missing_58 : decode cX3_missing 58 = .ok (.iload 5, 2) := by decide +kernel
theorem dX3_missing_60 : decode cX3_missing 60 = .ok (.invokevirtual 172, 3) := by decide +kernel
theorem dX3_missing_63 : decode cX3_missing 63 = .ok (.ifCond .eq 31, 3) := by decide +kernel
theorem dX3_missing_66 : decode cX3_missing 66 = .ok (.aload_n 0, 1) := by decide +kernel
theorem dX3_missing_67 : decode cX3_missing 67 = .ok (.getfield 21, 3) := by decide +kernel
theorem dX3_missing_70 : decode cX3_missing 70 = .ok (.iload_n 1, 1) := by decide +kernel
theorem dX3_missing_71 : decode cX3_missing 71 = .ok (.iload 4, 2) := by decide +kernel
theorem dX3_missing_73 : decode cX3_missing 73 = .ok (.iastore, 1) := by decide +kernel
theorem dX3_missing_74 : decode cX3_missing 74 = .ok (.aload_n 0, 1) := by decide +kernel
theorem dX3_missing_75 : decode cX3_missing 75 = .ok (.getfield 21, 3) := by decide +kernel
theorem dX3_missing_78 : decode cX3_missing 78 = .ok (.iload_n 1, 1) := by decide +kernel
theorem dX3_missing_79 : decode cX3_missing 79 = .ok (.iconst 2, 1) := by decide +kernel
theorem dX3_missing_80 : decode cX3_missing 80 = .ok (.iadd, 1) := by decide +kernel
theorem dX3_missing_81 : decode cX3_missing 81 = .ok (.iload 5, 2) := by decide +kernel
theorem dX3_missing_83 : decode cX3_missing 83 = .ok (.iastore, 1) := by decide +kernel
theorem dX3_missing_84 : decode cX3_missing 84 = .ok (.iload_n 3, 1) := by decide +kernel
theorem dX3_missing_85 : decode cX3_missing 85 = .ok (.aload_n 0, 1) := by decide +kernel
theorem dX3_missing_86 : decode cX3_missing 86 = .ok (.iload_n 1, 1) := by decide +kernel
theorem dX3_missing_87 : decode cX3_missing 87 = .ok (.invokevirtual 175, 3) := by decide +kernel
theorem dX3_missing_90 : decode cX3_missing 90 = .ok (.invokestatic 178, 3) := by decide +kernel
theorem dX3_missing_93 : decode cX3_missing 93 = .ok (.istore_n 3, 1) := by decide +kernel
theorem dX3_missing_94 : decode cX3_missing 94 = .ok (.iinc 5 1, 3) := by decide +kernel
theorem dX3_missing_97 : decode cX3_missing 97 = .ok (.goto (-68), 3) := by decide +kernel
theorem dX3_missing_100 : decode cX3_missing 100 = .ok (.iinc 4 1, 3) := by decide +kernel
theorem dX3_missing_103 : decode cX3_missing 103 = .ok (.goto (-92), 3) := by decide +kernel
theorem dX3_missing_106 : decode cX3_missing 106 = .ok (.iload_n 3, 1) := by decide +kernel
theorem dX3_missing_107 : decode cX3_missing 107 = .ok (.iconst 5, 1) := by decide +kernel
theorem dX3_missing_108 : decode cX3_missing 108 = .ok (.if_icmp .le 8, 3) := by decide +kernel
theorem dX3_missing_111 : decode cX3_missing 111 = .ok (.bipush (-2), 2) := by decide +kernel
theorem dX3_missing_113 : decode cX3_missing 113 = .ok (.goto 4, 3) := by decide +kernel
theorem dX3_missing_116 : decode cX3_missing 116 = .ok (.iload_n 3, 1) := by decide +kernel
theorem dX3_missing_117 : decode cX3_missing 117 = .ok (.ireturn, 1) := by decide +kernel
theorem dX3_mayHold_0 : decode cX3_mayHold 0 = .ok (.aload_n 0, 1) := by decide +kernel
theorem dX3_mayHold_1 : decode cX3_mayHold 1 = .ok (.getfield 38, 3) := by decide +kernel
theorem dX3_mayHold_4 : decode cX3_mayHold 4 = .ok (.getfield 109, 3) := by decide +kernel
theorem dX3_mayHold_7 : decode cX3_mayHold 7 = .ok (.aload_n 0, 1) := by decide +kernel
theorem dX3_mayHold_8 : decode cX3_mayHold 8 = .ok (.getfield 42, 3) := by decide +kernel
theorem dX3_mayHold_11 : decode cX3_mayHold 11 = .ok (.iload_n 1, 1) := by decide +kernel
theorem dX3_mayHold_12 : decode cX3_mayHold 12 = .ok (.invokevirtual 113, 3) := by decide +kernel
theorem dX3_mayHold_15 : decode cX3_mayHold 15 = .ok (.istore_n 3, 1) := by decide +kernel
theorem dX3_mayHold_16 : decode cX3_mayHold 16 = .ok (.iload_n 3, 1) := by decide +kernel
theorem dX3_mayHold_17 : decode cX3_mayHold 17 = .ok (.iconst (-1), 1) := by decide +kernel
theorem dX3_mayHold_18 : decode cX3_mayHold 18 = .ok (.if_icmp .ne 20, 3) := by decide +kernel
theorem dX3_mayHold_21 : decode cX3_mayHold 21 = .ok (.aload_n 0, 1) := by decide +kernel
theorem dX3_mayHold_22 : decode cX3_mayHold 22 = .ok (.getfield 38, 3) := by decide +kernel
theorem dX3_mayHold_25 : decode cX3_mayHold 25 = .ok (.getfield 136, 3) := by decide +kernel
theorem dX3_mayHold_28 : decode cX3_mayHold 28 = .ok (.iload_n 2, 1) := by decide +kernel
theorem dX3_mayHold_29 : decode cX3_mayHold 29 = .ok (.iload_n 1, 1) := by decide +kernel
theorem dX3_mayHold_30 : decode cX3_mayHold 30 = .ok (.iconst 1, 1) := by decide +kernel
theorem dX3_mayHold_31 : decode cX3_mayHold 31 = .ok (.iand, 1) := by decide +kernel
theorem dX3_mayHold_32 : decode cX3_mayHold 32 = .ok (.invokevirtual 181, 3) := by decide +kernel
theorem dX3_mayHold_35 : decode cX3_mayHold 35 = .ok (.goto 13, 3) := by decide +kernel
theorem dX3_mayHold_38 : decode cX3_mayHold 38 = .ok (.iload_n 3, 1) := by decide +kernel
theorem dX3_mayHold_39 : decode cX3_mayHold 39 = .ok (.iload_n 2, 1) := by decide +kernel
theorem dX3_mayHold_40 : decode cX3_mayHold 40 = .ok (.if_icmp .ne 7, 3) := by decide +kernel
theorem dX3_mayHold_43 : decode cX3_mayHold 43 = .ok (.iconst 1, 1) := by decide +kernel
theorem dX3_mayHold_44 : decode cX3_mayHold 44 = .ok (.goto 4, 3) := by decide +kernel
theorem dX3_mayHold_47 : decode cX3_mayHold 47 = .ok (.iconst 0, 1) := by decide +kernel
theorem dX3_mayHold_48 : decode cX3_mayHold 48 = .ok (.ireturn, 1) := by decide +kernel
theorem dX3_foresee_0 : decode cX3_foresee 0 = .ok (.iconst 0, 1) := by decide +kernel
theorem dX3_foresee_1 : decode cX3_foresee 1 = .ok (.istore_n 2, 1) := by decide +kernel
theorem dX3_foresee_2 : decode cX3_foresee 2 = .ok (.iload_n 2, 1) := by decide +kernel
theorem dX3_foresee_3 : decode cX3_foresee 3 = .ok (.aload_n 0, 1) := by decide +kernel
theorem dX3_foresee_4 : decode cX3_foresee 4 = .ok (.getfield 46, 3) := by decide +kernel
theorem dX3_foresee_7 : decode cX3_foresee 7 = .ok (.if_icmp .ge 94, 3) := by decide +kernel
theorem dX3_foresee_10 : decode cX3_foresee 10 = .ok (.aload_n 0, 1) := by decide +kernel
theorem dX3_foresee_11 : decode cX3_foresee 11 = .ok (.iload_n 2, 1) := by decide +kernel
theorem dX3_foresee_12 : decode cX3_foresee 12 = .ok (.invokevirtual 94, 3) := by decide +kernel
theorem dX3_foresee_15 : decode cX3_foresee 15 = .ok (.istore_n 3, 1) := by decide +kernel
theorem dX3_foresee_16 : decode cX3_foresee 16 = .ok (.aload_n 1, 1) := by decide +kernel
theorem dX3_foresee_17 : decode cX3_foresee 17 = .ok (.aload_n 0, 1) := by decide +kernel
theorem dX3_foresee_18 : decode cX3_foresee 18 = .ok (.getfield 38, 3) := by decide +kernel
theorem dX3_foresee_21 : decode cX3_foresee 21 = .ok (.getfield 49, 3) := by decide +kernel
theorem dX3_foresee_24 : decode cX3_foresee 24 = .ok (.getfield 69, 3) := by decide +kernel
theorem dX3_foresee_27 : decode cX3_foresee 27 = .ok (.aload_n 0, 1) := by decide +kernel
theorem dX3_foresee_28 : decode cX3_foresee 28 = .ok (.getfield 9, 3) := by decide +kernel
theorem dX3_foresee_31 : decode cX3_foresee 31 = .ok (.iload_n 2, 1) := by decide +kernel
theorem dX3_foresee_32 : decode cX3_foresee 32 = .ok (.iaload, 1) := by decide +kernel
theorem dX3_foresee_33 : decode cX3_foresee 33 = .ok (.iaload, 1) := by decide +kernel
theorem dX3_foresee_34 : decode cX3_foresee 34 = .ok (.invokevirtual 97, 3) := by decide +kernel
theorem dX3_foresee_37 : decode cX3_foresee 37 = .ok (.astore 4, 2) := by decide +kernel
theorem dX3_foresee_39 : decode cX3_foresee 39 = .ok (.iconst 0, 1) := by decide +kernel
theorem dX3_foresee_40 : decode cX3_foresee 40 = .ok (.istore 5, 2) := by decide +kernel
theorem dX3_foresee_42 : decode cX3_foresee 42 = .ok (.iload 5, 2) := by decide +kernel
theorem dX3_foresee_44 : decode cX3_foresee 44 = .ok (.iconst 5, 1) := by decide +kernel
theorem dX3_foresee_45 : decode cX3_foresee 45 = .ok (.if_icmp .gt 50, 3) := by decide +kernel
theorem dX3_foresee_48 : decode cX3_foresee 48 = .ok (.aload_n 0, 1) := by decide +kernel
theorem dX3_foresee_49 : decode cX3_foresee 49 = .ok (.getfield 35, 3) := by decide +kernel
theorem dX3_foresee_52 : decode cX3_foresee 52 = .ok (.iload_n 2, 1) := by decide +kernel
theorem dX3_foresee_53 : decode cX3_foresee 53 = .ok (.bipush 6, 2) := by decide +kernel
theorem dX3_foresee_55 : decode cX3_foresee 55 = .ok (.imul, 1) := by decide +kernel
theorem dX3_foresee_56 : decode cX3_foresee 56 = .ok (.iload 5, 2) := by decide +kernel
theorem dX3_foresee_58 : decode cX3_foresee 58 = .ok (.iadd, 1) := by decide +kernel
theorem dX3_foresee_59 : decode cX3_foresee 59 = .ok (.aload 4, 2) := by decide +kernel
theorem dX3_foresee_61 : decode cX3_foresee 61 = .ok (.ifnonnull 7, 3) := by decide +kernel
theorem dX3_foresee_64 : decode cX3_foresee 64 = .ok (.iconst (-1), 1) := by decide +kernel
theorem dX3_foresee_65 : decode cX3_foresee 65 = .ok (.goto 13, 3) := by decide +kernel
theorem dX3_foresee_68 : decode cX3_foresee 68 = .ok (.aload 4, 2) := by decide +kernel
theorem dX3_foresee_70 : decode cX3_foresee 70 = .ok (.aload_n 0, 1) := by decide +kernel
theorem dX3_foresee_71 : decode cX3_foresee 71 = .ok (.getfield 32, 3) := by decide +kernel
theorem dX3_foresee_74 : decode cX3_foresee 74 = .ok (.iload_n 3, 1) := by decide +kernel
theorem dX3_foresee_75 : decode cX3_foresee 75 = .ok (.invokevirtual 103, 3) := by decide +kernel
theorem dX3_foresee_78 : decode cX3_foresee 78 = .ok (.iastore, 1) := by decide +kernel
theorem dX3_foresee_79 : decode cX3_foresee 79 = .ok (.aload_n 0, 1) := by decide +kernel
theorem dX3_foresee_80 : decode cX3_foresee 80 = .ok (.getfield 32, 3) := by decide +kernel
theorem dX3_foresee_83 : decode cX3_foresee 83 = .ok (.iconst 0, 1) := by decide +kernel
theorem dX3_foresee_84 : decode cX3_foresee 84 = .ok (.dup2, 1) := by decide +kernel
theorem dX3_foresee_85 : decode cX3_foresee 85 = .ok (.iaload, 1) := by decide +kernel
theorem dX3_foresee_86 : decode cX3_foresee 86 = .ok (.iconst 1, 1) := by decide +kernel
theorem dX3_foresee_87 : decode cX3_foresee 87 = .ok (.iadd, 1) := by decide +kernel
theorem dX3_foresee_88 : decode cX3_foresee 88 = .ok (.iastore, 1) := by decide +kernel
theorem dX3_foresee_89 : decode cX3_foresee 89 = .ok (.iinc 5 1, 3) := by decide +kernel
theorem dX3_foresee_92 : decode cX3_foresee 92 = .ok (.goto (-50), 3) := by decide +kernel
theorem dX3_foresee_95 : decode cX3_foresee 95 = .ok (.iinc 2 1, 3) := by decide +kernel
theorem dX3_foresee_98 : decode cX3_foresee 98 = .ok (.goto (-96), 3) := by decide +kernel
theorem dX3_foresee_101 : decode cX3_foresee 101 = .ok (.return_, 1) := by decide +kernel
theorem dX3_fewest_0 : decode cX3_fewest 0 = .ok (.iconst 0, 1) := by decide +kernel
theorem dX3_fewest_1 : decode cX3_fewest 1 = .ok (.istore_n 2, 1) := by decide +kernel
theorem dX3_fewest_2 : decode cX3_fewest 2 = .ok (.iconst 0, 1) := by decide +kernel
theorem dX3_fewest_3 : decode cX3_fewest 3 = .ok (.istore_n 3, 1) := by decide +kernel
theorem dX3_fewest_4 : decode cX3_fewest 4 = .ok (.iload_n 3, 1) := by decide +kernel
theorem dX3_fewest_5 : decode cX3_fewest 5 = .ok (.aload_n 0, 1) := by decide +kernel
theorem dX3_fewest_6 : decode cX3_fewest 6 = .ok (.getfield 46, 3) := by decide +kernel
theorem dX3_fewest_9 : decode cX3_fewest 9 = .ok (.if_icmp .ge 38, 3) := by decide +kernel
theorem dX3_fewest_12 : decode cX3_fewest 12 = .ok (.aload_n 0, 1) := by decide +kernel
theorem dX3_fewest_13 : decode cX3_fewest 13 = .ok (.iload_n 3, 1) := by decide +kernel
theorem dX3_fewest_14 : decode cX3_fewest 14 = .ok (.invokevirtual 124, 3) := by decide +kernel
theorem dX3_fewest_17 : decode cX3_fewest 17 = .ok (.iload_n 1, 1) := by decide +kernel
theorem dX3_fewest_18 : decode cX3_fewest 18 = .ok (.if_icmp .ne 23, 3) := by decide +kernel
theorem dX3_fewest_21 : decode cX3_fewest 21 = .ok (.iload_n 2, 1) := by decide +kernel
theorem dX3_fewest_22 : decode cX3_fewest 22 = .ok (.iconst 5, 1) := by decide +kernel
theorem dX3_fewest_23 : decode cX3_fewest 23 = .ok (.if_icmp .gt 18, 3) := by decide +kernel
theorem dX3_fewest_26 : decode cX3_fewest 26 = .ok (.aload_n 0, 1) := by decide +kernel
theorem dX3_fewest_27 : decode cX3_fewest 27 = .ok (.iload_n 3, 1) := by decide +kernel
theorem dX3_fewest_28 : decode cX3_fewest 28 = .ok (.iload_n 2, 1) := by decide +kernel
theorem dX3_fewest_29 : decode cX3_fewest 29 = .ok (.invokevirtual 184, 3) := by decide +kernel
theorem dX3_fewest_32 : decode cX3_fewest 32 = .ok (.ifCond .ne 9, 3) := by decide +kernel
theorem dX3_fewest_35 : decode cX3_fewest 35 = .ok (.iinc 2 1, 3) := by decide +kernel
theorem dX3_fewest_38 : decode cX3_fewest 38 = .ok (.goto (-26), 3) := by decide +kernel
theorem dX3_fewest_41 : decode cX3_fewest 41 = .ok (.iinc 3 1, 3) := by decide +kernel
theorem dX3_fewest_44 : decode cX3_fewest 44 = .ok (.goto (-40), 3) := by decide +kernel
theorem dX3_fewest_47 : decode cX3_fewest 47 = .ok (.iload_n 2, 1) := by decide +kernel
theorem dX3_fewest_48 : decode cX3_fewest 48 = .ok (.ireturn, 1) := by decide +kernel
theorem dX3_suits_0 : decode cX3_suits 0 = .ok (.aload_n 0, 1) := by decide +kernel
theorem dX3_suits_1 : decode cX3_suits 1 = .ok (.getfield 15, 3) := by decide +kernel
theorem dX3_suits_4 : decode cX3_suits 4 = .ok (.iload_n 1, 1) := by decide +kernel
theorem dX3_suits_5 : decode cX3_suits 5 = .ok (.aload_n 0, 1) := by decide +kernel
theorem dX3_suits_6 : decode cX3_suits 6 = .ok (.getfield 35, 3) := by decide +kernel
theorem dX3_suits_9 : decode cX3_suits 9 = .ok (.iload_n 1, 1) := by decide +kernel
theorem dX3_suits_10 : decode cX3_suits 10 = .ok (.bipush 6, 2) := by decide +kernel
theorem dX3_suits_12 : decode cX3_suits 12 = .ok (.imul, 1) := by decide +kernel
theorem dX3_suits_13 : decode cX3_suits 13 = .ok (.iload_n 2, 1) := by decide +kernel
theorem dX3_suits_14 : decode cX3_suits 14 = .ok (.iadd, 1) := by decide +kernel
theorem dX3_suits_15 : decode cX3_suits 15 = .ok (.iaload, 1) := by decide +kernel
theorem dX3_suits_16 : decode cX3_suits 16 = .ok (.iastore, 1) := by decide +kernel
theorem dX3_suits_17 : decode cX3_suits 17 = .ok (.aload_n 0, 1) := by decide +kernel
theorem dX3_suits_18 : decode cX3_suits 18 = .ok (.iload_n 1, 1) := by decide +kernel
theorem dX3_suits_19 : decode cX3_suits 19 = .ok (.invokevirtual 86, 3) := by decide +kernel
theorem dX3_suits_22 : decode cX3_suits 22 = .ok (.istore_n 3, 1) := by decide +kernel
theorem dX3_suits_23 : decode cX3_suits 23 = .ok (.iload_n 3, 1) := by decide +kernel
theorem dX3_suits_24 : decode cX3_suits 24 = .ok (.bipush (-2), 2) := by decide +kernel
theorem dX3_suits_26 : decode cX3_suits 26 = .ok (.if_icmp .eq 24, 3) := by decide +kernel
theorem dX3_suits_29 : decode cX3_suits 29 = .ok (.iload_n 3, 1) := by decide +kernel
theorem dX3_suits_30 : decode cX3_suits 30 = .ok (.aload_n 0, 1) := by decide +kernel
theorem dX3_suits_31 : decode cX3_suits 31 = .ok (.getfield 38, 3) := by decide +kernel
theorem dX3_suits_34 : decode cX3_suits 34 = .ok (.getfield 49, 3) := by decide +kernel
theorem dX3_suits_37 : decode cX3_suits 37 = .ok (.getfield 72, 3) := by decide +kernel
theorem dX3_suits_40 : decode cX3_suits 40 = .ok (.aload_n 0, 1) := by decide +kernel
theorem dX3_suits_41 : decode cX3_suits 41 = .ok (.getfield 9, 3) := by decide +kernel
theorem dX3_suits_44 : decode cX3_suits 44 = .ok (.iload_n 1, 1) := by decide +kernel
theorem dX3_suits_45 : decode cX3_suits 45 = .ok (.iaload, 1) := by decide +kernel
theorem dX3_suits_46 : decode cX3_suits 46 = .ok (.iaload, 1) := by decide +kernel
theorem dX3_suits_47 : decode cX3_suits 47 = .ok (.if_icmp .ne 7, 3) := by decide +kernel
theorem dX3_suits_50 : decode cX3_suits 50 = .ok (.iconst 1, 1) := by decide +kernel
theorem dX3_suits_51 : decode cX3_suits 51 = .ok (.goto 4, 3) := by decide +kernel
theorem dX3_suits_54 : decode cX3_suits 54 = .ok (.iconst 0, 1) := by decide +kernel
theorem dX3_suits_55 : decode cX3_suits 55 = .ok (.ireturn, 1) := by decide +kernel
theorem dX6_init_0 : decode cX6_init 0 = .ok (.aload_n 0, 1) := by decide +kernel
theorem dX6_init_1 : decode cX6_init 1 = .ok (.invokespecial 3, 3) := by decide +kernel
theorem dX6_init_4 : decode cX6_init 4 = .ok (.aload_n 0, 1) := by decide +kernel
theorem dX6_init_5 : decode cX6_init 5 = .ok (.sipush 160, 3) := by decide +kernel
theorem dX6_init_8 : decode cX6_init 8 = .ok (.newarray .char, 2) := by decide +kernel
theorem dX6_init_10 : decode cX6_init 10 = .ok (.putfield 9, 3) := by decide +kernel
theorem dX6_init_13 : decode cX6_init 13 = .ok (.aload_n 0, 1) := by decide +kernel
theorem dX6_init_14 : decode cX6_init 14 = .ok (.new 15, 3) := by decide +kernel
theorem dX6_init_17 : decode cX6_init 17 = .ok (.dup, 1) := by decide +kernel
theorem dX6_init_18 : decode cX6_init 18 = .ok (.invokespecial 17, 3) := by decide +kernel
theorem dX6_init_21 : decode cX6_init 21 = .ok (.putfield 18, 3) := by decide +kernel
theorem dX6_init_24 : decode cX6_init 24 = .ok (.return_, 1) := by decide +kernel
theorem dX6_read_0 : decode cX6_read 0 = .ok (.aload_n 0, 1) := by decide +kernel
theorem dX6_read_1 : decode cX6_read 1 = .ok (.iload_n 2, 1) := by decide +kernel
theorem dX6_read_2 : decode cX6_read 2 = .ok (.aload_n 0, 1) := by decide +kernel
theorem dX6_read_3 : decode cX6_read 3 = .ok (.getfield 9, 3) := by decide +kernel
theorem dX6_read_6 : decode cX6_read 6 = .ok (.arraylength, 1) := by decide +kernel
theorem dX6_read_7 : decode cX6_read 7 = .ok (.invokestatic 22, 3) := by decide +kernel
theorem dX6_read_10 : decode cX6_read 10 = .ok (.putfield 28, 3) := by decide +kernel
theorem dX6_read_13 : decode cX6_read 13 = .ok (.iconst 0, 1) := by decide +kernel
theorem dX6_read_14 : decode cX6_read 14 = .ok (.istore_n 3, 1) := by decide +kernel
theorem dX6_read_15 : decode cX6_read 15 = .ok (.iload_n 3, 1) := by decide +kernel
theorem dX6_read_16 : decode cX6_read 16 = .ok (.aload_n 0, 1) := by decide +kernel
theorem dX6_read_17 : decode cX6_read 17 = .ok (.getfield 28, 3) := by decide +kernel
theorem dX6_read_20 : decode cX6_read 20 = .ok (.if_icmp .ge 25, 3) := by decide +kernel
theorem dX6_read_23 : decode cX6_read 23 = .ok (.aload_n 0, 1) := by decide +kernel
theorem dX6_read_24 : decode cX6_read 24 = .ok (.getfield 9, 3) := by decide +kernel
theorem dX6_read_27 : decode cX6_read 27 = .ok (.iload_n 3, 1) := by decide +kernel
theorem dX6_read_28 : decode cX6_read 28 = .ok (.aload_n 1, 1) := by decide +kernel
theorem dX6_read_29 : decode cX6_read 29 = .ok (.iload_n 3, 1) := by decide +kernel
theorem dX6_read_30 : decode cX6_read 30 = .ok (.invokevirtual 32, 3) := by decide +kernel
theorem dX6_read_33 : decode cX6_read 33 = .ok (.sipush 255, 3) := by decide +kernel
theorem dX6_read_36 : decode cX6_read 36 = .ok (.iand, 1) := by decide +kernel
theorem dX6_read_37 : decode cX6_read 37 = .ok (.i2c, 1) := by decide +kernel
theorem dX6_read_38 : decode cX6_read 38 = .ok (.castore, 1) := by decide +kernel
theorem dX6_read_39 : decode cX6_read 39 = .ok (.iinc 3 1, 3) := by decide +kernel
theorem dX6_read_42 : decode cX6_read 42 = .ok (.goto (-27), 3) := by decide +kernel
theorem dX6_read_45 : decode cX6_read 45 = .ok (.aload_n 0, 1) := by decide +kernel
theorem dX6_read_46 : decode cX6_read 46 = .ok (.iconst 0, 1) := by decide +kernel
theorem dX6_read_47 : decode cX6_read 47 = .ok (.putfield 38, 3) := by decide +kernel
theorem dX6_read_50 : decode cX6_read 50 = .ok (.aload_n 0, 1) := by decide +kernel
theorem dX6_read_51 : decode cX6_read 51 = .ok (.iconst 0, 1) := by decide +kernel
theorem dX6_read_52 : decode cX6_read 52 = .ok (.putfield 40, 3) := by decide +kernel
theorem dX6_read_55 : decode cX6_read 55 = .ok (.aload_n 0, 1) := by decide +kernel
theorem dX6_read_56 : decode cX6_read 56 = .ok (.getfield 18, 3) := by decide +kernel
theorem dX6_read_59 : decode cX6_read 59 = .ok (.invokevirtual 43, 3) := by decide +kernel
theorem dX6_read_62 : decode cX6_read 62 = .ok (.aload_n 0, 1) := by decide +kernel
theorem dX6_read_63 : decode cX6_read 63 = .ok (.invokevirtual 46, 3) := by decide +kernel
theorem dX6_read_66 : decode cX6_read 66 = .ok (.istore_n 3, 1) := by decide +kernel
theorem dX6_read_67 : decode cX6_read 67 = .ok (.iconst 1, 1) := by decide +kernel
theorem dX6_read_68 : decode cX6_read 68 = .ok (.istore 4, 2) := by decide +kernel
theorem dX6_read_70 : decode cX6_read 70 = .ok (.iload_n 3, 1) := by decide +kernel
theorem dX6_read_71 : decode cX6_read 71 = .ok (.ifCond .eq 49, 3) := by decide +kernel
theorem dX6_read_74 : decode cX6_read 74 = .ok (.aload_n 0, 1) := by decide +kernel
theorem dX6_read_75 : decode cX6_read 75 = .ok (.getfield 38, 3) := by decide +kernel
theorem dX6_read_78 : decode cX6_read 78 = .ok (.aload_n 0, 1) := by decide +kernel
theorem dX6_read_79 : decode cX6_read 79 = .ok (.getfield 28, 3) := by decide +kernel
theorem dX6_read_82 : decode cX6_read 82 = .ok (.if_icmp .ge 38, 3) := by decide +kernel
theorem dX6_read_85 : decode cX6_read 85 = .ok (.iload 4, 2) := by decide +kernel
theorem dX6_read_87 : decode cX6_read 87 = .ok (.bipush 12, 2) := by decide +kernel
theorem dX6_read_89 : decode cX6_read 89 = .ok (.if_icmp .gt 31, 3) := by decide +kernel
theorem dX6_read_92 : decode cX6_read 92 = .ok (.aload_n 0, 1) := by decide +kernel
theorem dX6_read_93 : decode cX6_read 93 = .ok (.bipush 59, 2) := by decide +kernel
theorem dX6_read_95 : decode cX6_read 95 = .ok (.invokevirtual 50, 3) := by decide +kernel
theorem dX6_read_98 : decode cX6_read 98 = .ok (.ifCond .eq 14, 3) := by decide +kernel
theorem dX6_read_101 : decode cX6_read 101 = .ok (.aload_n 0, 1) := by decide +kernel
theorem dX6_read_102 : decode cX6_read 102 = .ok (.invokevirtual 46, 3) := by decide +kernel
theorem dX6_read_105 : decode cX6_read 105 = .ok (.ifCond .eq 7, 3) := by decide +kernel
theorem dX6_read_108 : decode cX6_read 108 = .ok (.iconst 1, 1) := by decide +kernel
theorem dX6_read_109 : decode cX6_read 109 = .ok (.goto 4, 3) := by decide +kernel
theorem dX6_read_112 : decode cX6_read 112 = .ok (.iconst 0, 1) := by decide +kernel
theorem dX6_read_113 : decode cX6_read 113 = .ok (.istore_n 3, 1) := by decide +kernel
theorem dX6_read_114 : decode cX6_read 114 = .ok (.iinc 4 1, 3) := by decide +kernel
theorem dX6_read_117 : decode cX6_read 117 = .ok (.goto (-47), 3) := by decide +kernel
theorem dX6_read_120 : decode cX6_read 120 = .ok (.aload_n 0, 1) := by decide +kernel
theorem dX6_read_121 : decode cX6_read 121 = .ok (.getfield 40, 3) := by decide +kernel
theorem dX6_read_124 : decode cX6_read 124 = .ok (.ireturn, 1) := by decide +kernel
theorem dX6_exchange_0 : decode cX6_exchange 0 = .ok (.aload_n 0, 1) := by decide +kernel
theorem dX6_exchange_1 : decode cX6_exchange 1 = .ok (.getfield 18, 3) := by decide +kernel
theorem dX6_exchange_4 : decode cX6_exchange 4 = .ok (.astore_n 2, 1) := by decide +kernel
theorem dX6_exchange_5 : decode cX6_exchange 5 = .ok (.aload_n 0, 1) := by decide +kernel
theorem dX6_exchange_6 : decode cX6_exchange 6 = .ok (.aload_n 1, 1) := by decide +kernel
theorem dX6_exchange_7 : decode cX6_exchange 7 = .ok (.putfield 18, 3) := by decide +kernel
theorem dX6_exchange_10 : decode cX6_exchange 10 = .ok (.aload_n 2, 1) := by decide +kernel
theorem dX6_exchange_11 : decode cX6_exchange 11 = .ok (.areturn, 1) := by decide +kernel
theorem dX6_peek_0 : decode cX6_peek 0 = .ok (.aload_n 0, 1) := by decide +kernel
theorem dX6_peek_1 : decode cX6_peek 1 = .ok (.getfield 38, 3) := by decide +kernel
theorem dX6_peek_4 : decode cX6_peek 4 = .ok (.ifCond .lt 26, 3) := by decide +kernel
theorem dX6_peek_7 : decode cX6_peek 7 = .ok (.aload_n 0, 1) := by decide +kernel
theorem dX6_peek_8 : decode cX6_peek 8 = .ok (.getfield 38, 3) := by decide +kernel
theorem dX6_peek_11 : decode cX6_peek 11 = .ok (.aload_n 0, 1) := by decide +kernel
theorem dX6_peek_12 : decode cX6_peek 12 = .ok (.getfield 28, 3) := by decide +kernel
theorem dX6_peek_15 : decode cX6_peek 15 = .ok (.if_icmp .ge 15, 3) := by decide +kernel
theorem dX6_peek_18 : decode cX6_peek 18 = .ok (.aload_n 0, 1) := by decide +kernel
theorem dX6_peek_19 : decode cX6_peek 19 = .ok (.getfield 9, 3) := by decide +kernel
theorem dX6_peek_22 : decode cX6_peek 22 = .ok (.aload_n 0, 1) := by decide +kernel
theorem dX6_peek_23 : decode cX6_peek 23 = .ok (.getfield 38, 3) := by decide +kernel
theorem dX6_peek_26 : decode cX6_peek 26 = .ok (.caload, 1) := by decide +kernel
theorem dX6_peek_27 : decode cX6_peek 27 = .ok (.goto 4, 3) := by decide +kernel
theorem dX6_peek_30 : decode cX6_peek 30 = .ok (.iconst 0, 1) := by decide +kernel
theorem dX6_peek_31 : decode cX6_peek 31 = .ok (.ireturn, 1) := by decide +kernel
theorem dX6_refuse_0 : decode cX6_refuse 0 = .ok (.aload_n 0, 1) := by decide +kernel
theorem dX6_refuse_1 : decode cX6_refuse 1 = .ok (.sipush (-1000), 3) := by decide +kernel
theorem dX6_refuse_4 : decode cX6_refuse 4 = .ok (.iload_n 1, 1) := by decide +kernel
theorem dX6_refuse_5 : decode cX6_refuse 5 = .ok (.imul, 1) := by decide +kernel
theorem dX6_refuse_6 : decode cX6_refuse 6 = .ok (.aload_n 0, 1) := by decide +kernel
theorem dX6_refuse_7 : decode cX6_refuse 7 = .ok (.getfield 38, 3) := by decide +kernel
theorem dX6_refuse_10 : decode cX6_refuse 10 = .ok (.isub, 1) := by decide +kernel
theorem dX6_refuse_11 : decode cX6_refuse 11 = .ok (.putfield 40, 3) := by decide +kernel
theorem dX6_refuse_14 : decode cX6_refuse 14 = .ok (.iconst 0, 1) := by decide +kernel
theorem dX6_refuse_15 : decode cX6_refuse 15 = .ok (.ireturn, 1) := by decide +kernel
theorem dX6_take_0 : decode cX6_take 0 = .ok (.aload_n 0, 1) := by decide +kernel
theorem dX6_take_1 : decode cX6_take 1 = .ok (.invokevirtual 54, 3) := by decide +kernel
theorem dX6_take_4 : decode cX6_take 4 = .ok (.iload_n 1, 1) := by decide +kernel
theorem dX6_take_5 : decode cX6_take 5 = .ok (.if_icmp .eq 9, 3) := by decide +kernel
theorem dX6_take_8 : decode cX6_take 8 = .ok (.aload_n 0, 1) := by decide +kernel
theorem dX6_take_9 : decode cX6_take 9 = .ok (.iconst 1, 1) := by decide +kernel
theorem dX6_take_10 : decode cX6_take 10 = .ok (.invokevirtual 58, 3) := by decide +kernel
theorem dX6_take_13 : decode cX6_take 13 = .ok (.ireturn, 1) := by decide +kernel
theorem dX6_take_14 : decode cX6_take 14 = .ok (.aload_n 0, 1) := by decide +kernel
theorem dX6_take_15 : decode cX6_take 15 = .ok (.dup, 1) := by decide +kernel
theorem dX6_take_16 : decode cX6_take 16 = .ok (.getfield 38, 3) := by decide +kernel
theorem dX6_take_19 : decode cX6_take 19 = .ok (.iconst 1, 1) := by decide +kernel
theorem dX6_take_20 : decode cX6_take 20 = .ok (.iadd, 1) := by decide +kernel
theorem dX6_take_21 : decode cX6_take 21 = .ok (.putfield 38, 3) := by decide +kernel
theorem dX6_take_24 : decode cX6_take 24 = .ok (.iconst 1, 1) := by decide +kernel
theorem dX6_take_25 : decode cX6_take 25 = .ok (.ireturn, 1) := by decide +kernel
theorem dX6_clause_0 : decode cX6_clause 0 = .ok (.ldc 62, 2) := by decide +kernel
theorem dX6_clause_2 : decode cX6_clause 2 = .ok (.aload_n 0, 1) := by decide +kernel
theorem dX6_clause_3 : decode cX6_clause 3 = .ok (.invokevirtual 54, 3) := by decide +kernel
theorem dX6_clause_6 : decode cX6_clause 6 = .ok (.invokevirtual 64, 3) := by decide +kernel
theorem dX6_clause_9 : decode cX6_clause 9 = .ok (.istore_n 1, 1) := by decide +kernel
theorem dX6_clause_10 : decode cX6_clause 10 = .ok (.iload_n 1, 1) := by decide +kernel
theorem dX6_clause_11 : decode cX6_clause 11 = .ok (.ifCond .ge 9, 3) := by decide +kernel
theorem dX6_clause_14 : decode cX6_clause 14 = .ok (.aload_n 0, 1) := by decide +kernel
theorem dX6_clause_15 : decode cX6_clause 15 = .ok (.iconst 1, 1) := by decide +kernel
theorem dX6_clause_16 : decode cX6_clause 16 = .ok (.invokevirtual 58, 3) := by decide +kernel
theorem dX6_clause_19 : decode cX6_clause 19 = .ok (.ireturn, 1) := by decide +kernel
theorem dX6_clause_20 : decode cX6_clause 20 = .ok (.aload_n 0, 1) := by decide +kernel
theorem dX6_clause_21 : decode cX6_clause 21 = .ok (.getfield 18, 3) := by decide +kernel
theorem dX6_clause_24 : decode cX6_clause 24 = .ok (.getfield 69, 3) := by decide +kernel
theorem dX6_clause_27 : decode cX6_clause 27 = .ok (.bipush 12, 2) := by decide +kernel
theorem dX6_clause_29 : decode cX6_clause 29 = .ok (.if_icmp .lt 9, 3) := by decide +kernel
theorem dX6_clause_32 : decode cX6_clause 32 = .ok (.aload_n 0, 1) := by decide +kernel
theorem dX6_clause_33 : decode cX6_clause 33 = .ok (.iconst 4, 1) := by decide +kernel
theorem dX6_clause_34 : decode cX6_clause 34 = .ok (.invokevirtual 58, 3) := by decide +kernel
theorem dX6_clause_37 : decode cX6_clause 37 = .ok (.ireturn, 1) := by decide +kernel
theorem dX6_clause_38 : decode cX6_clause 38 = .ok (.aload_n 0, 1) := by decide +kernel
theorem dX6_clause_39 : decode cX6_clause 39 = .ok (.dup, 1) := by decide +kernel
theorem dX6_clause_40 : decode cX6_clause 40 = .ok (.getfield 38, 3) := by decide +kernel
theorem dX6_clause_43 : decode cX6_clause 43 = .ok (.iconst 1, 1) := by decide +kernel
theorem dX6_clause_44 : decode cX6_clause 44 = .ok (.iadd, 1) := by decide +kernel
theorem dX6_clause_45 : decode cX6_clause 45 = .ok (.putfield 38, 3) := by decide +kernel
theorem dX6_clause_48 : decode cX6_clause 48 = .ok (.aload_n 0, 1) := by decide +kernel
theorem dX6_clause_49 : decode cX6_clause 49 = .ok (.bipush 40, 2) := by decide +kernel
theorem dX6_clause_51 : decode cX6_clause 51 = .ok (.invokevirtual 50, 3) := by decide +kernel
theorem dX6_clause_54 : decode cX6_clause 54 = .ok (.ifCond .eq 21, 3) := by decide +kernel
theorem dX6_clause_57 : decode cX6_clause 57 = .ok (.aload_n 0, 1) := by decide +kernel
theorem dX6_clause_58 : decode cX6_clause 58 = .ok (.iconst 0, 1) := by decide +kernel
theorem dX6_clause_59 : decode cX6_clause 59 = .ok (.iconst 1, 1) := by decide +kernel
theorem dX6_clause_60 : decode cX6_clause 60 = .ok (.invokevirtual 72, 3) := by decide +kernel
theorem dX6_clause_63 : decode cX6_clause 63 = .ok (.ifCond .eq 12, 3) := by decide +kernel
theorem dX6_clause_66 : decode cX6_clause 66 = .ok (.aload_n 0, 1) := by decide +kernel
theorem dX6_clause_67 : decode cX6_clause 67 = .ok (.bipush 41, 2) := by decide +kernel
theorem dX6_clause_69 : decode cX6_clause 69 = .ok (.invokevirtual 50, 3) := by decide +kernel
theorem dX6_clause_72 : decode cX6_clause 72 = .ok (.ifCond .ne 5, 3) := by decide +kernel
theorem dX6_clause_75 : decode cX6_clause 75 = .ok (.iconst 0, 1) := by decide +kernel
theorem dX6_clause_76 : decode cX6_clause 76 = .ok (.ireturn, 1) := by decide +kernel
theorem dX6_clause_77 : decode cX6_clause 77 = .ok (.aload_n 0, 1) := by decide +kernel
theorem dX6_clause_78 : decode cX6_clause 78 = .ok (.getfield 18, 3) := by decide +kernel
theorem dX6_clause_81 : decode cX6_clause 81 = .ok (.iload_n 1, 1) := by decide +kernel
theorem dX6_clause_82 : decode cX6_clause 82 = .ok (.invokevirtual 76, 3) := by decide +kernel
theorem dX6_clause_85 : decode cX6_clause 85 = .ok (.iconst 1, 1) := by decide +kernel
theorem dX6_clause_86 : decode cX6_clause 86 = .ok (.ireturn, 1) := by decide +kernel
theorem dX6_signsOf_0 : decode cX6_signsOf 0 = .ok (.iload_n 0, 1) := by decide +kernel
theorem dX6_signsOf_1 : decode cX6_signsOf 1 = .ok (.tableswitch 36 0 2 #[27, 30, 33], 27) := by decide +kernel
theorem dX6_signsOf_28 : decode cX6_signsOf 28 = .ok (.ldc 80, 2) := by decide +kernel
theorem dX6_signsOf_30 : decode cX6_signsOf 30 = .ok (.areturn, 1) := by decide +kernel
theorem dX6_signsOf_31 : decode cX6_signsOf 31 = .ok (.ldc 82, 2) := by decide +kernel
theorem dX6_signsOf_33 : decode cX6_signsOf 33 = .ok (.areturn, 1) := by decide +kernel
theorem dX6_signsOf_34 : decode cX6_signsOf 34 = .ok (.ldc 84, 2) := by decide +kernel
theorem dX6_signsOf_36 : decode cX6_signsOf 36 = .ok (.areturn, 1) := by decide +kernel
theorem dX6_signsOf_37 : decode cX6_signsOf 37 = .ok (.ldc 86, 2) := by decide +kernel
theorem dX6_signsOf_39 : decode cX6_signsOf 39 = .ok (.areturn, 1) := by decide +kernel
theorem dX6_chain_0 : decode cX6_chain 0 = .ok (.aload_n 0, 1) := by decide +kernel
theorem dX6_chain_1 : decode cX6_chain 1 = .ok (.iload_n 1, 1) := by decide +kernel
theorem dX6_chain_2 : decode cX6_chain 2 = .ok (.iload_n 2, 1) := by decide +kernel
theorem dX6_chain_3 : decode cX6_chain 3 = .ok (.invokevirtual 88, 3) := by decide +kernel
theorem dX6_chain_6 : decode cX6_chain 6 = .ok (.ifCond .ne 5, 3) := by decide +kernel
theorem dX6_chain_9 : decode cX6_chain 9 = .ok (.iconst 0, 1) := by decide +kernel
theorem dX6_chain_10 : decode cX6_chain 10 = .ok (.ireturn, 1) := by decide +kernel
theorem dX6_chain_11 : decode cX6_chain 11 = .ok (.iload_n 1, 1) := by decide +kernel
theorem dX6_chain_12 : decode cX6_chain 12 = .ok (.invokestatic 91, 3) := by decide +kernel
theorem dX6_chain_15 : decode cX6_chain 15 = .ok (.astore_n 3, 1) := by decide +kernel
theorem dX6_chain_16 : decode cX6_chain 16 = .ok (.iconst 0, 1) := by decide +kernel
theorem dX6_chain_17 : decode cX6_chain 17 = .ok (.istore 4, 2) := by decide +kernel
theorem dX6_chain_19 : decode cX6_chain 19 = .ok (.iload 4, 2) := by decide +kernel
theorem dX6_chain_21 : decode cX6_chain 21 = .ok (.aload_n 0, 1) := by decide +kernel
theorem dX6_chain_22 : decode cX6_chain 22 = .ok (.getfield 28, 3) := by decide +kernel
theorem dX6_chain_25 : decode cX6_chain 25 = .ok (.if_icmp .ge 112, 3) := by decide +kernel
theorem dX6_chain_28 : decode cX6_chain 28 = .ok (.aload_n 3, 1) := by decide +kernel
theorem dX6_chain_29 : decode cX6_chain 29 = .ok (.aload_n 0, 1) := by decide +kernel
theorem dX6_chain_30 : decode cX6_chain 30 = .ok (.invokevirtual 54, 3) := by decide +kernel
theorem dX6_chain_33 : decode cX6_chain 33 = .ok (.invokevirtual 64, 3) := by decide +kernel
theorem dX6_chain_36 : decode cX6_chain 36 = .ok (.ifCond .lt 101, 3) := by decide +kernel
theorem dX6_chain_39 : decode cX6_chain 39 = .ok (.aload_n 0, 1) := by decide +kernel
theorem dX6_chain_40 : decode cX6_chain 40 = .ok (.invokevirtual 54, 3) := by decide +kernel
theorem dX6_chain_43 : decode cX6_chain 43 = .ok (.istore 5, 2) := by decide +kernel
theorem dX6_chain_45 : decode cX6_chain 45 = .ok (.aload_n 0, 1) := by decide +kernel
theorem dX6_chain_46 : decode cX6_chain 46 = .ok (.dup, 1) := by decide +kernel
theorem dX6_chain_47 : decode cX6_chain 47 = .ok (.getfield 38, 3) := by decide +kernel
theorem dX6_chain_50 : decode cX6_chain 50 = .ok (.iconst 1, 1) := by decide +kernel
theorem dX6_chain_51 : decode cX6_chain 51 = .ok (.iadd, 1) := by decide +kernel
theorem dX6_chain_52 : decode cX6_chain 52 = .ok (.putfield 38, 3) := by decide +kernel
theorem dX6_chain_55 : decode cX6_chain 55 = .ok (.iload_n 1, 1) := by decide +kernel
theorem dX6_chain_56 : decode cX6_chain 56 = .ok (.ifCond .eq 8, 3) := by decide +kernel
theorem dX6_chain_59 : decode cX6_chain 59 = .ok (.iload_n 1, 1) := by decide +kernel
theorem dX6_chain_60 : decode cX6_chain 60 = .ok (.iconst 1, 1) := by decide +kernel
theorem dX6_chain_61 : decode cX6_chain 61 = .ok (.if_icmp .ne 7, 3) := by decide +kernel
theorem dX6_chain_64 : decode cX6_chain 64 = .ok (.iconst 1, 1) := by decide +kernel
theorem dX6_chain_65 : decode cX6_chain 65 = .ok (.goto 4, 3) := by decide +kernel
theorem dX6_chain_68 : decode cX6_chain 68 = .ok (.iconst 0, 1) := by decide +kernel
theorem dX6_chain_69 : decode cX6_chain 69 = .ok (.istore 6, 2) := by decide +kernel
theorem dX6_chain_71 : decode cX6_chain 71 = .ok (.iload 6, 2) := by decide +kernel
theorem dX6_chain_73 : decode cX6_chain 73 = .ok (.ifCond .eq 16, 3) := by decide +kernel
theorem dX6_chain_76 : decode cX6_chain 76 = .ok (.aload_n 0, 1) := by decide +kernel
theorem dX6_chain_77 : decode cX6_chain 77 = .ok (.getfield 18, 3) := by decide +kernel
theorem dX6_chain_80 : decode cX6_chain 80 = .ok (.iload 5, 2) := by decide +kernel
theorem dX6_chain_82 : decode cX6_chain 82 = .ok (.iconst 0, 1) := by decide +kernel
theorem dX6_chain_83 : decode cX6_chain 83 = .ok (.invokevirtual 95, 3) := by decide +kernel
theorem dX6_chain_86 : decode cX6_chain 86 = .ok (.goto 4, 3) := by decide +kernel
theorem dX6_chain_89 : decode cX6_chain 89 = .ok (.iconst (-1), 1) := by decide +kernel
theorem dX6_chain_90 : decode cX6_chain 90 = .ok (.istore 7, 2) := by decide +kernel
theorem dX6_chain_92 : decode cX6_chain 92 = .ok (.aload_n 0, 1) := by decide +kernel
theorem dX6_chain_93 : decode cX6_chain 93 = .ok (.iload_n 1, 1) := by decide +kernel
theorem dX6_chain_94 : decode cX6_chain 94 = .ok (.iload_n 2, 1) := by decide +kernel
theorem dX6_chain_95 : decode cX6_chain 95 = .ok (.invokevirtual 88, 3) := by decide +kernel
theorem dX6_chain_98 : decode cX6_chain 98 = .ok (.ifCond .ne 5, 3) := by decide +kernel
theorem dX6_chain_101 : decode cX6_chain 101 = .ok (.iconst 0, 1) := by decide +kernel
theorem dX6_chain_102 : decode cX6_chain 102 = .ok (.ireturn, 1) := by decide +kernel
theorem dX6_chain_103 : decode cX6_chain 103 = .ok (.iload 6, 2) := by decide +kernel
theorem dX6_chain_105 : decode cX6_chain 105 = .ok (.ifCond .eq 15, 3) := by decide +kernel
theorem dX6_chain_108 : decode cX6_chain 108 = .ok (.aload_n 0, 1) := by decide +kernel
theorem dX6_chain_109 : decode cX6_chain 109 = .ok (.getfield 18, 3) := by decide +kernel
theorem dX6_chain_112 : decode cX6_chain 112 = .ok (.iload 7, 2) := by decide +kernel
theorem dX6_chain_114 : decode cX6_chain 114 = .ok (.invokevirtual 98, 3) := by decide +kernel
theorem dX6_chain_117 : decode cX6_chain 117 = .ok (.goto 14, 3) := by decide +kernel
theorem dX6_chain_120 : decode cX6_chain 120 = .ok (.aload_n 0, 1) := by decide +kernel
theorem dX6_chain_121 : decode cX6_chain 121 = .ok (.getfield 18, 3) := by decide +kernel
theorem dX6_chain_124 : decode cX6_chain 124 = .ok (.iload 5, 2) := by decide +kernel
theorem dX6_chain_126 : decode cX6_chain 126 = .ok (.iconst 0, 1) := by decide +kernel
theorem dX6_chain_127 : decode cX6_chain 127 = .ok (.invokevirtual 95, 3) := by decide +kernel
theorem dX6_chain_130 : decode cX6_chain 130 = .ok (.pop, 1) := by decide +kernel
theorem dX6_chain_131 : decode cX6_chain 131 = .ok (.iinc 4 1, 3) := by decide +kernel
theorem dX6_chain_134 : decode cX6_chain 134 = .ok (.goto (-115), 3) := by decide +kernel
theorem dX6_chain_137 : decode cX6_chain 137 = .ok (.iconst 1, 1) := by decide +kernel
theorem dX6_chain_138 : decode cX6_chain 138 = .ok (.ireturn, 1) := by decide +kernel
theorem dX6_operand_0 : decode cX6_operand 0 = .ok (.iload_n 1, 1) := by decide +kernel
theorem dX6_operand_1 : decode cX6_operand 1 = .ok (.tableswitch 47 0 2 #[27, 34, 40], 27) := by decide +kernel
theorem dX6_operand_28 : decode cX6_operand 28 = .ok (.aload_n 0, 1) := by decide +kernel
theorem dX6_operand_29 : decode cX6_operand 29 = .ok (.iconst 1, 1) := by decide +kernel
theorem dX6_operand_30 : decode cX6_operand 30 = .ok (.iload_n 2, 1) := by decide +kernel
theorem dX6_operand_31 : decode cX6_operand 31 = .ok (.invokevirtual 72, 3) := by decide +kernel
theorem dX6_operand_34 : decode cX6_operand 34 = .ok (.ireturn, 1) := by decide +kernel
theorem dX6_operand_35 : decode cX6_operand 35 = .ok (.aload_n 0, 1) := by decide +kernel
theorem dX6_operand_36 : decode cX6_operand 36 = .ok (.iload_n 2, 1) := by decide +kernel
theorem dX6_operand_37 : decode cX6_operand 37 = .ok (.invokevirtual 101, 3) := by decide +kernel
theorem dX6_operand_40 : decode cX6_operand 40 = .ok (.ireturn, 1) := by decide +kernel
theorem dX6_operand_41 : decode cX6_operand 41 = .ok (.aload_n 0, 1) := by decide +kernel
theorem dX6_operand_42 : decode cX6_operand 42 = .ok (.iconst 3, 1) := by decide +kernel
theorem dX6_operand_43 : decode cX6_operand 43 = .ok (.iload_n 2, 1) := by decide +kernel
theorem dX6_operand_44 : decode cX6_operand 44 = .ok (.invokevirtual 72, 3) := by decide +kernel
theorem dX6_operand_47 : decode cX6_operand 47 = .ok (.ireturn, 1) := by decide +kernel
theorem dX6_operand_48 : decode cX6_operand 48 = .ok (.aload_n 0, 1) := by decide +kernel
theorem dX6_operand_49 : decode cX6_operand 49 = .ok (.iload_n 2, 1) := by decide +kernel
theorem dX6_operand_50 : decode cX6_operand 50 = .ok (.invokevirtual 104, 3) := by decide +kernel
theorem dX6_operand_53 : decode cX6_operand 53 = .ok (.ireturn, 1) := by decide +kernel
theorem dX6_piece_0 : decode cX6_piece 0 = .ok (.aload_n 0, 1) := by decide +kernel
theorem dX6_piece_1 : decode cX6_piece 1 = .ok (.invokevirtual 54, 3) := by decide +kernel
theorem dX6_piece_4 : decode cX6_piece 4 = .ok (.istore_n 2, 1) := by decide +kernel
theorem dX6_piece_5 : decode cX6_piece 5 = .ok (.iload_n 2, 1) := by decide +kernel
theorem dX6_piece_6 : decode cX6_piece 6 = .ok (.bipush 33, 2) := by decide +kernel
theorem dX6_piece_8 : decode cX6_piece 8 = .ok (.if_icmp .eq 15, 3) := by decide +kernel
theorem dX6_piece_11 : decode cX6_piece 11 = .ok (.iload_n 2, 1) := by decide +kernel
theorem dX6_piece_12 : decode cX6_piece 12 = .ok (.bipush 40, 2) := by decide +kernel
theorem dX6_piece_14 : decode cX6_piece 14 = .ok (.if_icmp .eq 9, 3) := by decide +kernel
theorem dX6_piece_17 : decode cX6_piece 17 = .ok (.aload_n 0, 1) := by decide +kernel
theorem dX6_piece_18 : decode cX6_piece 18 = .ok (.iload_n 1, 1) := by decide +kernel
theorem dX6_piece_19 : decode cX6_piece 19 = .ok (.invokevirtual 107, 3) := by decide +kernel
theorem dX6_piece_22 : decode cX6_piece 22 = .ok (.ireturn, 1) := by decide +kernel
theorem dX6_piece_23 : decode cX6_piece 23 = .ok (.iload_n 1, 1) := by decide +kernel
theorem dX6_piece_24 : decode cX6_piece 24 = .ok (.bipush 6, 2) := by decide +kernel
theorem dX6_piece_26 : decode cX6_piece 26 = .ok (.if_icmp .lt 9, 3) := by decide +kernel
theorem dX6_piece_29 : decode cX6_piece 29 = .ok (.aload_n 0, 1) := by decide +kernel
theorem dX6_piece_30 : decode cX6_piece 30 = .ok (.iconst 5, 1) := by decide +kernel
theorem dX6_piece_31 : decode cX6_piece 31 = .ok (.invokevirtual 58, 3) := by decide +kernel
theorem dX6_piece_34 : decode cX6_piece 34 = .ok (.ireturn, 1) := by decide +kernel
theorem dX6_piece_35 : decode cX6_piece 35 = .ok (.aload_n 0, 1) := by decide +kernel
theorem dX6_piece_36 : decode cX6_piece 36 = .ok (.dup, 1) := by decide +kernel
theorem dX6_piece_37 : decode cX6_piece 37 = .ok (.getfield 38, 3) := by decide +kernel
theorem dX6_piece_40 : decode cX6_piece 40 = .ok (.iconst 1, 1) := by decide +kernel
theorem dX6_piece_41 : decode cX6_piece 41 = .ok (.iadd, 1) := by decide +kernel
theorem dX6_piece_42 : decode cX6_piece 42 = .ok (.putfield 38, 3) := by decide +kernel
theorem dX6_piece_45 : decode cX6_piece 45 = .ok (.iload_n 2, 1) := by decide +kernel
theorem dX6_piece_46 : decode cX6_piece 46 = .ok (.bipush 40, 2) := by decide +kernel
theorem dX6_piece_48 : decode cX6_piece 48 = .ok (.if_icmp .ne 29, 3) := by decide +kernel
theorem dX6_piece_51 : decode cX6_piece 51 = .ok (.aload_n 0, 1) := by decide +kernel
theorem dX6_piece_52 : decode cX6_piece 52 = .ok (.iconst 0, 1) := by decide +kernel
theorem dX6_piece_53 : decode cX6_piece 53 = .ok (.iload_n 1, 1) := by decide +kernel
theorem dX6_piece_54 : decode cX6_piece 54 = .ok (.iconst 1, 1) := by decide +kernel
theorem dX6_piece_55 : decode cX6_piece 55 = .ok (.iadd, 1) := by decide +kernel
theorem dX6_piece_56 : decode cX6_piece 56 = .ok (.invokevirtual 72, 3) := by decide +kernel
theorem dX6_piece_59 : decode cX6_piece 59 = .ok (.ifCond .eq 16, 3) := by decide +kernel
theorem dX6_piece_62 : decode cX6_piece 62 = .ok (.aload_n 0, 1) := by decide +kernel
theorem dX6_piece_63 : decode cX6_piece 63 = .ok (.bipush 41, 2) := by decide +kernel
theorem dX6_piece_65 : decode cX6_piece 65 = .ok (.invokevirtual 50, 3) := by decide +kernel
theorem dX6_piece_68 : decode cX6_piece 68 = .ok (.ifCond .eq 7, 3) := by decide +kernel
theorem dX6_piece_71 : decode cX6_piece 71 = .ok (.iconst 1, 1) := by decide +kernel
theorem dX6_piece_72 : decode cX6_piece 72 = .ok (.goto 4, 3) := by decide +kernel
theorem dX6_piece_75 : decode cX6_piece 75 = .ok (.iconst 0, 1) := by decide +kernel
theorem dX6_piece_76 : decode cX6_piece 76 = .ok (.ireturn, 1) := by decide +kernel
theorem dX6_piece_77 : decode cX6_piece 77 = .ok (.aload_n 0, 1) := by decide +kernel
theorem dX6_piece_78 : decode cX6_piece 78 = .ok (.iload_n 1, 1) := by decide +kernel
theorem dX6_piece_79 : decode cX6_piece 79 = .ok (.iconst 1, 1) := by decide +kernel
theorem dX6_piece_80 : decode cX6_piece 80 = .ok (.iadd, 1) := by decide +kernel
theorem dX6_piece_81 : decode cX6_piece 81 = .ok (.invokevirtual 101, 3) := by decide +kernel
theorem dX6_piece_84 : decode cX6_piece 84 = .ok (.ifCond .ne 5, 3) := by decide +kernel
theorem dX6_piece_87 : decode cX6_piece 87 = .ok (.iconst 0, 1) := by decide +kernel
theorem dX6_piece_88 : decode cX6_piece 88 = .ok (.ireturn, 1) := by decide +kernel
theorem dX6_piece_89 : decode cX6_piece 89 = .ok (.aload_n 0, 1) := by decide +kernel
theorem dX6_piece_90 : decode cX6_piece 90 = .ok (.getfield 18, 3) := by decide +kernel
theorem dX6_piece_93 : decode cX6_piece 93 = .ok (.bipush 33, 2) := by decide +kernel
theorem dX6_piece_95 : decode cX6_piece 95 = .ok (.iconst 0, 1) := by decide +kernel
theorem dX6_piece_96 : decode cX6_piece 96 = .ok (.invokevirtual 95, 3) := by decide +kernel
theorem dX6_piece_99 : decode cX6_piece 99 = .ok (.pop, 1) := by decide +kernel
theorem dX6_piece_100 : decode cX6_piece 100 = .ok (.iconst 1, 1) := by decide +kernel
theorem dX6_piece_101 : decode cX6_piece 101 = .ok (.ireturn, 1) := by decide +kernel
theorem dX6_comparison_0 : decode cX6_comparison 0 = .ok (.aload_n 0, 1) := by decide +kernel
theorem dX6_comparison_1 : decode cX6_comparison 1 = .ok (.iconst 2, 1) := by decide +kernel
theorem dX6_comparison_2 : decode cX6_comparison 2 = .ok (.iload_n 1, 1) := by decide +kernel
theorem dX6_comparison_3 : decode cX6_comparison 3 = .ok (.invokevirtual 72, 3) := by decide +kernel
theorem dX6_comparison_6 : decode cX6_comparison 6 = .ok (.ifCond .ne 5, 3) := by decide +kernel
theorem dX6_comparison_9 : decode cX6_comparison 9 = .ok (.iconst 0, 1) := by decide +kernel
theorem dX6_comparison_10 : decode cX6_comparison 10 = .ok (.ireturn, 1) := by decide +kernel
theorem dX6_comparison_11 : decode cX6_comparison 11 = .ok (.aload_n 0, 1) := by decide +kernel
theorem dX6_comparison_12 : decode cX6_comparison 12 = .ok (.invokevirtual 54, 3) := by decide +kernel
theorem dX6_comparison_15 : decode cX6_comparison 15 = .ok (.istore_n 2, 1) := by decide +kernel
theorem dX6_comparison_16 : decode cX6_comparison 16 = .ok (.iload_n 2, 1) := by decide +kernel
theorem dX6_comparison_17 : decode cX6_comparison 17 = .ok (.bipush 60, 2) := by decide +kernel
theorem dX6_comparison_19 : decode cX6_comparison 19 = .ok (.if_icmp .eq 21, 3) := by decide +kernel
theorem dX6_comparison_22 : decode cX6_comparison 22 = .ok (.iload_n 2, 1) := by decide +kernel
theorem dX6_comparison_23 : decode cX6_comparison 23 = .ok (.bipush 62, 2) := by decide +kernel
theorem dX6_comparison_25 : decode cX6_comparison 25 = .ok (.if_icmp .eq 15, 3) := by decide +kernel
theorem dX6_comparison_28 : decode cX6_comparison 28 = .ok (.iload_n 2, 1) := by decide +kernel
theorem dX6_comparison_29 : decode cX6_comparison 29 = .ok (.bipush 61, 2) := by decide +kernel
theorem dX6_comparison_31 : decode cX6_comparison 31 = .ok (.if_icmp .eq 9, 3) := by decide +kernel
theorem dX6_comparison_34 : decode cX6_comparison 34 = .ok (.aload_n 0, 1) := by decide +kernel
theorem dX6_comparison_35 : decode cX6_comparison 35 = .ok (.iconst 1, 1) := by decide +kernel
theorem dX6_comparison_36 : decode cX6_comparison 36 = .ok (.invokevirtual 58, 3) := by decide +kernel
theorem dX6_comparison_39 : decode cX6_comparison 39 = .ok (.ireturn, 1) := by decide +kernel
theorem dX6_comparison_40 : decode cX6_comparison 40 = .ok (.aload_n 0, 1) := by decide +kernel
theorem dX6_comparison_41 : decode cX6_comparison 41 = .ok (.dup, 1) := by decide +kernel
theorem dX6_comparison_42 : decode cX6_comparison 42 = .ok (.getfield 38, 3) := by decide +kernel
theorem dX6_comparison_45 : decode cX6_comparison 45 = .ok (.iconst 1, 1) := by decide +kernel
theorem dX6_comparison_46 : decode cX6_comparison 46 = .ok (.iadd, 1) := by decide +kernel
theorem dX6_comparison_47 : decode cX6_comparison 47 = .ok (.putfield 38, 3) := by decide +kernel
theorem dX6_comparison_50 : decode cX6_comparison 50 = .ok (.aload_n 0, 1) := by decide +kernel
theorem dX6_comparison_51 : decode cX6_comparison 51 = .ok (.iconst 2, 1) := by decide +kernel
theorem dX6_comparison_52 : decode cX6_comparison 52 = .ok (.iload_n 1, 1) := by decide +kernel
theorem dX6_comparison_53 : decode cX6_comparison 53 = .ok (.invokevirtual 72, 3) := by decide +kernel
theorem dX6_comparison_56 : decode cX6_comparison 56 = .ok (.ifCond .ne 5, 3) := by decide +kernel
theorem dX6_comparison_59 : decode cX6_comparison 59 = .ok (.iconst 0, 1) := by decide +kernel
theorem dX6_comparison_60 : decode cX6_comparison 60 = .ok (.ireturn, 1) := by decide +kernel
theorem dX6_comparison_61 : decode cX6_comparison 61 = .ok (.aload_n 0, 1) := by decide +kernel
theorem dX6_comparison_62 : decode cX6_comparison 62 = .ok (.getfield 18, 3) := by decide +kernel
theorem dX6_comparison_65 : decode cX6_comparison 65 = .ok (.iload_n 2, 1) := by decide +kernel
theorem dX6_comparison_66 : decode cX6_comparison 66 = .ok (.iconst 0, 1) := by decide +kernel
theorem dX6_comparison_67 : decode cX6_comparison 67 = .ok (.invokevirtual 95, 3) := by decide +kernel
theorem dX6_comparison_70 : decode cX6_comparison 70 = .ok (.pop, 1) := by decide +kernel
theorem dX6_comparison_71 : decode cX6_comparison 71 = .ok (.iconst 1, 1) := by decide +kernel
theorem dX6_comparison_72 : decode cX6_comparison 72 = .ok (.ireturn, 1) := by decide +kernel
theorem dX6_factor_0 : decode cX6_factor 0 = .ok (.aload_n 0, 1) := by decide +kernel
theorem dX6_factor_1 : decode cX6_factor 1 = .ok (.invokevirtual 54, 3) := by decide +kernel
theorem dX6_factor_4 : decode cX6_factor 4 = .ok (.istore_n 2, 1) := by decide +kernel
theorem dX6_factor_5 : decode cX6_factor 5 = .ok (.iload_n 2, 1) := by decide +kernel
theorem dX6_factor_6 : decode cX6_factor 6 = .ok (.invokestatic 110, 3) := by decide +kernel
theorem dX6_factor_9 : decode cX6_factor 9 = .ok (.ifCond .eq 8, 3) := by decide +kernel
theorem dX6_factor_12 : decode cX6_factor 12 = .ok (.aload_n 0, 1) := by decide +kernel
theorem dX6_factor_13 : decode cX6_factor 13 = .ok (.invokevirtual 113, 3) := by decide +kernel
theorem dX6_factor_16 : decode cX6_factor 16 = .ok (.ireturn, 1) := by decide +kernel
theorem dX6_factor_17 : decode cX6_factor 17 = .ok (.iload_n 2, 1) := by decide +kernel
theorem dX6_factor_18 : decode cX6_factor 18 = .ok (.bipush 91, 2) := by decide +kernel
theorem dX6_factor_20 : decode cX6_factor 20 = .ok (.if_icmp .ne 51, 3) := by decide +kernel
theorem dX6_factor_23 : decode cX6_factor 23 = .ok (.iload_n 1, 1) := by decide +kernel
theorem dX6_factor_24 : decode cX6_factor 24 = .ok (.bipush 6, 2) := by decide +kernel
theorem dX6_factor_26 : decode cX6_factor 26 = .ok (.if_icmp .lt 9, 3) := by decide +kernel
theorem dX6_factor_29 : decode cX6_factor 29 = .ok (.aload_n 0, 1) := by decide +kernel
theorem dX6_factor_30 : decode cX6_factor 30 = .ok (.iconst 5, 1) := by decide +kernel
theorem dX6_factor_31 : decode cX6_factor 31 = .ok (.invokevirtual 58, 3) := by decide +kernel
theorem dX6_factor_34 : decode cX6_factor 34 = .ok (.ireturn, 1) := by decide +kernel
theorem dX6_factor_35 : decode cX6_factor 35 = .ok (.aload_n 0, 1) := by decide +kernel
theorem dX6_factor_36 : decode cX6_factor 36 = .ok (.dup, 1) := by decide +kernel
theorem dX6_factor_37 : decode cX6_factor 37 = .ok (.getfield 38, 3) := by decide +kernel
theorem dX6_factor_40 : decode cX6_factor 40 = .ok (.iconst 1, 1) := by decide +kernel
theorem dX6_factor_41 : decode cX6_factor 41 = .ok (.iadd, 1) := by decide +kernel
theorem dX6_factor_42 : decode cX6_factor 42 = .ok (.putfield 38, 3) := by decide +kernel
theorem dX6_factor_45 : decode cX6_factor 45 = .ok (.aload_n 0, 1) := by decide +kernel
theorem dX6_factor_46 : decode cX6_factor 46 = .ok (.iconst 2, 1) := by decide +kernel
theorem dX6_factor_47 : decode cX6_factor 47 = .ok (.iload_n 1, 1) := by decide +kernel
theorem dX6_factor_48 : decode cX6_factor 48 = .ok (.iconst 1, 1) := by decide +kernel
theorem dX6_factor_49 : decode cX6_factor 49 = .ok (.iadd, 1) := by decide +kernel
theorem dX6_factor_50 : decode cX6_factor 50 = .ok (.invokevirtual 72, 3) := by decide +kernel
theorem dX6_factor_53 : decode cX6_factor 53 = .ok (.ifCond .eq 16, 3) := by decide +kernel
theorem dX6_factor_56 : decode cX6_factor 56 = .ok (.aload_n 0, 1) := by decide +kernel
theorem dX6_factor_57 : decode cX6_factor 57 = .ok (.bipush 93, 2) := by decide +kernel
theorem dX6_factor_59 : decode cX6_factor 59 = .ok (.invokevirtual 50, 3) := by decide +kernel
theorem dX6_factor_62 : decode cX6_factor 62 = .ok (.ifCond .eq 7, 3) := by decide +kernel
theorem dX6_factor_65 : decode cX6_factor 65 = .ok (.iconst 1, 1) := by decide +kernel
theorem dX6_factor_66 : decode cX6_factor 66 = .ok (.goto 4, 3) := by decide +kernel
theorem dX6_factor_69 : decode cX6_factor 69 = .ok (.iconst 0, 1) := by decide +kernel
theorem dX6_factor_70 : decode cX6_factor 70 = .ok (.ireturn, 1) := by decide +kernel
theorem dX6_factor_71 : decode cX6_factor 71 = .ok (.ldc 116, 2) := by decide +kernel
theorem dX6_factor_73 : decode cX6_factor 73 = .ok (.iload_n 2, 1) := by decide +kernel
theorem dX6_factor_74 : decode cX6_factor 74 = .ok (.invokevirtual 64, 3) := by decide +kernel
theorem dX6_factor_77 : decode cX6_factor 77 = .ok (.istore_n 3, 1) := by decide +kernel
theorem dX6_factor_78 : decode cX6_factor 78 = .ok (.iload_n 3, 1) := by decide +kernel
theorem dX6_factor_79 : decode cX6_factor 79 = .ok (.ifCond .ge 9, 3) := by decide +kernel
theorem dX6_factor_82 : decode cX6_factor 82 = .ok (.aload_n 0, 1) := by decide +kernel
theorem dX6_factor_83 : decode cX6_factor 83 = .ok (.iconst 1, 1) := by decide +kernel
theorem dX6_factor_84 : decode cX6_factor 84 = .ok (.invokevirtual 58, 3) := by decide +kernel
theorem dX6_factor_87 : decode cX6_factor 87 = .ok (.ireturn, 1) := by decide +kernel
theorem dX6_factor_88 : decode cX6_factor 88 = .ok (.aload_n 0, 1) := by decide +kernel
theorem dX6_factor_89 : decode cX6_factor 89 = .ok (.dup, 1) := by decide +kernel
theorem dX6_factor_90 : decode cX6_factor 90 = .ok (.getfield 38, 3) := by decide +kernel
theorem dX6_factor_93 : decode cX6_factor 93 = .ok (.iconst 1, 1) := by decide +kernel
theorem dX6_factor_94 : decode cX6_factor 94 = .ok (.iadd, 1) := by decide +kernel
theorem dX6_factor_95 : decode cX6_factor 95 = .ok (.putfield 38, 3) := by decide +kernel
theorem dX6_factor_98 : decode cX6_factor 98 = .ok (.aload_n 0, 1) := by decide +kernel
theorem dX6_factor_99 : decode cX6_factor 99 = .ok (.getfield 18, 3) := by decide +kernel
theorem dX6_factor_102 : decode cX6_factor 102 = .ok (.bipush 110, 2) := by decide +kernel
theorem dX6_factor_104 : decode cX6_factor 104 = .ok (.iload_n 3, 1) := by decide +kernel
theorem dX6_factor_105 : decode cX6_factor 105 = .ok (.invokevirtual 95, 3) := by decide +kernel
theorem dX6_factor_108 : decode cX6_factor 108 = .ok (.pop, 1) := by decide +kernel
theorem dX6_factor_109 : decode cX6_factor 109 = .ok (.iconst 1, 1) := by decide +kernel
theorem dX6_factor_110 : decode cX6_factor 110 = .ok (.ireturn, 1) := by decide +kernel
theorem dX6_isDigit_0 : decode cX6_isDigit 0 = .ok (.iload_n 0, 1) := by decide +kernel
theorem dX6_isDigit_1 : decode cX6_isDigit 1 = .ok (.bipush 48, 2) := by decide +kernel
theorem dX6_isDigit_3 : decode cX6_isDigit 3 = .ok (.if_icmp .lt 13, 3) := by decide +kernel
theorem dX6_isDigit_6 : decode cX6_isDigit 6 = .ok (.iload_n 0, 1) := by decide +kernel
theorem dX6_isDigit_7 : decode cX6_isDigit 7 = .ok (.bipush 57, 2) := by decide +kernel
theorem dX6_isDigit_9 : decode cX6_isDigit 9 = .ok (.if_icmp .gt 7, 3) := by decide +kernel
theorem dX6_isDigit_12 : decode cX6_isDigit 12 = .ok (.iconst 1, 1) := by decide +kernel
theorem dX6_isDigit_13 : decode cX6_isDigit 13 = .ok (.goto 4, 3) := by decide +kernel
theorem dX6_isDigit_16 : decode cX6_isDigit 16 = .ok (.iconst 0, 1) := by decide +kernel
theorem dX6_isDigit_17 : decode cX6_isDigit 17 = .ok (.ireturn, 1) := by decide +kernel
theorem dX6_number_0 : decode cX6_number 0 = .ok (.iconst 0, 1) := by decide +kernel
theorem dX6_number_1 : decode cX6_number 1 = .ok (.istore_n 1, 1) := by decide +kernel
theorem dX6_number_2 : decode cX6_number 2 = .ok (.iconst 0, 1) := by decide +kernel
theorem dX6_number_3 : decode cX6_number 3 = .ok (.istore_n 2, 1) := by decide +kernel
theorem dX6_number_4 : decode cX6_number 4 = .ok (.iload_n 2, 1) := by decide +kernel
theorem dX6_number_5 : decode cX6_number 5 = .ok (.iconst 5, 1) := by decide +kernel
theorem dX6_number_6 : decode cX6_number 6 = .ok (.if_icmp .ge 42, 3) := by decide +kernel
theorem dX6_number_9 : decode cX6_number 9 = .ok (.aload_n 0, 1) := by decide +kernel
theorem dX6_number_10 : decode cX6_number 10 = .ok (.invokevirtual 54, 3) := by decide +kernel
theorem dX6_number_13 : decode cX6_number 13 = .ok (.invokestatic 110, 3) := by decide +kernel
theorem dX6_number_16 : decode cX6_number 16 = .ok (.ifCond .eq 32, 3) := by decide +kernel
theorem dX6_number_19 : decode cX6_number 19 = .ok (.iload_n 1, 1) := by decide +kernel
theorem dX6_number_20 : decode cX6_number 20 = .ok (.bipush 10, 2) := by decide +kernel
theorem dX6_number_22 : decode cX6_number 22 = .ok (.imul, 1) := by decide +kernel
theorem dX6_number_23 : decode cX6_number 23 = .ok (.aload_n 0, 1) := by decide +kernel
theorem dX6_number_24 : decode cX6_number 24 = .ok (.invokevirtual 54, 3) := by decide +kernel
theorem dX6_number_27 : decode cX6_number 27 = .ok (.iadd, 1) := by decide +kernel
theorem dX6_number_28 : decode cX6_number 28 = .ok (.bipush 48, 2) := by decide +kernel
theorem dX6_number_30 : decode cX6_number 30 = .ok (.isub, 1) := by decide +kernel
theorem dX6_number_31 : decode cX6_number 31 = .ok (.istore_n 1, 1) := by decide +kernel
theorem dX6_number_32 : decode cX6_number 32 = .ok (.aload_n 0, 1) := by decide +kernel
theorem dX6_number_33 : decode cX6_number 33 = .ok (.dup, 1) := by decide +kernel
theorem dX6_number_34 : decode cX6_number 34 = .ok (.getfield 38, 3) := by decide +kernel
theorem dX6_number_37 : decode cX6_number 37 = .ok (.iconst 1, 1) := by decide +kernel
theorem dX6_number_38 : decode cX6_number 38 = .ok (.iadd, 1) := by decide +kernel
theorem dX6_number_39 : decode cX6_number 39 = .ok (.putfield 38, 3) := by decide +kernel
theorem dX6_number_42 : decode cX6_number 42 = .ok (.iinc 2 1, 3) := by decide +kernel
theorem dX6_number_45 : decode cX6_number 45 = .ok (.goto (-41), 3) := by decide +kernel
theorem dX6_number_48 : decode cX6_number 48 = .ok (.aload_n 0, 1) := by decide +kernel
theorem dX6_number_49 : decode cX6_number 49 = .ok (.invokevirtual 54, 3) := by decide +kernel
theorem dX6_number_52 : decode cX6_number 52 = .ok (.invokestatic 110, 3) := by decide +kernel
theorem dX6_number_55 : decode cX6_number 55 = .ok (.ifCond .eq 9, 3) := by decide +kernel
theorem dX6_number_58 : decode cX6_number 58 = .ok (.aload_n 0, 1) := by decide +kernel
theorem dX6_number_59 : decode cX6_number 59 = .ok (.iconst 2, 1) := by decide +kernel
theorem dX6_number_60 : decode cX6_number 60 = .ok (.invokevirtual 58, 3) := by decide +kernel
theorem dX6_number_63 : decode cX6_number 63 = .ok (.ireturn, 1) := by decide +kernel
theorem dX6_number_64 : decode cX6_number 64 = .ok (.aload_n 0, 1) := by decide +kernel
theorem dX6_number_65 : decode cX6_number 65 = .ok (.getfield 18, 3) := by decide +kernel
theorem dX6_number_68 : decode cX6_number 68 = .ok (.bipush 48, 2) := by decide +kernel
theorem dX6_number_70 : decode cX6_number 70 = .ok (.iload_n 1, 1) := by decide +kernel
theorem dX6_number_71 : decode cX6_number 71 = .ok (.invokevirtual 95, 3) := by decide +kernel
theorem dX6_number_74 : decode cX6_number 74 = .ok (.pop, 1) := by decide +kernel
theorem dX6_number_75 : decode cX6_number 75 = .ok (.iconst 1, 1) := by decide +kernel
theorem dX6_number_76 : decode cX6_number 76 = .ok (.ireturn, 1) := by decide +kernel
theorem dX10_init_0 : decode cX10_init 0 = .ok (.aload_n 0, 1) := by decide +kernel
theorem dX10_init_1 : decode cX10_init 1 = .ok (.invokespecial 3, 3) := by decide +kernel
theorem dX10_init_4 : decode cX10_init 4 = .ok (.aload_n 0, 1) := by decide +kernel
theorem dX10_init_5 : decode cX10_init 5 = .ok (.sipush 1024, 3) := by decide +kernel
theorem dX10_init_8 : decode cX10_init 8 = .ok (.newarray .int, 2) := by decide +kernel
theorem dX10_init_10 : decode cX10_init 10 = .ok (.putfield 11, 3) := by decide +kernel
theorem dX10_init_13 : decode cX10_init 13 = .ok (.aload_n 0, 1) := by decide +kernel
theorem dX10_init_14 : decode cX10_init 14 = .ok (.sipush 1024, 3) := by decide +kernel
theorem dX10_init_17 : decode cX10_init 17 = .ok (.newarray .int, 2) := by decide +kernel
theorem dX10_init_19 : decode cX10_init 19 = .ok (.putfield 15, 3) := by decide +kernel
theorem dX10_init_22 : decode cX10_init 22 = .ok (.aload_n 0, 1) := by decide +kernel
theorem dX10_init_23 : decode cX10_init 23 = .ok (.sipush 1024, 3) := by decide +kernel
theorem dX10_init_26 : decode cX10_init 26 = .ok (.newarray .int, 2) := by decide +kernel
theorem dX10_init_28 : decode cX10_init 28 = .ok (.putfield 18, 3) := by decide +kernel
theorem dX10_init_31 : decode cX10_init 31 = .ok (.aload_n 0, 1) := by decide +kernel
theorem dX10_init_32 : decode cX10_init 32 = .ok (.sipush 1024, 3) := by decide +kernel
theorem dX10_init_35 : decode cX10_init 35 = .ok (.newarray .int, 2) := by decide +kernel
theorem dX10_init_37 : decode cX10_init 37 = .ok (.putfield 21, 3) := by decide +kernel
theorem dX10_init_40 : decode cX10_init 40 = .ok (.aload_n 0, 1) := by decide +kernel
theorem dX10_init_41 : decode cX10_init 41 = .ok (.sipush 1024, 3) := by decide +kernel
theorem dX10_init_44 : decode cX10_init 44 = .ok (.newarray .int, 2) := by decide +kernel
theorem dX10_init_46 : decode cX10_init 46 = .ok (.putfield 24, 3) := by decide +kernel
theorem dX10_init_49 : decode cX10_init 49 = .ok (.aload_n 0, 1) := by decide +kernel
theorem dX10_init_50 : decode cX10_init 50 = .ok (.sipush 1024, 3) := by decide +kernel
theorem dX10_init_53 : decode cX10_init 53 = .ok (.newarray .int, 2) := by decide +kernel
theorem dX10_init_55 : decode cX10_init 55 = .ok (.putfield 27, 3) := by decide +kernel
theorem dX10_init_58 : decode cX10_init 58 = .ok (.aload_n 0, 1) := by decide +kernel
theorem dX10_init_59 : decode cX10_init 59 = .ok (.sipush 1024, 3) := by decide +kernel
theorem dX10_init_62 : decode cX10_init 62 = .ok (.newarray .long, 2) := by decide +kernel
theorem dX10_init_64 : decode cX10_init 64 = .ok (.putfield 30, 3) := by decide +kernel
theorem dX10_init_67 : decode cX10_init 67 = .ok (.aload_n 0, 1) := by decide +kernel
theorem dX10_init_68 : decode cX10_init 68 = .ok (.sipush 1024, 3) := by decide +kernel
theorem dX10_init_71 : decode cX10_init 71 = .ok (.newarray .long, 2) := by decide +kernel
theorem dX10_init_73 : decode cX10_init 73 = .ok (.putfield 34, 3) := by decide +kernel
theorem dX10_init_76 : decode cX10_init 76 = .ok (.aload_n 0, 1) := by decide +kernel
theorem dX10_init_77 : decode cX10_init 77 = .ok (.aload_n 1, 1) := by decide +kernel
theorem dX10_init_78 : decode cX10_init 78 = .ok (.putfield 37, 3) := by decide +kernel
theorem dX10_init_81 : decode cX10_init 81 = .ok (.aload_n 0, 1) := by decide +kernel
theorem dX10_init_82 : decode cX10_init 82 = .ok (.aload_n 2, 1) := by decide +kernel
theorem dX10_init_83 : decode cX10_init 83 = .ok (.putfield 41, 3) := by decide +kernel
theorem dX10_init_86 : decode cX10_init 86 = .ok (.iconst 0, 1) := by decide +kernel
theorem dX10_init_87 : decode cX10_init 87 = .ok (.istore_n 3, 1) := by decide +kernel
theorem dX10_init_88 : decode cX10_init 88 = .ok (.iload_n 3, 1) := by decide +kernel
theorem dX10_init_89 : decode cX10_init 89 = .ok (.bipush 10, 2) := by decide +kernel
theorem dX10_init_91 : decode cX10_init 91 = .ok (.if_icmp .ge 51, 3) := by decide +kernel
theorem dX10_init_94 : decode cX10_init 94 = .ok (.iconst 0, 1) := by decide +kernel
theorem dX10_init_95 : decode cX10_init 95 = .ok (.istore 4, 2) := by decide +kernel
theorem dX10_init_97 : decode cX10_init 97 = .ok (.iload 4, 2) := by decide +kernel
theorem dX10_init_99 : decode cX10_init 99 = .ok (.iconst 1, 1) := by decide +kernel
theorem dX10_init_100 : decode cX10_init 100 = .ok (.iload_n 3, 1) := by decide +kernel
theorem dX10_init_101 : decode cX10_init 101 = .ok (.ishl, 1) := by decide +kernel
theorem dX10_init_102 : decode cX10_init 102 = .ok (.if_icmp .ge 34, 3) := by decide +kernel
theorem dX10_init_105 : decode cX10_init 105 = .ok (.aload_n 0, 1) := by decide +kernel
theorem dX10_init_106 : decode cX10_init 106 = .ok (.getfield 15, 3) := by decide +kernel
theorem dX10_init_109 : decode cX10_init 109 = .ok (.iconst 1, 1) := by decide +kernel
theorem dX10_init_110 : decode cX10_init 110 = .ok (.iload_n 3, 1) := by decide +kernel
theorem dX10_init_111 : decode cX10_init 111 = .ok (.ishl, 1) := by decide +kernel
theorem dX10_init_112 : decode cX10_init 112 = .ok (.iload 4, 2) := by decide +kernel
theorem dX10_init_114 : decode cX10_init 114 = .ok (.ior, 1) := by decide +kernel
theorem dX10_init_115 : decode cX10_init 115 = .ok (.iconst 1, 1) := by decide +kernel
theorem dX10_init_116 : decode cX10_init 116 = .ok (.iload_n 3, 1) := by decide +kernel
theorem dX10_init_117 : decode cX10_init 117 = .ok (.invokestatic 45, 3) := by decide +kernel
theorem dX10_init_120 : decode cX10_init 120 = .ok (.ishl, 1) := by decide +kernel
theorem dX10_init_121 : decode cX10_init 121 = .ok (.aload_n 0, 1) := by decide +kernel
theorem dX10_init_122 : decode cX10_init 122 = .ok (.getfield 15, 3) := by decide +kernel
theorem dX10_init_125 : decode cX10_init 125 = .ok (.iload 4, 2) := by decide +kernel
theorem dX10_init_127 : decode cX10_init 127 = .ok (.iaload, 1) := by decide +kernel
theorem dX10_init_128 : decode cX10_init 128 = .ok (.ior, 1) := by decide +kernel
theorem dX10_init_129 : decode cX10_init 129 = .ok (.iastore, 1) := by decide +kernel
theorem dX10_init_130 : decode cX10_init 130 = .ok (.iinc 4 1, 3) := by decide +kernel
theorem dX10_init_133 : decode cX10_init 133 = .ok (.goto (-36), 3) := by decide +kernel
theorem dX10_init_136 : decode cX10_init 136 = .ok (.iinc 3 1, 3) := by decide +kernel
theorem dX10_init_139 : decode cX10_init 139 = .ok (.goto (-51), 3) := by decide +kernel
theorem dX10_init_142 : decode cX10_init 142 = .ok (.return_, 1) := by decide +kernel
theorem dX10_shiftOf_0 : decode cX10_shiftOf 0 = .ok (.iconst 3, 1) := by decide +kernel
theorem dX10_shiftOf_1 : decode cX10_shiftOf 1 = .ok (.bipush 9, 2) := by decide +kernel
theorem dX10_shiftOf_3 : decode cX10_shiftOf 3 = .ok (.iload_n 0, 1) := by decide +kernel
theorem dX10_shiftOf_4 : decode cX10_shiftOf 4 = .ok (.isub, 1) := by decide +kernel
theorem dX10_shiftOf_5 : decode cX10_shiftOf 5 = .ok (.imul, 1) := by decide +kernel
theorem dX10_shiftOf_6 : decode cX10_shiftOf 6 = .ok (.ireturn, 1) := by decide +kernel
theorem dX10_forget_0 : decode cX10_forget 0 = .ok (.aload_n 0, 1) := by decide +kernel
theorem dX10_forget_1 : decode cX10_forget 1 = .ok (.iconst 0, 1) := by decide +kernel
theorem dX10_forget_2 : decode cX10_forget 2 = .ok (.putfield 49, 3) := by decide +kernel
theorem dX10_forget_5 : decode cX10_forget 5 = .ok (.return_, 1) := by decide +kernel
theorem dX10_whole_0 : decode cX10_whole 0 = .ok (.iconst 1, 1) := by decide +kernel
theorem dX10_whole_1 : decode cX10_whole 1 = .ok (.aload_n 0, 1) := by decide +kernel
theorem dX10_whole_2 : decode cX10_whole 2 = .ok (.getfield 37, 3) := by decide +kernel
theorem dX10_whole_5 : decode cX10_whole 5 = .ok (.getfield 53, 3) := by decide +kernel
theorem dX10_whole_8 : decode cX10_whole 8 = .ok (.getfield 59, 3) := by decide +kernel
theorem dX10_whole_11 : decode cX10_whole 11 = .ok (.ishl, 1) := by decide +kernel
theorem dX10_whole_12 : decode cX10_whole 12 = .ok (.iconst 1, 1) := by decide +kernel
theorem dX10_whole_13 : decode cX10_whole 13 = .ok (.isub, 1) := by decide +kernel
theorem dX10_whole_14 : decode cX10_whole 14 = .ok (.ireturn, 1) := by decide +kernel
theorem dX10_settle_0 : decode cX10_settle 0 = .ok (.aload_n 0, 1) := by decide +kernel
theorem dX10_settle_1 : decode cX10_settle 1 = .ok (.getfield 49, 3) := by decide +kernel
theorem dX10_settle_4 : decode cX10_settle 4 = .ok (.ifCond .eq 4, 3) := by decide +kernel
theorem dX10_settle_7 : decode cX10_settle 7 = .ok (.return_, 1) := by decide +kernel
theorem dX10_settle_8 : decode cX10_settle 8 = .ok (.aload_n 0, 1) := by decide +kernel
theorem dX10_settle_9 : decode cX10_settle 9 = .ok (.invokevirtual 65, 3) := by decide +kernel
theorem dX10_settle_12 : decode cX10_settle 12 = .ok (.istore_n 2, 1) := by decide +kernel
theorem dX10_settle_13 : decode cX10_settle 13 = .ok (.aload_n 0, 1) := by decide +kernel
theorem dX10_settle_14 : decode cX10_settle 14 = .ok (.iload_n 2, 1) := by decide +kernel
theorem dX10_settle_15 : decode cX10_settle 15 = .ok (.invokevirtual 69, 3) := by decide +kernel
theorem dX10_settle_18 : decode cX10_settle 18 = .ok (.iconst 0, 1) := by decide +kernel
theorem dX10_settle_19 : decode cX10_settle 19 = .ok (.istore_n 3, 1) := by decide +kernel
theorem dX10_settle_20 : decode cX10_settle 20 = .ok (.iload_n 3, 1) := by decide +kernel
theorem dX10_settle_21 : decode cX10_settle 21 = .ok (.aload_n 0, 1) := by decide +kernel
theorem dX10_settle_22 : decode cX10_settle 22 = .ok (.getfield 37, 3) := by decide +kernel
theorem dX10_settle_25 : decode cX10_settle 25 = .ok (.getfield 73, 3) := by decide +kernel
theorem dX10_settle_28 : decode cX10_settle 28 = .ok (.getfield 77, 3) := by decide +kernel
theorem dX10_settle_31 : decode cX10_settle 31 = .ok (.if_icmp .ge 90, 3) := by decide +kernel
theorem dX10_settle_34 : decode cX10_settle 34 = .ok (.aload_n 0, 1) := by decide +kernel
theorem dX10_settle_35 : decode cX10_settle 35 = .ok (.getfield 37, 3) := by decide +kernel
theorem dX10_settle_38 : decode cX10_settle 38 = .ok (.iload_n 3, 1) := by decide +kernel
theorem dX10_settle_39 : decode cX10_settle 39 = .ok (.invokevirtual 80, 3) := by decide +kernel
theorem dX10_settle_42 : decode cX10_settle 42 = .ok (.istore 4, 2) := by decide +kernel
theorem dX10_settle_44 : decode cX10_settle 44 = .ok (.iload 4, 2) := by decide +kernel
theorem dX10_settle_46 : decode cX10_settle 46 = .ok (.istore 5, 2) := by decide +kernel
theorem dX10_settle_48 : decode cX10_settle 48 = .ok (.iload 5, 2) := by decide +kernel
theorem dX10_settle_50 : decode cX10_settle 50 = .ok (.ifCond .lt 42, 3) := by decide +kernel
theorem dX10_settle_53 : decode cX10_settle 53 = .ok (.aload_n 0, 1) := by decide +kernel
theorem dX10_settle_54 : decode cX10_settle 54 = .ok (.getfield 11, 3) := by decide +kernel
theorem dX10_settle_57 : decode cX10_settle 57 = .ok (.iload 5, 2) := by decide +kernel
theorem dX10_settle_59 : decode cX10_settle 59 = .ok (.aload_n 0, 1) := by decide +kernel
theorem dX10_settle_60 : decode cX10_settle 60 = .ok (.getfield 41, 3) := by decide +kernel
theorem dX10_settle_63 : decode cX10_settle 63 = .ok (.iload_n 3, 1) := by decide +kernel
theorem dX10_settle_64 : decode cX10_settle 64 = .ok (.iload 5, 2) := by decide +kernel
theorem dX10_settle_66 : decode cX10_settle 66 = .ok (.aload_n 1, 1) := by decide +kernel
theorem dX10_settle_67 : decode cX10_settle 67 = .ok (.invokevirtual 83, 3) := by decide +kernel
theorem dX10_settle_70 : decode cX10_settle 70 = .ok (.iastore, 1) := by decide +kernel
theorem dX10_settle_71 : decode cX10_settle 71 = .ok (.iload 5, 2) := by decide +kernel
theorem dX10_settle_73 : decode cX10_settle 73 = .ok (.ifCond .ne 7, 3) := by decide +kernel
theorem dX10_settle_76 : decode cX10_settle 76 = .ok (.iconst (-1), 1) := by decide +kernel
theorem dX10_settle_77 : decode cX10_settle 77 = .ok (.goto 10, 3) := by decide +kernel
theorem dX10_settle_80 : decode cX10_settle 80 = .ok (.iload 5, 2) := by decide +kernel
theorem dX10_settle_82 : decode cX10_settle 82 = .ok (.iconst 1, 1) := by decide +kernel
theorem dX10_settle_83 : decode cX10_settle 83 = .ok (.isub, 1) := by decide +kernel
theorem dX10_settle_84 : decode cX10_settle 84 = .ok (.iload 4, 2) := by decide +kernel
theorem dX10_settle_86 : decode cX10_settle 86 = .ok (.iand, 1) := by decide +kernel
theorem dX10_settle_87 : decode cX10_settle 87 = .ok (.istore 5, 2) := by decide +kernel
theorem dX10_settle_89 : decode cX10_settle 89 = .ok (.goto (-41), 3) := by decide +kernel
theorem dX10_settle_92 : decode cX10_settle 92 = .ok (.iload_n 2, 1) := by decide +kernel
theorem dX10_settle_93 : decode cX10_settle 93 = .ok (.istore 5, 2) := by decide +kernel
theorem dX10_settle_95 : decode cX10_settle 95 = .ok (.iload 5, 2) := by decide +kernel
theorem dX10_settle_97 : decode cX10_settle 97 = .ok (.ifCond .lt 18, 3) := by decide +kernel
theorem dX10_settle_100 : decode cX10_settle 100 = .ok (.aload_n 0, 1) := by decide +kernel
theorem dX10_settle_101 : decode cX10_settle 101 = .ok (.iload 5, 2) := by decide +kernel
theorem dX10_settle_103 : decode cX10_settle 103 = .ok (.iload_n 3, 1) := by decide +kernel
theorem dX10_settle_104 : decode cX10_settle 104 = .ok (.iload 4, 2) := by decide +kernel
theorem dX10_settle_106 : decode cX10_settle 106 = .ok (.invokevirtual 88, 3) := by decide +kernel
theorem dX10_settle_109 : decode cX10_settle 109 = .ok (.iinc 5 (-1), 3) := by decide +kernel
theorem dX10_settle_112 : decode cX10_settle 112 = .ok (.goto (-17), 3) := by decide +kernel
theorem dX10_settle_115 : decode cX10_settle 115 = .ok (.iinc 3 1, 3) := by decide +kernel
theorem dX10_settle_118 : decode cX10_settle 118 = .ok (.goto (-98), 3) := by decide +kernel
theorem dX10_settle_121 : decode cX10_settle 121 = .ok (.iconst 0, 1) := by decide +kernel
theorem dX10_settle_122 : decode cX10_settle 122 = .ok (.istore_n 3, 1) := by decide +kernel
theorem dX10_settle_123 : decode cX10_settle 123 = .ok (.iload_n 3, 1) := by decide +kernel
theorem dX10_settle_124 : decode cX10_settle 124 = .ok (.iload_n 2, 1) := by decide +kernel
theorem dX10_settle_125 : decode cX10_settle 125 = .ok (.if_icmp .gt 28, 3) := by decide +kernel
theorem dX10_settle_128 : decode cX10_settle 128 = .ok (.aload_n 0, 1) := by decide +kernel
theorem dX10_settle_129 : decode cX10_settle 129 = .ok (.getfield 11, 3) := by decide +kernel
theorem dX10_settle_132 : decode cX10_settle 132 = .ok (.iload_n 3, 1) := by decide +kernel
theorem dX10_settle_133 : decode cX10_settle 133 = .ok (.aload_n 0, 1) := by decide +kernel
theorem dX10_settle_134 : decode cX10_settle 134 = .ok (.getfield 37, 3) := by decide +kernel
theorem dX10_settle_137 : decode cX10_settle 137 = .ok (.getfield 92, 3) := by decide +kernel
theorem dX10_settle_140 : decode cX10_settle 140 = .ok (.ineg, 1) := by decide +kernel
theorem dX10_settle_141 : decode cX10_settle 141 = .ok (.iload_n 3, 1) := by decide +kernel
theorem dX10_settle_142 : decode cX10_settle 142 = .ok (.invokestatic 95, 3) := by decide +kernel
theorem dX10_settle_145 : decode cX10_settle 145 = .ok (.imul, 1) := by decide +kernel
theorem dX10_settle_146 : decode cX10_settle 146 = .ok (.iastore, 1) := by decide +kernel
theorem dX10_settle_147 : decode cX10_settle 147 = .ok (.iinc 3 1, 3) := by decide +kernel
theorem dX10_settle_150 : decode cX10_settle 150 = .ok (.goto (-27), 3) := by decide +kernel
theorem dX10_settle_153 : decode cX10_settle 153 = .ok (.aload_n 0, 1) := by decide +kernel
theorem dX10_settle_154 : decode cX10_settle 154 = .ok (.iload_n 2, 1) := by decide +kernel
theorem dX10_settle_155 : decode cX10_settle 155 = .ok (.bipush 6, 2) := by decide +kernel
theorem dX10_settle_157 : decode cX10_settle 157 = .ok (.iload_n 2, 1) := by decide +kernel
theorem dX10_settle_158 : decode cX10_settle 158 = .ok (.invokevirtual 88, 3) := by decide +kernel
theorem dX10_settle_161 : decode cX10_settle 161 = .ok (.aload_n 0, 1) := by decide +kernel
theorem dX10_settle_162 : decode cX10_settle 162 = .ok (.iconst 1, 1) := by decide +kernel
theorem dX10_settle_163 : decode cX10_settle 163 = .ok (.putfield 49, 3) := by decide +kernel
theorem dX10_settle_166 : decode cX10_settle 166 = .ok (.return_, 1) := by decide +kernel
theorem dX10_startEmpty_0 : decode cX10_startEmpty 0 = .ok (.iconst 0, 1) := by decide +kernel
theorem dX10_startEmpty_1 : decode cX10_startEmpty 1 = .ok (.istore_n 2, 1) := by decide +kernel
theorem dX10_startEmpty_2 : decode cX10_startEmpty 2 = .ok (.iload_n 2, 1) := by decide +kernel
theorem dX10_startEmpty_3 : decode cX10_startEmpty 3 = .ok (.iload_n 1, 1) := by decide +kernel
theorem dX10_startEmpty_4 : decode cX10_startEmpty 4 = .ok (.if_icmp .gt 53, 3) := by decide +kernel
theorem dX10_startEmpty_7 : decode cX10_startEmpty 7 = .ok (.aload_n 0, 1) := by decide +kernel
theorem dX10_startEmpty_8 : decode cX10_startEmpty 8 = .ok (.getfield 18, 3) := by decide +kernel
theorem dX10_startEmpty_11 : decode cX10_startEmpty 11 = .ok (.iload_n 2, 1) := by decide +kernel
theorem dX10_startEmpty_12 : decode cX10_startEmpty 12 = .ok (.ldc 100, 2) := by decide +kernel
theorem dX10_startEmpty_14 : decode cX10_startEmpty 14 = .ok (.iastore, 1) := by decide +kernel
theorem dX10_startEmpty_15 : decode cX10_startEmpty 15 = .ok (.aload_n 0, 1) := by decide +kernel
theorem dX10_startEmpty_16 : decode cX10_startEmpty 16 = .ok (.getfield 21, 3) := by decide +kernel
theorem dX10_startEmpty_19 : decode cX10_startEmpty 19 = .ok (.iload_n 2, 1) := by decide +kernel
theorem dX10_startEmpty_20 : decode cX10_startEmpty 20 = .ok (.ldc 100, 2) := by decide +kernel
theorem dX10_startEmpty_22 : decode cX10_startEmpty 22 = .ok (.iastore, 1) := by decide +kernel
theorem dX10_startEmpty_23 : decode cX10_startEmpty 23 = .ok (.aload_n 0, 1) := by decide +kernel
theorem dX10_startEmpty_24 : decode cX10_startEmpty 24 = .ok (.getfield 24, 3) := by decide +kernel
theorem dX10_startEmpty_27 : decode cX10_startEmpty 27 = .ok (.iload_n 2, 1) := by decide +kernel
theorem dX10_startEmpty_28 : decode cX10_startEmpty 28 = .ok (.iconst 0, 1) := by decide +kernel
theorem dX10_startEmpty_29 : decode cX10_startEmpty 29 = .ok (.iastore, 1) := by decide +kernel
theorem dX10_startEmpty_30 : decode cX10_startEmpty 30 = .ok (.aload_n 0, 1) := by decide +kernel
theorem dX10_startEmpty_31 : decode cX10_startEmpty 31 = .ok (.getfield 27, 3) := by decide +kernel
theorem dX10_startEmpty_34 : decode cX10_startEmpty 34 = .ok (.iload_n 2, 1) := by decide +kernel
theorem dX10_startEmpty_35 : decode cX10_startEmpty 35 = .ok (.iconst 0, 1) := by decide +kernel
theorem dX10_startEmpty_36 : decode cX10_startEmpty 36 = .ok (.iastore, 1) := by decide +kernel
theorem dX10_startEmpty_37 : decode cX10_startEmpty 37 = .ok (.aload_n 0, 1) := by decide +kernel
theorem dX10_startEmpty_38 : decode cX10_startEmpty 38 = .ok (.getfield 30, 3) := by decide +kernel
theorem dX10_startEmpty_41 : decode cX10_startEmpty 41 = .ok (.iload_n 2, 1) := by decide +kernel
theorem dX10_startEmpty_42 : decode cX10_startEmpty 42 = .ok (.lconst 0, 1) := by decide +kernel
theorem dX10_startEmpty_43 : decode cX10_startEmpty 43 = .ok (.lastore, 1) := by decide +kernel
theorem dX10_startEmpty_44 : decode cX10_startEmpty 44 = .ok (.aload_n 0, 1) := by decide +kernel
theorem dX10_startEmpty_45 : decode cX10_startEmpty 45 = .ok (.getfield 34, 3) := by decide +kernel
theorem dX10_startEmpty_48 : decode cX10_startEmpty 48 = .ok (.iload_n 2, 1) := by decide +kernel
theorem dX10_startEmpty_49 : decode cX10_startEmpty 49 = .ok (.lconst 0, 1) := by decide +kernel
theorem dX10_startEmpty_50 : decode cX10_startEmpty 50 = .ok (.lastore, 1) := by decide +kernel
theorem dX10_startEmpty_51 : decode cX10_startEmpty 51 = .ok (.iinc 2 1, 3) := by decide +kernel
theorem dX10_startEmpty_54 : decode cX10_startEmpty 54 = .ok (.goto (-52), 3) := by decide +kernel
theorem dX10_startEmpty_57 : decode cX10_startEmpty 57 = .ok (.aload_n 0, 1) := by decide +kernel
theorem dX10_startEmpty_58 : decode cX10_startEmpty 58 = .ok (.getfield 18, 3) := by decide +kernel
theorem dX10_startEmpty_61 : decode cX10_startEmpty 61 = .ok (.iconst 0, 1) := by decide +kernel
theorem dX10_startEmpty_62 : decode cX10_startEmpty 62 = .ok (.iconst 0, 1) := by decide +kernel
theorem dX10_startEmpty_63 : decode cX10_startEmpty 63 = .ok (.iastore, 1) := by decide +kernel
theorem dX10_startEmpty_64 : decode cX10_startEmpty 64 = .ok (.aload_n 0, 1) := by decide +kernel
theorem dX10_startEmpty_65 : decode cX10_startEmpty 65 = .ok (.getfield 30, 3) := by decide +kernel
theorem dX10_startEmpty_68 : decode cX10_startEmpty 68 = .ok (.iconst 0, 1) := by decide +kernel
theorem dX10_startEmpty_69 : decode cX10_startEmpty 69 = .ok (.lconst 1, 1) := by decide +kernel
theorem dX10_startEmpty_70 : decode cX10_startEmpty 70 = .ok (.lastore, 1) := by decide +kernel
theorem dX10_startEmpty_71 : decode cX10_startEmpty 71 = .ok (.aload_n 0, 1) := by decide +kernel
theorem dX10_startEmpty_72 : decode cX10_startEmpty 72 = .ok (.getfield 34, 3) := by decide +kernel
theorem dX10_startEmpty_75 : decode cX10_startEmpty 75 = .ok (.iconst 0, 1) := by decide +kernel
theorem dX10_startEmpty_76 : decode cX10_startEmpty 76 = .ok (.lconst 1, 1) := by decide +kernel
theorem dX10_startEmpty_77 : decode cX10_startEmpty 77 = .ok (.lastore, 1) := by decide +kernel
theorem dX10_startEmpty_78 : decode cX10_startEmpty 78 = .ok (.return_, 1) := by decide +kernel
theorem dX10_widen_0 : decode cX10_widen 0 = .ok (.ldc 100, 2) := by decide +kernel
theorem dX10_widen_2 : decode cX10_widen 2 = .ok (.istore 4, 2) := by decide +kernel
theorem dX10_widen_4 : decode cX10_widen 4 = .ok (.ldc 100, 2) := by decide +kernel
theorem dX10_widen_6 : decode cX10_widen 6 = .ok (.istore 5, 2) := by decide +kernel
theorem dX10_widen_8 : decode cX10_widen 8 = .ok (.iconst 0, 1) := by decide +kernel
theorem dX10_widen_9 : decode cX10_widen 9 = .ok (.istore 6, 2) := by decide +kernel
theorem dX10_widen_11 : decode cX10_widen 11 = .ok (.iconst 0, 1) := by decide +kernel
theorem dX10_widen_12 : decode cX10_widen 12 = .ok (.istore 7, 2) := by decide +kernel
theorem dX10_widen_14 : decode cX10_widen 14 = .ok (.lconst 0, 1) := by decide +kernel
theorem dX10_widen_15 : decode cX10_widen 15 = .ok (.lstore 8, 2) := by decide +kernel
theorem dX10_widen_17 : decode cX10_widen 17 = .ok (.lconst 0, 1) := by decide +kernel
theorem dX10_widen_18 : decode cX10_widen 18 = .ok (.lstore 10, 2) := by decide +kernel
theorem dX10_widen_20 : decode cX10_widen 20 = .ok (.iload_n 1, 1) := by decide +kernel
theorem dX10_widen_21 : decode cX10_widen 21 = .ok (.iload_n 3, 1) := by decide +kernel
theorem dX10_widen_22 : decode cX10_widen 22 = .ok (.iand, 1) := by decide +kernel
theorem dX10_widen_23 : decode cX10_widen 23 = .ok (.istore 12, 2) := by decide +kernel
theorem dX10_widen_25 : decode cX10_widen 25 = .ok (.iload 12, 2) := by decide +kernel
theorem dX10_widen_27 : decode cX10_widen 27 = .ok (.istore 13, 2) := by decide +kernel
theorem dX10_widen_29 : decode cX10_widen 29 = .ok (.iload 13, 2) := by decide +kernel
theorem dX10_widen_31 : decode cX10_widen 31 = .ok (.ifCond .lt 261, 3) := by decide +kernel
theorem dX10_widen_34 : decode cX10_widen 34 = .ok (.iload_n 1, 1) := by decide +kernel
theorem dX10_widen_35 : decode cX10_widen 35 = .ok (.iload 13, 2) := by decide +kernel
theorem dX10_widen_37 : decode cX10_widen 37 = .ok (.ixor, 1) := by decide +kernel
theorem dX10_widen_38 : decode cX10_widen 38 = .ok (.istore 14, 2) := by decide +kernel
theorem dX10_widen_40 : decode cX10_widen 40 = .ok (.aload_n 0, 1) := by decide +kernel
theorem dX10_widen_41 : decode cX10_widen 41 = .ok (.getfield 11, 3) := by decide +kernel
theorem dX10_widen_44 : decode cX10_widen 44 = .ok (.iload 13, 2) := by decide +kernel
theorem dX10_widen_46 : decode cX10_widen 46 = .ok (.iaload, 1) := by decide +kernel
theorem dX10_widen_47 : decode cX10_widen 47 = .ok (.ldc 100, 2) := by decide +kernel
theorem dX10_widen_49 : decode cX10_widen 49 = .ok (.if_icmp .eq 222, 3) := by decide +kernel
theorem dX10_widen_52 : decode cX10_widen 52 = .ok (.aload_n 0, 1) := by decide +kernel
theorem dX10_widen_53 : decode cX10_widen 53 = .ok (.getfield 34, 3) := by decide +kernel
theorem dX10_widen_56 : decode cX10_widen 56 = .ok (.iload 14, 2) := by decide +kernel
theorem dX10_widen_58 : decode cX10_widen 58 = .ok (.laload, 1) := by decide +kernel
theorem dX10_widen_59 : decode cX10_widen 59 = .ok (.lconst 0, 1) := by decide +kernel
theorem dX10_widen_60 : decode cX10_widen 60 = .ok (.lcmp, 1) := by decide +kernel
theorem dX10_widen_61 : decode cX10_widen 61 = .ok (.ifCond .ne 6, 3) := by decide +kernel
theorem dX10_widen_64 : decode cX10_widen 64 = .ok (.goto 207, 3) := by decide +kernel
theorem dX10_widen_67 : decode cX10_widen 67 = .ok (.aload_n 0, 1) := by decide +kernel
theorem dX10_widen_68 : decode cX10_widen 68 = .ok (.getfield 18, 3) := by decide +kernel
theorem dX10_widen_71 : decode cX10_widen 71 = .ok (.iload 14, 2) := by decide +kernel
theorem dX10_widen_73 : decode cX10_widen 73 = .ok (.iaload, 1) := by decide +kernel
theorem dX10_widen_74 : decode cX10_widen 74 = .ok (.aload_n 0, 1) := by decide +kernel
theorem dX10_widen_75 : decode cX10_widen 75 = .ok (.getfield 11, 3) := by decide +kernel
theorem dX10_widen_78 : decode cX10_widen 78 = .ok (.iload 13, 2) := by decide +kernel
theorem dX10_widen_80 : decode cX10_widen 80 = .ok (.iaload, 1) := by decide +kernel
theorem dX10_widen_81 : decode cX10_widen 81 = .ok (.iadd, 1) := by decide +kernel
theorem dX10_widen_82 : decode cX10_widen 82 = .ok (.istore 15, 2) := by decide +kernel
theorem dX10_widen_84 : decode cX10_widen 84 = .ok (.aload_n 0, 1) := by decide +kernel
theorem dX10_widen_85 : decode cX10_widen 85 = .ok (.getfield 21, 3) := by decide +kernel
theorem dX10_widen_88 : decode cX10_widen 88 = .ok (.iload 14, 2) := by decide +kernel
theorem dX10_widen_90 : decode cX10_widen 90 = .ok (.iaload, 1) := by decide +kernel
theorem dX10_widen_91 : decode cX10_widen 91 = .ok (.ldc 100, 2) := by decide +kernel
theorem dX10_widen_93 : decode cX10_widen 93 = .ok (.if_icmp .ne 8, 3) := by decide +kernel
theorem dX10_widen_96 : decode cX10_widen 96 = .ok (.ldc 100, 2) := by decide +kernel
theorem dX10_widen_98 : decode cX10_widen 98 = .ok (.goto 18, 3) := by decide +kernel
theorem dX10_widen_101 : decode cX10_widen 101 = .ok (.aload_n 0, 1) := by decide +kernel
theorem dX10_widen_102 : decode cX10_widen 102 = .ok (.getfield 21, 3) := by decide +kernel
theorem dX10_widen_105 : decode cX10_widen 105 = .ok (.iload 14, 2) := by decide +kernel
theorem dX10_widen_107 : decode cX10_widen 107 = .ok (.iaload, 1) := by decide +kernel
theorem dX10_widen_108 : decode cX10_widen 108 = .ok (.aload_n 0, 1) := by decide +kernel
theorem dX10_widen_109 : decode cX10_widen 109 = .ok (.getfield 11, 3) := by decide +kernel
theorem dX10_widen_112 : decode cX10_widen 112 = .ok (.iload 13, 2) := by decide +kernel
theorem dX10_widen_114 : decode cX10_widen 114 = .ok (.iaload, 1) := by decide +kernel
theorem dX10_widen_115 : decode cX10_widen 115 = .ok (.iadd, 1) := by decide +kernel
theorem dX10_widen_116 : decode cX10_widen 116 = .ok (.istore 16, 2) := by decide +kernel
theorem dX10_widen_118 : decode cX10_widen 118 = .ok (.iload_n 2, 1) := by decide +kernel
theorem dX10_widen_119 : decode cX10_widen 119 = .ok (.aload_n 0, 1) := by decide +kernel
theorem dX10_widen_120 : decode cX10_widen 120 = .ok (.getfield 15, 3) := by decide +kernel
theorem dX10_widen_123 : decode cX10_widen 123 = .ok (.iload 13, 2) := by decide +kernel
theorem dX10_widen_125 : decode cX10_widen 125 = .ok (.iaload, 1) := by decide +kernel
theorem dX10_widen_126 : decode cX10_widen 126 = .ok (.imul, 1) := by decide +kernel
theorem dX10_widen_127 : decode cX10_widen 127 = .ok (.istore 17, 2) := by decide +kernel
theorem dX10_widen_129 : decode cX10_widen 129 = .ok (.lload 10, 2) := by decide +kernel
theorem dX10_widen_131 : decode cX10_widen 131 = .ok (.aload_n 0, 1) := by decide +kernel
theorem dX10_widen_132 : decode cX10_widen 132 = .ok (.getfield 34, 3) := by decide +kernel
theorem dX10_widen_135 : decode cX10_widen 135 = .ok (.iload 14, 2) := by decide +kernel
theorem dX10_widen_137 : decode cX10_widen 137 = .ok (.laload, 1) := by decide +kernel
theorem dX10_widen_138 : decode cX10_widen 138 = .ok (.ladd, 1) := by decide +kernel
theorem dX10_widen_139 : decode cX10_widen 139 = .ok (.lstore 10, 2) := by decide +kernel
theorem dX10_widen_141 : decode cX10_widen 141 = .ok (.iload 15, 2) := by decide +kernel
theorem dX10_widen_143 : decode cX10_widen 143 = .ok (.iload 4, 2) := by decide +kernel
theorem dX10_widen_145 : decode cX10_widen 145 = .ok (.if_icmp .le 52, 3) := by decide +kernel
theorem dX10_widen_148 : decode cX10_widen 148 = .ok (.iload 4, 2) := by decide +kernel
theorem dX10_widen_150 : decode cX10_widen 150 = .ok (.iload 16, 2) := by decide +kernel
theorem dX10_widen_152 : decode cX10_widen 152 = .ok (.invokestatic 101, 3) := by decide +kernel
theorem dX10_widen_155 : decode cX10_widen 155 = .ok (.istore 5, 2) := by decide +kernel
theorem dX10_widen_157 : decode cX10_widen 157 = .ok (.iload 15, 2) := by decide +kernel
theorem dX10_widen_159 : decode cX10_widen 159 = .ok (.istore 4, 2) := by decide +kernel
theorem dX10_widen_161 : decode cX10_widen 161 = .ok (.aload_n 0, 1) := by decide +kernel
theorem dX10_widen_162 : decode cX10_widen 162 = .ok (.getfield 24, 3) := by decide +kernel
theorem dX10_widen_165 : decode cX10_widen 165 = .ok (.iload 14, 2) := by decide +kernel
theorem dX10_widen_167 : decode cX10_widen 167 = .ok (.iaload, 1) := by decide +kernel
theorem dX10_widen_168 : decode cX10_widen 168 = .ok (.iload 17, 2) := by decide +kernel
theorem dX10_widen_170 : decode cX10_widen 170 = .ok (.ior, 1) := by decide +kernel
theorem dX10_widen_171 : decode cX10_widen 171 = .ok (.istore 6, 2) := by decide +kernel
theorem dX10_widen_173 : decode cX10_widen 173 = .ok (.aload_n 0, 1) := by decide +kernel
theorem dX10_widen_174 : decode cX10_widen 174 = .ok (.getfield 27, 3) := by decide +kernel
theorem dX10_widen_177 : decode cX10_widen 177 = .ok (.iload 14, 2) := by decide +kernel
theorem dX10_widen_179 : decode cX10_widen 179 = .ok (.iaload, 1) := by decide +kernel
theorem dX10_widen_180 : decode cX10_widen 180 = .ok (.iload 17, 2) := by decide +kernel
theorem dX10_widen_182 : decode cX10_widen 182 = .ok (.ior, 1) := by decide +kernel
theorem dX10_widen_183 : decode cX10_widen 183 = .ok (.istore 7, 2) := by decide +kernel
theorem dX10_widen_185 : decode cX10_widen 185 = .ok (.aload_n 0, 1) := by decide +kernel
theorem dX10_widen_186 : decode cX10_widen 186 = .ok (.getfield 30, 3) := by decide +kernel
theorem dX10_widen_189 : decode cX10_widen 189 = .ok (.iload 14, 2) := by decide +kernel
theorem dX10_widen_191 : decode cX10_widen 191 = .ok (.laload, 1) := by decide +kernel
theorem dX10_widen_192 : decode cX10_widen 192 = .ok (.lstore 8, 2) := by decide +kernel
theorem dX10_widen_194 : decode cX10_widen 194 = .ok (.goto 77, 3) := by decide +kernel
theorem dX10_widen_197 : decode cX10_widen 197 = .ok (.iload 15, 2) := by decide +kernel
theorem dX10_widen_199 : decode cX10_widen 199 = .ok (.iload 4, 2) := by decide +kernel
theorem dX10_widen_201 : decode cX10_widen 201 = .ok (.if_icmp .ne 61, 3) := by decide +kernel
theorem dX10_widen_204 : decode cX10_widen 204 = .ok (.iload 5, 2) := by decide +kernel
theorem dX10_widen_206 : decode cX10_widen 206 = .ok (.iload 16, 2) := by decide +kernel
theorem dX10_widen_208 : decode cX10_widen 208 = .ok (.invokestatic 101, 3) := by decide +kernel
theorem dX10_widen_211 : decode cX10_widen 211 = .ok (.istore 5, 2) := by decide +kernel
theorem dX10_widen_213 : decode cX10_widen 213 = .ok (.iload 6, 2) := by decide +kernel
theorem dX10_widen_215 : decode cX10_widen 215 = .ok (.aload_n 0, 1) := by decide +kernel
theorem dX10_widen_216 : decode cX10_widen 216 = .ok (.getfield 24, 3) := by decide +kernel
theorem dX10_widen_219 : decode cX10_widen 219 = .ok (.iload 14, 2) := by decide +kernel
theorem dX10_widen_221 : decode cX10_widen 221 = .ok (.iaload, 1) := by decide +kernel
theorem dX10_widen_222 : decode cX10_widen 222 = .ok (.iload 17, 2) := by decide +kernel
theorem dX10_widen_224 : decode cX10_widen 224 = .ok (.ior, 1) := by decide +kernel
theorem dX10_widen_225 : decode cX10_widen 225 = .ok (.invokestatic 107, 3) := by decide +kernel
theorem dX10_widen_228 : decode cX10_widen 228 = .ok (.istore 6, 2) := by decide +kernel
theorem dX10_widen_230 : decode cX10_widen 230 = .ok (.iload 7, 2) := by decide +kernel
theorem dX10_widen_232 : decode cX10_widen 232 = .ok (.aload_n 0, 1) := by decide +kernel
theorem dX10_widen_233 : decode cX10_widen 233 = .ok (.getfield 27, 3) := by decide +kernel
theorem dX10_widen_236 : decode cX10_widen 236 = .ok (.iload 14, 2) := by decide +kernel
theorem dX10_widen_238 : decode cX10_widen 238 = .ok (.iaload, 1) := by decide +kernel
theorem dX10_widen_239 : decode cX10_widen 239 = .ok (.iload 17, 2) := by decide +kernel
theorem dX10_widen_241 : decode cX10_widen 241 = .ok (.ior, 1) := by decide +kernel
theorem dX10_widen_242 : decode cX10_widen 242 = .ok (.invokestatic 110, 3) := by decide +kernel
theorem dX10_widen_245 : decode cX10_widen 245 = .ok (.istore 7, 2) := by decide +kernel
theorem dX10_widen_247 : decode cX10_widen 247 = .ok (.lload 8, 2) := by decide +kernel
theorem dX10_widen_249 : decode cX10_widen 249 = .ok (.aload_n 0, 1) := by decide +kernel
theorem dX10_widen_250 : decode cX10_widen 250 = .ok (.getfield 30, 3) := by decide +kernel
theorem dX10_widen_253 : decode cX10_widen 253 = .ok (.iload 14, 2) := by decide +kernel
theorem dX10_widen_255 : decode cX10_widen 255 = .ok (.laload, 1) := by decide +kernel
theorem dX10_widen_256 : decode cX10_widen 256 = .ok (.ladd, 1) := by decide +kernel
theorem dX10_widen_257 : decode cX10_widen 257 = .ok (.lstore 8, 2) := by decide +kernel
theorem dX10_widen_259 : decode cX10_widen 259 = .ok (.goto 12, 3) := by decide +kernel
theorem dX10_widen_262 : decode cX10_widen 262 = .ok (.iload 5, 2) := by decide +kernel
theorem dX10_widen_264 : decode cX10_widen 264 = .ok (.iload 15, 2) := by decide +kernel
theorem dX10_widen_266 : decode cX10_widen 266 = .ok (.invokestatic 101, 3) := by decide +kernel
theorem dX10_widen_269 : decode cX10_widen 269 = .ok (.istore 5, 2) := by decide +kernel
theorem dX10_widen_271 : decode cX10_widen 271 = .ok (.iload 13, 2) := by decide +kernel
theorem dX10_widen_273 : decode cX10_widen 273 = .ok (.ifCond .ne 7, 3) := by decide +kernel
theorem dX10_widen_276 : decode cX10_widen 276 = .ok (.iconst (-1), 1) := by decide +kernel
theorem dX10_widen_277 : decode cX10_widen 277 = .ok (.goto 10, 3) := by decide +kernel
theorem dX10_widen_280 : decode cX10_widen 280 = .ok (.iload 13, 2) := by decide +kernel
theorem dX10_widen_282 : decode cX10_widen 282 = .ok (.iconst 1, 1) := by decide +kernel
theorem dX10_widen_283 : decode cX10_widen 283 = .ok (.isub, 1) := by decide +kernel
theorem dX10_widen_284 : decode cX10_widen 284 = .ok (.iload 12, 2) := by decide +kernel
theorem dX10_widen_286 : decode cX10_widen 286 = .ok (.iand, 1) := by decide +kernel
theorem dX10_widen_287 : decode cX10_widen 287 = .ok (.istore 13, 2) := by decide +kernel
theorem dX10_widen_289 : decode cX10_widen 289 = .ok (.goto (-260), 3) := by decide +kernel
theorem dX10_widen_292 : decode cX10_widen 292 = .ok (.aload_n 0, 1) := by decide +kernel
theorem dX10_widen_293 : decode cX10_widen 293 = .ok (.getfield 18, 3) := by decide +kernel
theorem dX10_widen_296 : decode cX10_widen 296 = .ok (.iload_n 1, 1) := by decide +kernel
theorem dX10_widen_297 : decode cX10_widen 297 = .ok (.iload 4, 2) := by decide +kernel
theorem dX10_widen_299 : decode cX10_widen 299 = .ok (.iastore, 1) := by decide +kernel
theorem dX10_widen_300 : decode cX10_widen 300 = .ok (.aload_n 0, 1) := by decide +kernel
theorem dX10_widen_301 : decode cX10_widen 301 = .ok (.getfield 21, 3) := by decide +kernel
theorem dX10_widen_304 : decode cX10_widen 304 = .ok (.iload_n 1, 1) := by decide +kernel
theorem dX10_widen_305 : decode cX10_widen 305 = .ok (.iload 5, 2) := by decide +kernel
theorem dX10_widen_307 : decode cX10_widen 307 = .ok (.iastore, 1) := by decide +kernel
theorem dX10_widen_308 : decode cX10_widen 308 = .ok (.aload_n 0, 1) := by decide +kernel
theorem dX10_widen_309 : decode cX10_widen 309 = .ok (.getfield 24, 3) := by decide +kernel
theorem dX10_widen_312 : decode cX10_widen 312 = .ok (.iload_n 1, 1) := by decide +kernel
theorem dX10_widen_313 : decode cX10_widen 313 = .ok (.iload 6, 2) := by decide +kernel
theorem dX10_widen_315 : decode cX10_widen 315 = .ok (.iastore, 1) := by decide +kernel
theorem dX10_widen_316 : decode cX10_widen 316 = .ok (.aload_n 0, 1) := by decide +kernel
theorem dX10_widen_317 : decode cX10_widen 317 = .ok (.getfield 27, 3) := by decide +kernel
theorem dX10_widen_320 : decode cX10_widen 320 = .ok (.iload_n 1, 1) := by decide +kernel
theorem dX10_widen_321 : decode cX10_widen 321 = .ok (.iload 7, 2) := by decide +kernel
theorem dX10_widen_323 : decode cX10_widen 323 = .ok (.iastore, 1) := by decide +kernel
theorem dX10_widen_324 : decode cX10_widen 324 = .ok (.aload_n 0, 1) := by decide +kernel
theorem dX10_widen_325 : decode cX10_widen 325 = .ok (.getfield 30, 3) := by decide +kernel
theorem dX10_widen_328 : decode cX10_widen 328 = .ok (.iload_n 1, 1) := by decide +kernel
theorem dX10_widen_329 : decode cX10_widen 329 = .ok (.lload 8, 2) := by decide +kernel
theorem dX10_widen_331 : decode cX10_widen 331 = .ok (.lastore, 1) := by decide +kernel
theorem dX10_widen_332 : decode cX10_widen 332 = .ok (.aload_n 0, 1) := by decide +kernel
theorem dX10_widen_333 : decode cX10_widen 333 = .ok (.getfield 34, 3) := by decide +kernel
theorem dX10_widen_336 : decode cX10_widen 336 = .ok (.iload_n 1, 1) := by decide +kernel
theorem dX10_widen_337 : decode cX10_widen 337 = .ok (.lload 10, 2) := by decide +kernel
theorem dX10_widen_339 : decode cX10_widen 339 = .ok (.lastore, 1) := by decide +kernel
theorem dX10_widen_340 : decode cX10_widen 340 = .ok (.return_, 1) := by decide +kernel
theorem dX10_shared_0 : decode cX10_shared 0 = .ok (.iload_n 0, 1) := by decide +kernel
theorem dX10_shared_1 : decode cX10_shared 1 = .ok (.iload_n 1, 1) := by decide +kernel
theorem dX10_shared_2 : decode cX10_shared 2 = .ok (.ixor, 1) := by decide +kernel
theorem dX10_shared_3 : decode cX10_shared 3 = .ok (.istore_n 2, 1) := by decide +kernel
theorem dX10_shared_4 : decode cX10_shared 4 = .ok (.iload_n 2, 1) := by decide +kernel
theorem dX10_shared_5 : decode cX10_shared 5 = .ok (.iload_n 2, 1) := by decide +kernel
theorem dX10_shared_6 : decode cX10_shared 6 = .ok (.iconst 1, 1) := by decide +kernel
theorem dX10_shared_7 : decode cX10_shared 7 = .ok (.ishr, 1) := by decide +kernel
theorem dX10_shared_8 : decode cX10_shared 8 = .ok (.ior, 1) := by decide +kernel
theorem dX10_shared_9 : decode cX10_shared 9 = .ok (.iload_n 2, 1) := by decide +kernel
theorem dX10_shared_10 : decode cX10_shared 10 = .ok (.iconst 2, 1) := by decide +kernel
theorem dX10_shared_11 : decode cX10_shared 11 = .ok (.ishr, 1) := by decide +kernel
theorem dX10_shared_12 : decode cX10_shared 12 = .ok (.ior, 1) := by decide +kernel
theorem dX10_shared_13 : decode cX10_shared 13 = .ok (.ldc 113, 2) := by decide +kernel
theorem dX10_shared_15 : decode cX10_shared 15 = .ok (.iand, 1) := by decide +kernel
theorem dX10_shared_16 : decode cX10_shared 16 = .ok (.istore_n 3, 1) := by decide +kernel
theorem dX10_shared_17 : decode cX10_shared 17 = .ok (.iload_n 0, 1) := by decide +kernel
theorem dX10_shared_18 : decode cX10_shared 18 = .ok (.iload_n 3, 1) := by decide +kernel
theorem dX10_shared_19 : decode cX10_shared 19 = .ok (.bipush 7, 2) := by decide +kernel
theorem dX10_shared_21 : decode cX10_shared 21 = .ok (.imul, 1) := by decide +kernel
theorem dX10_shared_22 : decode cX10_shared 22 = .ok (.ior, 1) := by decide +kernel
theorem dX10_shared_23 : decode cX10_shared 23 = .ok (.ireturn, 1) := by decide +kernel
theorem dX10_coupleOf_0 : decode cX10_coupleOf 0 = .ok (.aload_n 0, 1) := by decide +kernel
theorem dX10_coupleOf_1 : decode cX10_coupleOf 1 = .ok (.getfield 24, 3) := by decide +kernel
theorem dX10_coupleOf_4 : decode cX10_coupleOf 4 = .ok (.aload_n 0, 1) := by decide +kernel
theorem dX10_coupleOf_5 : decode cX10_coupleOf 5 = .ok (.invokevirtual 65, 3) := by decide +kernel
theorem dX10_coupleOf_8 : decode cX10_coupleOf 8 = .ok (.iaload, 1) := by decide +kernel
theorem dX10_coupleOf_9 : decode cX10_coupleOf 9 = .ok (.iload_n 1, 1) := by decide +kernel
theorem dX10_coupleOf_10 : decode cX10_coupleOf 10 = .ok (.invokestatic 45, 3) := by decide +kernel
theorem dX10_coupleOf_13 : decode cX10_coupleOf 13 = .ok (.ishr, 1) := by decide +kernel
theorem dX10_coupleOf_14 : decode cX10_coupleOf 14 = .ok (.bipush 7, 2) := by decide +kernel
theorem dX10_coupleOf_16 : decode cX10_coupleOf 16 = .ok (.iand, 1) := by decide +kernel
theorem dX10_coupleOf_17 : decode cX10_coupleOf 17 = .ok (.ireturn, 1) := by decide +kernel
theorem dX10_alwaysOf_0 : decode cX10_alwaysOf 0 = .ok (.aload_n 0, 1) := by decide +kernel
theorem dX10_alwaysOf_1 : decode cX10_alwaysOf 1 = .ok (.getfield 27, 3) := by decide +kernel
theorem dX10_alwaysOf_4 : decode cX10_alwaysOf 4 = .ok (.aload_n 0, 1) := by decide +kernel
theorem dX10_alwaysOf_5 : decode cX10_alwaysOf 5 = .ok (.invokevirtual 65, 3) := by decide +kernel
theorem dX10_alwaysOf_8 : decode cX10_alwaysOf 8 = .ok (.iaload, 1) := by decide +kernel
theorem dX10_alwaysOf_9 : decode cX10_alwaysOf 9 = .ok (.iload_n 1, 1) := by decide +kernel
theorem dX10_alwaysOf_10 : decode cX10_alwaysOf 10 = .ok (.invokestatic 45, 3) := by decide +kernel
theorem dX10_alwaysOf_13 : decode cX10_alwaysOf 13 = .ok (.ishr, 1) := by decide +kernel
theorem dX10_alwaysOf_14 : decode cX10_alwaysOf 14 = .ok (.bipush 7, 2) := by decide +kernel
theorem dX10_alwaysOf_16 : decode cX10_alwaysOf 16 = .ok (.iand, 1) := by decide +kernel
theorem dX10_alwaysOf_17 : decode cX10_alwaysOf 17 = .ok (.ireturn, 1) := by decide +kernel
theorem dX10_familyOf_0 : decode cX10_familyOf 0 = .ok (.iconst 0, 1) := by decide +kernel
theorem dX10_familyOf_1 : decode cX10_familyOf 1 = .ok (.istore_n 2, 1) := by decide +kernel
theorem dX10_familyOf_2 : decode cX10_familyOf 2 = .ok (.iconst 0, 1) := by decide +kernel
theorem dX10_familyOf_3 : decode cX10_familyOf 3 = .ok (.istore_n 3, 1) := by decide +kernel
theorem dX10_familyOf_4 : decode cX10_familyOf 4 = .ok (.iload_n 3, 1) := by decide +kernel
theorem dX10_familyOf_5 : decode cX10_familyOf 5 = .ok (.aload_n 0, 1) := by decide +kernel
theorem dX10_familyOf_6 : decode cX10_familyOf 6 = .ok (.getfield 37, 3) := by decide +kernel
theorem dX10_familyOf_9 : decode cX10_familyOf 9 = .ok (.getfield 53, 3) := by decide +kernel
theorem dX10_familyOf_12 : decode cX10_familyOf 12 = .ok (.getfield 59, 3) := by decide +kernel
theorem dX10_familyOf_15 : decode cX10_familyOf 15 = .ok (.if_icmp .ge 24, 3) := by decide +kernel
theorem dX10_familyOf_18 : decode cX10_familyOf 18 = .ok (.aload_n 0, 1) := by decide +kernel
theorem dX10_familyOf_19 : decode cX10_familyOf 19 = .ok (.iload_n 3, 1) := by decide +kernel
theorem dX10_familyOf_20 : decode cX10_familyOf 20 = .ok (.invokevirtual 114, 3) := by decide +kernel
theorem dX10_familyOf_23 : decode cX10_familyOf 23 = .ok (.iload_n 1, 1) := by decide +kernel
theorem dX10_familyOf_24 : decode cX10_familyOf 24 = .ok (.if_icmp .ne 9, 3) := by decide +kernel
theorem dX10_familyOf_27 : decode cX10_familyOf 27 = .ok (.iload_n 2, 1) := by decide +kernel
theorem dX10_familyOf_28 : decode cX10_familyOf 28 = .ok (.iconst 1, 1) := by decide +kernel
theorem dX10_familyOf_29 : decode cX10_familyOf 29 = .ok (.iload_n 3, 1) := by decide +kernel
theorem dX10_familyOf_30 : decode cX10_familyOf 30 = .ok (.ishl, 1) := by decide +kernel
theorem dX10_familyOf_31 : decode cX10_familyOf 31 = .ok (.ior, 1) := by decide +kernel
theorem dX10_familyOf_32 : decode cX10_familyOf 32 = .ok (.istore_n 2, 1) := by decide +kernel
theorem dX10_familyOf_33 : decode cX10_familyOf 33 = .ok (.iinc 3 1, 3) := by decide +kernel
theorem dX10_familyOf_36 : decode cX10_familyOf 36 = .ok (.goto (-32), 3) := by decide +kernel
theorem dX10_familyOf_39 : decode cX10_familyOf 39 = .ok (.iload_n 2, 1) := by decide +kernel
theorem dX10_familyOf_40 : decode cX10_familyOf 40 = .ok (.ireturn, 1) := by decide +kernel
theorem dX10_mostPoints_0 : decode cX10_mostPoints 0 = .ok (.aload_n 0, 1) := by decide +kernel
theorem dX10_mostPoints_1 : decode cX10_mostPoints 1 = .ok (.getfield 18, 3) := by decide +kernel
theorem dX10_mostPoints_4 : decode cX10_mostPoints 4 = .ok (.aload_n 0, 1) := by decide +kernel
theorem dX10_mostPoints_5 : decode cX10_mostPoints 5 = .ok (.invokevirtual 65, 3) := by decide +kernel
theorem dX10_mostPoints_8 : decode cX10_mostPoints 8 = .ok (.iaload, 1) := by decide +kernel
theorem dX10_mostPoints_9 : decode cX10_mostPoints 9 = .ok (.ireturn, 1) := by decide +kernel
theorem dX10_howManyBest_0 : decode cX10_howManyBest 0 = .ok (.aload_n 0, 1) := by decide +kernel
theorem dX10_howManyBest_1 : decode cX10_howManyBest 1 = .ok (.getfield 30, 3) := by decide +kernel
theorem dX10_howManyBest_4 : decode cX10_howManyBest 4 = .ok (.aload_n 0, 1) := by decide +kernel
theorem dX10_howManyBest_5 : decode cX10_howManyBest 5 = .ok (.invokevirtual 65, 3) := by decide +kernel
theorem dX10_howManyBest_8 : decode cX10_howManyBest 8 = .ok (.laload, 1) := by decide +kernel
theorem dX10_howManyBest_9 : decode cX10_howManyBest 9 = .ok (.lreturn, 1) := by decide +kernel
theorem dX10_howMany_0 : decode cX10_howMany 0 = .ok (.aload_n 0, 1) := by decide +kernel
theorem dX10_howMany_1 : decode cX10_howMany 1 = .ok (.getfield 34, 3) := by decide +kernel
theorem dX10_howMany_4 : decode cX10_howMany 4 = .ok (.aload_n 0, 1) := by decide +kernel
theorem dX10_howMany_5 : decode cX10_howMany 5 = .ok (.invokevirtual 65, 3) := by decide +kernel
theorem dX10_howMany_8 : decode cX10_howMany 8 = .ok (.laload, 1) := by decide +kernel
theorem dX10_howMany_9 : decode cX10_howMany 9 = .ok (.lreturn, 1) := by decide +kernel
theorem dX10_gap_0 : decode cX10_gap 0 = .ok (.aload_n 0, 1) := by decide +kernel
theorem dX10_gap_1 : decode cX10_gap 1 = .ok (.getfield 21, 3) := by decide +kernel
theorem dX10_gap_4 : decode cX10_gap 4 = .ok (.aload_n 0, 1) := by decide +kernel
theorem dX10_gap_5 : decode cX10_gap 5 = .ok (.invokevirtual 65, 3) := by decide +kernel
theorem dX10_gap_8 : decode cX10_gap 8 = .ok (.iaload, 1) := by decide +kernel
theorem dX10_gap_9 : decode cX10_gap 9 = .ok (.istore_n 1, 1) := by decide +kernel
theorem dX10_gap_10 : decode cX10_gap 10 = .ok (.iload_n 1, 1) := by decide +kernel
theorem dX10_gap_11 : decode cX10_gap 11 = .ok (.ldc 100, 2) := by decide +kernel
theorem dX10_gap_13 : decode cX10_gap 13 = .ok (.if_icmp .ne 7, 3) := by decide +kernel
theorem dX10_gap_16 : decode cX10_gap 16 = .ok (.iconst (-1), 1) := by decide +kernel
theorem dX10_gap_17 : decode cX10_gap 17 = .ok (.goto 9, 3) := by decide +kernel
theorem dX10_gap_20 : decode cX10_gap 20 = .ok (.aload_n 0, 1) := by decide +kernel
theorem dX10_gap_21 : decode cX10_gap 21 = .ok (.invokevirtual 117, 3) := by decide +kernel
theorem dX10_gap_24 : decode cX10_gap 24 = .ok (.iload_n 1, 1) := by decide +kernel
theorem dX10_gap_25 : decode cX10_gap 25 = .ok (.isub, 1) := by decide +kernel
theorem dX10_gap_26 : decode cX10_gap 26 = .ok (.ireturn, 1) := by decide +kernel
