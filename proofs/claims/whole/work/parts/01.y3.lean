theorem d_Md_init_0 : decode b_Md_init 0 = .ok (.aload_n 0, 1) := by decide +kernel
theorem d_Md_init_1 : decode b_Md_init 1 = .ok (.invokespecial 1, 3) := by decide +kernel
theorem d_Md_init_4 : decode b_Md_init 4 = .ok (.aload_n 0, 1) := by decide +kernel
theorem d_Md_init_5 : decode b_Md_init 5 = .ok (.ldc 7, 2) := by decide +kernel
theorem d_Md_init_7 : decode b_Md_init 7 = .ok (.newarray .boolean, 2) := by decide +kernel
theorem d_Md_init_9 : decode b_Md_init 9 = .ok (.putfield 8, 3) := by decide +kernel
theorem d_Md_init_12 : decode b_Md_init 12 = .ok (.aload_n 0, 1) := by decide +kernel
theorem d_Md_init_13 : decode b_Md_init 13 = .ok (.ldc 7, 2) := by decide +kernel
theorem d_Md_init_15 : decode b_Md_init 15 = .ok (.newarray .boolean, 2) := by decide +kernel
theorem d_Md_init_17 : decode b_Md_init 17 = .ok (.putfield 14, 3) := by decide +kernel
theorem d_Md_init_20 : decode b_Md_init 20 = .ok (.aload_n 0, 1) := by decide +kernel
theorem d_Md_init_21 : decode b_Md_init 21 = .ok (.ldc 7, 2) := by decide +kernel
theorem d_Md_init_23 : decode b_Md_init 23 = .ok (.newarray .int, 2) := by decide +kernel
theorem d_Md_init_25 : decode b_Md_init 25 = .ok (.putfield 17, 3) := by decide +kernel
theorem d_Md_init_28 : decode b_Md_init 28 = .ok (.aload_n 0, 1) := by decide +kernel
theorem d_Md_init_29 : decode b_Md_init 29 = .ok (.sipush 301, 3) := by decide +kernel
theorem d_Md_init_32 : decode b_Md_init 32 = .ok (.newarray .int, 2) := by decide +kernel
theorem d_Md_init_34 : decode b_Md_init 34 = .ok (.putfield 21, 3) := by decide +kernel
theorem d_Md_init_37 : decode b_Md_init 37 = .ok (.aload_n 0, 1) := by decide +kernel
theorem d_Md_init_38 : decode b_Md_init 38 = .ok (.sipush 156, 3) := by decide +kernel
theorem d_Md_init_41 : decode b_Md_init 41 = .ok (.newarray .int, 2) := by decide +kernel
theorem d_Md_init_43 : decode b_Md_init 43 = .ok (.putfield 24, 3) := by decide +kernel
theorem d_Md_init_46 : decode b_Md_init 46 = .ok (.aload_n 0, 1) := by decide +kernel
theorem d_Md_init_47 : decode b_Md_init 47 = .ok (.bipush 13, 2) := by decide +kernel
theorem d_Md_init_49 : decode b_Md_init 49 = .ok (.newarray .int, 2) := by decide +kernel
theorem d_Md_init_51 : decode b_Md_init 51 = .ok (.putfield 27, 3) := by decide +kernel
theorem d_Md_init_54 : decode b_Md_init 54 = .ok (.aload_n 0, 1) := by decide +kernel
theorem d_Md_init_55 : decode b_Md_init 55 = .ok (.bipush 12, 2) := by decide +kernel
theorem d_Md_init_57 : decode b_Md_init 57 = .ok (.newarray .int, 2) := by decide +kernel
theorem d_Md_init_59 : decode b_Md_init 59 = .ok (.putfield 30, 3) := by decide +kernel
theorem d_Md_init_62 : decode b_Md_init 62 = .ok (.aload_n 0, 1) := by decide +kernel
theorem d_Md_init_63 : decode b_Md_init 63 = .ok (.bipush 9, 2) := by decide +kernel
theorem d_Md_init_65 : decode b_Md_init 65 = .ok (.newarray .int, 2) := by decide +kernel
theorem d_Md_init_67 : decode b_Md_init 67 = .ok (.putfield 33, 3) := by decide +kernel
theorem d_Md_init_70 : decode b_Md_init 70 = .ok (.aload_n 0, 1) := by decide +kernel
theorem d_Md_init_71 : decode b_Md_init 71 = .ok (.bipush 9, 2) := by decide +kernel
theorem d_Md_init_73 : decode b_Md_init 73 = .ok (.newarray .int, 2) := by decide +kernel
theorem d_Md_init_75 : decode b_Md_init 75 = .ok (.putfield 36, 3) := by decide +kernel
theorem d_Md_init_78 : decode b_Md_init 78 = .ok (.aload_n 0, 1) := by decide +kernel
theorem d_Md_init_79 : decode b_Md_init 79 = .ok (.iconst 3, 1) := by decide +kernel
theorem d_Md_init_80 : decode b_Md_init 80 = .ok (.newarray .int, 2) := by decide +kernel
theorem d_Md_init_82 : decode b_Md_init 82 = .ok (.putfield 39, 3) := by decide +kernel
theorem d_Md_init_85 : decode b_Md_init 85 = .ok (.aload_n 0, 1) := by decide +kernel
theorem d_Md_init_86 : decode b_Md_init 86 = .ok (.iconst 3, 1) := by decide +kernel
theorem d_Md_init_87 : decode b_Md_init 87 = .ok (.newarray .int, 2) := by decide +kernel
theorem d_Md_init_89 : decode b_Md_init 89 = .ok (.putfield 42, 3) := by decide +kernel
theorem d_Md_init_92 : decode b_Md_init 92 = .ok (.return_, 1) := by decide +kernel
theorem d_Md_isNumber_0 : decode b_Md_isNumber 0 = .ok (.iload_n 0, 1) := by decide +kernel
theorem d_Md_isNumber_1 : decode b_Md_isNumber 1 = .ok (.ifCond .lt 13, 3) := by decide +kernel
theorem d_Md_isNumber_4 : decode b_Md_isNumber 4 = .ok (.iload_n 0, 1) := by decide +kernel
theorem d_Md_isNumber_5 : decode b_Md_isNumber 5 = .ok (.bipush 32, 2) := by decide +kernel
theorem d_Md_isNumber_7 : decode b_Md_isNumber 7 = .ok (.if_icmp .ge 7, 3) := by decide +kernel
theorem d_Md_isNumber_10 : decode b_Md_isNumber 10 = .ok (.iconst 1, 1) := by decide +kernel
theorem d_Md_isNumber_11 : decode b_Md_isNumber 11 = .ok (.goto 4, 3) := by decide +kernel
theorem d_Md_isNumber_14 : decode b_Md_isNumber 14 = .ok (.iconst 0, 1) := by decide +kernel
theorem d_Md_isNumber_15 : decode b_Md_isNumber 15 = .ok (.ireturn, 1) := by decide +kernel
theorem d_Md_isItem_0 : decode b_Md_isItem 0 = .ok (.iload_n 0, 1) := by decide +kernel
theorem d_Md_isItem_1 : decode b_Md_isItem 1 = .ok (.bipush (-8), 2) := by decide +kernel
theorem d_Md_isItem_3 : decode b_Md_isItem 3 = .ok (.if_icmp .lt 13, 3) := by decide +kernel
theorem d_Md_isItem_6 : decode b_Md_isItem 6 = .ok (.iload_n 0, 1) := by decide +kernel
theorem d_Md_isItem_7 : decode b_Md_isItem 7 = .ok (.bipush 32, 2) := by decide +kernel
theorem d_Md_isItem_9 : decode b_Md_isItem 9 = .ok (.if_icmp .ge 7, 3) := by decide +kernel
theorem d_Md_isItem_12 : decode b_Md_isItem 12 = .ok (.iconst 1, 1) := by decide +kernel
theorem d_Md_isItem_13 : decode b_Md_isItem 13 = .ok (.goto 4, 3) := by decide +kernel
theorem d_Md_isItem_16 : decode b_Md_isItem 16 = .ok (.iconst 0, 1) := by decide +kernel
theorem d_Md_isItem_17 : decode b_Md_isItem 17 = .ok (.ireturn, 1) := by decide +kernel
theorem d_Md_code_0 : decode b_Md_code 0 = .ok (.sipush 1024, 3) := by decide +kernel
theorem d_Md_code_3 : decode b_Md_code 3 = .ok (.iload_n 0, 1) := by decide +kernel
theorem d_Md_code_4 : decode b_Md_code 4 = .ok (.imul, 1) := by decide +kernel
theorem d_Md_code_5 : decode b_Md_code 5 = .ok (.bipush 32, 2) := by decide +kernel
theorem d_Md_code_7 : decode b_Md_code 7 = .ok (.iload_n 1, 1) := by decide +kernel
theorem d_Md_code_8 : decode b_Md_code 8 = .ok (.imul, 1) := by decide +kernel
theorem d_Md_code_9 : decode b_Md_code 9 = .ok (.iadd, 1) := by decide +kernel
theorem d_Md_code_10 : decode b_Md_code 10 = .ok (.iload_n 2, 1) := by decide +kernel
theorem d_Md_code_11 : decode b_Md_code 11 = .ok (.iadd, 1) := by decide +kernel
theorem d_Md_code_12 : decode b_Md_code 12 = .ok (.ireturn, 1) := by decide +kernel
theorem d_Md_part_0 : decode b_Md_part 0 = .ok (.iload_n 1, 1) := by decide +kernel
theorem d_Md_part_1 : decode b_Md_part 1 = .ok (.ifCond .ne 11, 3) := by decide +kernel
theorem d_Md_part_4 : decode b_Md_part 4 = .ok (.iload_n 0, 1) := by decide +kernel
theorem d_Md_part_5 : decode b_Md_part 5 = .ok (.sipush 1024, 3) := by decide +kernel
theorem d_Md_part_8 : decode b_Md_part 8 = .ok (.idiv, 1) := by decide +kernel
theorem d_Md_part_9 : decode b_Md_part 9 = .ok (.goto 22, 3) := by decide +kernel
theorem d_Md_part_12 : decode b_Md_part 12 = .ok (.iload_n 1, 1) := by decide +kernel
theorem d_Md_part_13 : decode b_Md_part 13 = .ok (.iconst 1, 1) := by decide +kernel
theorem d_Md_part_14 : decode b_Md_part 14 = .ok (.if_icmp .ne 13, 3) := by decide +kernel
theorem d_Md_part_17 : decode b_Md_part 17 = .ok (.iload_n 0, 1) := by decide +kernel
theorem d_Md_part_18 : decode b_Md_part 18 = .ok (.bipush 32, 2) := by decide +kernel
theorem d_Md_part_20 : decode b_Md_part 20 = .ok (.idiv, 1) := by decide +kernel
theorem d_Md_part_21 : decode b_Md_part 21 = .ok (.bipush 32, 2) := by decide +kernel
theorem d_Md_part_23 : decode b_Md_part 23 = .ok (.irem, 1) := by decide +kernel
theorem d_Md_part_24 : decode b_Md_part 24 = .ok (.goto 7, 3) := by decide +kernel
theorem d_Md_part_27 : decode b_Md_part 27 = .ok (.iload_n 0, 1) := by decide +kernel
theorem d_Md_part_28 : decode b_Md_part 28 = .ok (.bipush 32, 2) := by decide +kernel
theorem d_Md_part_30 : decode b_Md_part 30 = .ok (.irem, 1) := by decide +kernel
theorem d_Md_part_31 : decode b_Md_part 31 = .ok (.ireturn, 1) := by decide +kernel
theorem d_Md_bind_0 : decode b_Md_bind 0 = .ok (.iconst 0, 1) := by decide +kernel
theorem d_Md_bind_1 : decode b_Md_bind 1 = .ok (.istore 4, 2) := by decide +kernel
theorem d_Md_bind_3 : decode b_Md_bind 3 = .ok (.iload 4, 2) := by decide +kernel
theorem d_Md_bind_5 : decode b_Md_bind 5 = .ok (.iconst 3, 1) := by decide +kernel
theorem d_Md_bind_6 : decode b_Md_bind 6 = .ok (.if_icmp .ge 118, 3) := by decide +kernel
theorem d_Md_bind_9 : decode b_Md_bind 9 = .ok (.aload_n 1, 1) := by decide +kernel
theorem d_Md_bind_10 : decode b_Md_bind 10 = .ok (.iload_n 2, 1) := by decide +kernel
theorem d_Md_bind_11 : decode b_Md_bind 11 = .ok (.iload 4, 2) := by decide +kernel
theorem d_Md_bind_13 : decode b_Md_bind 13 = .ok (.iadd, 1) := by decide +kernel
theorem d_Md_bind_14 : decode b_Md_bind 14 = .ok (.iaload, 1) := by decide +kernel
theorem d_Md_bind_15 : decode b_Md_bind 15 = .ok (.istore 5, 2) := by decide +kernel
theorem d_Md_bind_17 : decode b_Md_bind 17 = .ok (.iload_n 3, 1) := by decide +kernel
theorem d_Md_bind_18 : decode b_Md_bind 18 = .ok (.iload 4, 2) := by decide +kernel
theorem d_Md_bind_20 : decode b_Md_bind 20 = .ok (.invokestatic 45, 3) := by decide +kernel
theorem d_Md_bind_23 : decode b_Md_bind 23 = .ok (.istore 6, 2) := by decide +kernel
theorem d_Md_bind_25 : decode b_Md_bind 25 = .ok (.iload 5, 2) := by decide +kernel
theorem d_Md_bind_27 : decode b_Md_bind 27 = .ok (.ifCond .lt 18, 3) := by decide +kernel
theorem d_Md_bind_30 : decode b_Md_bind 30 = .ok (.iload 5, 2) := by decide +kernel
theorem d_Md_bind_32 : decode b_Md_bind 32 = .ok (.iload 6, 2) := by decide +kernel
theorem d_Md_bind_34 : decode b_Md_bind 34 = .ok (.if_icmp .ne 7, 3) := by decide +kernel
theorem d_Md_bind_37 : decode b_Md_bind 37 = .ok (.iconst 1, 1) := by decide +kernel
theorem d_Md_bind_38 : decode b_Md_bind 38 = .ok (.goto 36, 3) := by decide +kernel
theorem d_Md_bind_41 : decode b_Md_bind 41 = .ok (.iconst 0, 1) := by decide +kernel
theorem d_Md_bind_42 : decode b_Md_bind 42 = .ok (.goto 32, 3) := by decide +kernel
theorem d_Md_bind_45 : decode b_Md_bind 45 = .ok (.aload_n 0, 1) := by decide +kernel
theorem d_Md_bind_46 : decode b_Md_bind 46 = .ok (.getfield 36, 3) := by decide +kernel
theorem d_Md_bind_49 : decode b_Md_bind 49 = .ok (.iload 5, 2) := by decide +kernel
theorem d_Md_bind_51 : decode b_Md_bind 51 = .ok (.ineg, 1) := by decide +kernel
theorem d_Md_bind_52 : decode b_Md_bind 52 = .ok (.iaload, 1) := by decide +kernel
theorem d_Md_bind_53 : decode b_Md_bind 53 = .ok (.ifCond .eq 16, 3) := by decide +kernel
theorem d_Md_bind_56 : decode b_Md_bind 56 = .ok (.aload_n 0, 1) := by decide +kernel
theorem d_Md_bind_57 : decode b_Md_bind 57 = .ok (.getfield 33, 3) := by decide +kernel
theorem d_Md_bind_60 : decode b_Md_bind 60 = .ok (.iload 5, 2) := by decide +kernel
theorem d_Md_bind_62 : decode b_Md_bind 62 = .ok (.ineg, 1) := by decide +kernel
theorem d_Md_bind_63 : decode b_Md_bind 63 = .ok (.iaload, 1) := by decide +kernel
theorem d_Md_bind_64 : decode b_Md_bind 64 = .ok (.iload 6, 2) := by decide +kernel
theorem d_Md_bind_66 : decode b_Md_bind 66 = .ok (.if_icmp .ne 7, 3) := by decide +kernel
theorem d_Md_bind_69 : decode b_Md_bind 69 = .ok (.iconst 1, 1) := by decide +kernel
theorem d_Md_bind_70 : decode b_Md_bind 70 = .ok (.goto 4, 3) := by decide +kernel
theorem d_Md_bind_73 : decode b_Md_bind 73 = .ok (.iconst 0, 1) := by decide +kernel
theorem d_Md_bind_74 : decode b_Md_bind 74 = .ok (.istore 7, 2) := by decide +kernel
theorem d_Md_bind_76 : decode b_Md_bind 76 = .ok (.iload 7, 2) := by decide +kernel
theorem d_Md_bind_78 : decode b_Md_bind 78 = .ok (.ifCond .ne 13, 3) := by decide +kernel
theorem d_Md_bind_81 : decode b_Md_bind 81 = .ok (.aload_n 0, 1) := by decide +kernel
theorem d_Md_bind_82 : decode b_Md_bind 82 = .ok (.aload_n 1, 1) := by decide +kernel
theorem d_Md_bind_83 : decode b_Md_bind 83 = .ok (.iload_n 2, 1) := by decide +kernel
theorem d_Md_bind_84 : decode b_Md_bind 84 = .ok (.iload 4, 2) := by decide +kernel
theorem d_Md_bind_86 : decode b_Md_bind 86 = .ok (.invokevirtual 49, 3) := by decide +kernel
theorem d_Md_bind_89 : decode b_Md_bind 89 = .ok (.iconst 0, 1) := by decide +kernel
theorem d_Md_bind_90 : decode b_Md_bind 90 = .ok (.ireturn, 1) := by decide +kernel
theorem d_Md_bind_91 : decode b_Md_bind 91 = .ok (.iload 5, 2) := by decide +kernel
theorem d_Md_bind_93 : decode b_Md_bind 93 = .ok (.ifCond .ge 25, 3) := by decide +kernel
theorem d_Md_bind_96 : decode b_Md_bind 96 = .ok (.aload_n 0, 1) := by decide +kernel
theorem d_Md_bind_97 : decode b_Md_bind 97 = .ok (.getfield 33, 3) := by decide +kernel
theorem d_Md_bind_100 : decode b_Md_bind 100 = .ok (.iload 5, 2) := by decide +kernel
theorem d_Md_bind_102 : decode b_Md_bind 102 = .ok (.ineg, 1) := by decide +kernel
theorem d_Md_bind_103 : decode b_Md_bind 103 = .ok (.iload 6, 2) := by decide +kernel
theorem d_Md_bind_105 : decode b_Md_bind 105 = .ok (.iastore, 1) := by decide +kernel
theorem d_Md_bind_106 : decode b_Md_bind 106 = .ok (.aload_n 0, 1) := by decide +kernel
theorem d_Md_bind_107 : decode b_Md_bind 107 = .ok (.getfield 36, 3) := by decide +kernel
theorem d_Md_bind_110 : decode b_Md_bind 110 = .ok (.iload 5, 2) := by decide +kernel
theorem d_Md_bind_112 : decode b_Md_bind 112 = .ok (.ineg, 1) := by decide +kernel
theorem d_Md_bind_113 : decode b_Md_bind 113 = .ok (.dup2, 1) := by decide +kernel
theorem d_Md_bind_114 : decode b_Md_bind 114 = .ok (.iaload, 1) := by decide +kernel
theorem d_Md_bind_115 : decode b_Md_bind 115 = .ok (.iconst 1, 1) := by decide +kernel
theorem d_Md_bind_116 : decode b_Md_bind 116 = .ok (.iadd, 1) := by decide +kernel
theorem d_Md_bind_117 : decode b_Md_bind 117 = .ok (.iastore, 1) := by decide +kernel
theorem d_Md_bind_118 : decode b_Md_bind 118 = .ok (.iinc 4 1, 3) := by decide +kernel
theorem d_Md_bind_121 : decode b_Md_bind 121 = .ok (.goto (-118), 3) := by decide +kernel
theorem d_Md_bind_124 : decode b_Md_bind 124 = .ok (.iconst 1, 1) := by decide +kernel
theorem d_Md_bind_125 : decode b_Md_bind 125 = .ok (.ireturn, 1) := by decide +kernel
theorem d_Md_loosen_0 : decode b_Md_loosen 0 = .ok (.iconst 0, 1) := by decide +kernel
theorem d_Md_loosen_1 : decode b_Md_loosen 1 = .ok (.istore 4, 2) := by decide +kernel
theorem d_Md_loosen_3 : decode b_Md_loosen 3 = .ok (.iload 4, 2) := by decide +kernel
theorem d_Md_loosen_5 : decode b_Md_loosen 5 = .ok (.iload_n 3, 1) := by decide +kernel
theorem d_Md_loosen_6 : decode b_Md_loosen 6 = .ok (.if_icmp .ge 34, 3) := by decide +kernel
theorem d_Md_loosen_9 : decode b_Md_loosen 9 = .ok (.aload_n 1, 1) := by decide +kernel
theorem d_Md_loosen_10 : decode b_Md_loosen 10 = .ok (.iload_n 2, 1) := by decide +kernel
theorem d_Md_loosen_11 : decode b_Md_loosen 11 = .ok (.iload 4, 2) := by decide +kernel
theorem d_Md_loosen_13 : decode b_Md_loosen 13 = .ok (.iadd, 1) := by decide +kernel
theorem d_Md_loosen_14 : decode b_Md_loosen 14 = .ok (.iaload, 1) := by decide +kernel
theorem d_Md_loosen_15 : decode b_Md_loosen 15 = .ok (.ifCond .ge 19, 3) := by decide +kernel
theorem d_Md_loosen_18 : decode b_Md_loosen 18 = .ok (.aload_n 0, 1) := by decide +kernel
theorem d_Md_loosen_19 : decode b_Md_loosen 19 = .ok (.getfield 36, 3) := by decide +kernel
theorem d_Md_loosen_22 : decode b_Md_loosen 22 = .ok (.aload_n 1, 1) := by decide +kernel
theorem d_Md_loosen_23 : decode b_Md_loosen 23 = .ok (.iload_n 2, 1) := by decide +kernel
theorem d_Md_loosen_24 : decode b_Md_loosen 24 = .ok (.iload 4, 2) := by decide +kernel
theorem d_Md_loosen_26 : decode b_Md_loosen 26 = .ok (.iadd, 1) := by decide +kernel
theorem d_Md_loosen_27 : decode b_Md_loosen 27 = .ok (.iaload, 1) := by decide +kernel
theorem d_Md_loosen_28 : decode b_Md_loosen 28 = .ok (.ineg, 1) := by decide +kernel
theorem d_Md_loosen_29 : decode b_Md_loosen 29 = .ok (.dup2, 1) := by decide +kernel
theorem d_Md_loosen_30 : decode b_Md_loosen 30 = .ok (.iaload, 1) := by decide +kernel
theorem d_Md_loosen_31 : decode b_Md_loosen 31 = .ok (.iconst 1, 1) := by decide +kernel
theorem d_Md_loosen_32 : decode b_Md_loosen 32 = .ok (.isub, 1) := by decide +kernel
theorem d_Md_loosen_33 : decode b_Md_loosen 33 = .ok (.iastore, 1) := by decide +kernel
theorem d_Md_loosen_34 : decode b_Md_loosen 34 = .ok (.iinc 4 1, 3) := by decide +kernel
theorem d_Md_loosen_37 : decode b_Md_loosen 37 = .ok (.goto (-34), 3) := by decide +kernel
theorem d_Md_loosen_40 : decode b_Md_loosen 40 = .ok (.return_, 1) := by decide +kernel
theorem d_Md_value_0 : decode b_Md_value 0 = .ok (.iload_n 1, 1) := by decide +kernel
theorem d_Md_value_1 : decode b_Md_value 1 = .ok (.ifCond .lt 7, 3) := by decide +kernel
theorem d_Md_value_4 : decode b_Md_value 4 = .ok (.iload_n 1, 1) := by decide +kernel
theorem d_Md_value_5 : decode b_Md_value 5 = .ok (.goto 10, 3) := by decide +kernel
theorem d_Md_value_8 : decode b_Md_value 8 = .ok (.aload_n 0, 1) := by decide +kernel
theorem d_Md_value_9 : decode b_Md_value 9 = .ok (.getfield 33, 3) := by decide +kernel
theorem d_Md_value_12 : decode b_Md_value 12 = .ok (.iload_n 1, 1) := by decide +kernel
theorem d_Md_value_13 : decode b_Md_value 13 = .ok (.ineg, 1) := by decide +kernel
theorem d_Md_value_14 : decode b_Md_value 14 = .ok (.iaload, 1) := by decide +kernel
theorem d_Md_value_15 : decode b_Md_value 15 = .ok (.ireturn, 1) := by decide +kernel
theorem d_Md_allCases_0 : decode b_Md_allCases 0 = .ok (.aload_n 0, 1) := by decide +kernel
theorem d_Md_allCases_1 : decode b_Md_allCases 1 = .ok (.getfield 27, 3) := by decide +kernel
theorem d_Md_allCases_4 : decode b_Md_allCases 4 = .ok (.iload_n 1, 1) := by decide +kernel
theorem d_Md_allCases_5 : decode b_Md_allCases 5 = .ok (.iaload, 1) := by decide +kernel
theorem d_Md_allCases_6 : decode b_Md_allCases 6 = .ok (.istore_n 3, 1) := by decide +kernel
theorem d_Md_allCases_7 : decode b_Md_allCases 7 = .ok (.iconst 0, 1) := by decide +kernel
theorem d_Md_allCases_8 : decode b_Md_allCases 8 = .ok (.istore 4, 2) := by decide +kernel
theorem d_Md_allCases_10 : decode b_Md_allCases 10 = .ok (.aload_n 0, 1) := by decide +kernel
theorem d_Md_allCases_11 : decode b_Md_allCases 11 = .ok (.getfield 39, 3) := by decide +kernel
theorem d_Md_allCases_14 : decode b_Md_allCases 14 = .ok (.iconst 0, 1) := by decide +kernel
theorem d_Md_allCases_15 : decode b_Md_allCases 15 = .ok (.iconst (-1), 1) := by decide +kernel
theorem d_Md_allCases_16 : decode b_Md_allCases 16 = .ok (.iastore, 1) := by decide +kernel
theorem d_Md_allCases_17 : decode b_Md_allCases 17 = .ok (.iload 4, 2) := by decide +kernel
theorem d_Md_allCases_19 : decode b_Md_allCases 19 = .ok (.ifCond .lt 163, 3) := by decide +kernel
theorem d_Md_allCases_22 : decode b_Md_allCases 22 = .ok (.bipush 12, 2) := by decide +kernel
theorem d_Md_allCases_24 : decode b_Md_allCases 24 = .ok (.iload_n 1, 1) := by decide +kernel
theorem d_Md_allCases_25 : decode b_Md_allCases 25 = .ok (.imul, 1) := by decide +kernel
theorem d_Md_allCases_26 : decode b_Md_allCases 26 = .ok (.iconst 3, 1) := by decide +kernel
theorem d_Md_allCases_27 : decode b_Md_allCases 27 = .ok (.iload 4, 2) := by decide +kernel
theorem d_Md_allCases_29 : decode b_Md_allCases 29 = .ok (.imul, 1) := by decide +kernel
theorem d_Md_allCases_30 : decode b_Md_allCases 30 = .ok (.iadd, 1) := by decide +kernel
theorem d_Md_allCases_31 : decode b_Md_allCases 31 = .ok (.istore 5, 2) := by decide +kernel
theorem d_Md_allCases_33 : decode b_Md_allCases 33 = .ok (.aload_n 0, 1) := by decide +kernel
theorem d_Md_allCases_34 : decode b_Md_allCases 34 = .ok (.getfield 39, 3) := by decide +kernel
theorem d_Md_allCases_37 : decode b_Md_allCases 37 = .ok (.iload 4, 2) := by decide +kernel
theorem d_Md_allCases_39 : decode b_Md_allCases 39 = .ok (.iaload, 1) := by decide +kernel
theorem d_Md_allCases_40 : decode b_Md_allCases 40 = .ok (.ifCond .lt 14, 3) := by decide +kernel
theorem d_Md_allCases_43 : decode b_Md_allCases 43 = .ok (.aload_n 0, 1) := by decide +kernel
theorem d_Md_allCases_44 : decode b_Md_allCases 44 = .ok (.aload_n 0, 1) := by decide +kernel
theorem d_Md_allCases_45 : decode b_Md_allCases 45 = .ok (.getfield 24, 3) := by decide +kernel
theorem d_Md_allCases_48 : decode b_Md_allCases 48 = .ok (.iload 5, 2) := by decide +kernel
theorem d_Md_allCases_50 : decode b_Md_allCases 50 = .ok (.iconst 3, 1) := by decide +kernel
theorem d_Md_allCases_51 : decode b_Md_allCases 51 = .ok (.invokevirtual 49, 3) := by decide +kernel
theorem d_Md_allCases_54 : decode b_Md_allCases 54 = .ok (.aload_n 0, 1) := by decide +kernel
theorem d_Md_allCases_55 : decode b_Md_allCases 55 = .ok (.getfield 39, 3) := by decide +kernel
theorem d_Md_allCases_58 : decode b_Md_allCases 58 = .ok (.iload 4, 2) := by decide +kernel
theorem d_Md_allCases_60 : decode b_Md_allCases 60 = .ok (.dup2, 1) := by decide +kernel
theorem d_Md_allCases_61 : decode b_Md_allCases 61 = .ok (.iaload, 1) := by decide +kernel
theorem d_Md_allCases_62 : decode b_Md_allCases 62 = .ok (.iconst 1, 1) := by decide +kernel
theorem d_Md_allCases_63 : decode b_Md_allCases 63 = .ok (.iadd, 1) := by decide +kernel
theorem d_Md_allCases_64 : decode b_Md_allCases 64 = .ok (.iastore, 1) := by decide +kernel
theorem d_Md_allCases_65 : decode b_Md_allCases 65 = .ok (.aload_n 0, 1) := by decide +kernel
theorem d_Md_allCases_66 : decode b_Md_allCases 66 = .ok (.getfield 39, 3) := by decide +kernel
theorem d_Md_allCases_69 : decode b_Md_allCases 69 = .ok (.iload 4, 2) := by decide +kernel
theorem d_Md_allCases_71 : decode b_Md_allCases 71 = .ok (.iaload, 1) := by decide +kernel
theorem d_Md_allCases_72 : decode b_Md_allCases 72 = .ok (.aload_n 0, 1) := by decide +kernel
theorem d_Md_allCases_73 : decode b_Md_allCases 73 = .ok (.getfield 53, 3) := by decide +kernel
theorem d_Md_allCases_76 : decode b_Md_allCases 76 = .ok (.if_icmp .ge 42, 3) := by decide +kernel
theorem d_Md_allCases_79 : decode b_Md_allCases 79 = .ok (.aload_n 0, 1) := by decide +kernel
theorem d_Md_allCases_80 : decode b_Md_allCases 80 = .ok (.aload_n 0, 1) := by decide +kernel
theorem d_Md_allCases_81 : decode b_Md_allCases 81 = .ok (.getfield 24, 3) := by decide +kernel
theorem d_Md_allCases_84 : decode b_Md_allCases 84 = .ok (.iload 5, 2) := by decide +kernel
theorem d_Md_allCases_86 : decode b_Md_allCases 86 = .ok (.aload_n 0, 1) := by decide +kernel
theorem d_Md_allCases_87 : decode b_Md_allCases 87 = .ok (.getfield 21, 3) := by decide +kernel
theorem d_Md_allCases_90 : decode b_Md_allCases 90 = .ok (.aload_n 0, 1) := by decide +kernel
theorem d_Md_allCases_91 : decode b_Md_allCases 91 = .ok (.getfield 39, 3) := by decide +kernel
theorem d_Md_allCases_94 : decode b_Md_allCases 94 = .ok (.iload 4, 2) := by decide +kernel
theorem d_Md_allCases_96 : decode b_Md_allCases 96 = .ok (.iaload, 1) := by decide +kernel
theorem d_Md_allCases_97 : decode b_Md_allCases 97 = .ok (.iaload, 1) := by decide +kernel
theorem d_Md_allCases_98 : decode b_Md_allCases 98 = .ok (.invokevirtual 57, 3) := by decide +kernel
theorem d_Md_allCases_101 : decode b_Md_allCases 101 = .ok (.ifCond .ne 17, 3) := by decide +kernel
theorem d_Md_allCases_104 : decode b_Md_allCases 104 = .ok (.aload_n 0, 1) := by decide +kernel
theorem d_Md_allCases_105 : decode b_Md_allCases 105 = .ok (.getfield 39, 3) := by decide +kernel
theorem d_Md_allCases_108 : decode b_Md_allCases 108 = .ok (.iload 4, 2) := by decide +kernel
theorem d_Md_allCases_110 : decode b_Md_allCases 110 = .ok (.dup2, 1) := by decide +kernel
theorem d_Md_allCases_111 : decode b_Md_allCases 111 = .ok (.iaload, 1) := by decide +kernel
theorem d_Md_allCases_112 : decode b_Md_allCases 112 = .ok (.iconst 1, 1) := by decide +kernel
theorem d_Md_allCases_113 : decode b_Md_allCases 113 = .ok (.iadd, 1) := by decide +kernel
theorem d_Md_allCases_114 : decode b_Md_allCases 114 = .ok (.iastore, 1) := by decide +kernel
theorem d_Md_allCases_115 : decode b_Md_allCases 115 = .ok (.goto (-50), 3) := by decide +kernel
theorem d_Md_allCases_118 : decode b_Md_allCases 118 = .ok (.aload_n 0, 1) := by decide +kernel
theorem d_Md_allCases_119 : decode b_Md_allCases 119 = .ok (.getfield 39, 3) := by decide +kernel
theorem d_Md_allCases_122 : decode b_Md_allCases 122 = .ok (.iload 4, 2) := by decide +kernel
theorem d_Md_allCases_124 : decode b_Md_allCases 124 = .ok (.iaload, 1) := by decide +kernel
theorem d_Md_allCases_125 : decode b_Md_allCases 125 = .ok (.aload_n 0, 1) := by decide +kernel
theorem d_Md_allCases_126 : decode b_Md_allCases 126 = .ok (.getfield 53, 3) := by decide +kernel
theorem d_Md_allCases_129 : decode b_Md_allCases 129 = .ok (.if_icmp .ne 17, 3) := by decide +kernel
theorem d_Md_allCases_132 : decode b_Md_allCases 132 = .ok (.aload_n 0, 1) := by decide +kernel
theorem d_Md_allCases_133 : decode b_Md_allCases 133 = .ok (.getfield 39, 3) := by decide +kernel
theorem d_Md_allCases_136 : decode b_Md_allCases 136 = .ok (.iload 4, 2) := by decide +kernel
theorem d_Md_allCases_138 : decode b_Md_allCases 138 = .ok (.iconst (-1), 1) := by decide +kernel
theorem d_Md_allCases_139 : decode b_Md_allCases 139 = .ok (.iastore, 1) := by decide +kernel
theorem d_Md_allCases_140 : decode b_Md_allCases 140 = .ok (.iinc 4 (-1), 3) := by decide +kernel
theorem d_Md_allCases_143 : decode b_Md_allCases 143 = .ok (.goto 36, 3) := by decide +kernel
theorem d_Md_allCases_146 : decode b_Md_allCases 146 = .ok (.iload 4, 2) := by decide +kernel
theorem d_Md_allCases_148 : decode b_Md_allCases 148 = .ok (.iconst 1, 1) := by decide +kernel
theorem d_Md_allCases_149 : decode b_Md_allCases 149 = .ok (.iadd, 1) := by decide +kernel
theorem d_Md_allCases_150 : decode b_Md_allCases 150 = .ok (.iload_n 3, 1) := by decide +kernel
theorem d_Md_allCases_151 : decode b_Md_allCases 151 = .ok (.if_icmp .ge 17, 3) := by decide +kernel
theorem d_Md_allCases_154 : decode b_Md_allCases 154 = .ok (.iinc 4 1, 3) := by decide +kernel
theorem d_Md_allCases_157 : decode b_Md_allCases 157 = .ok (.aload_n 0, 1) := by decide +kernel
theorem d_Md_allCases_158 : decode b_Md_allCases 158 = .ok (.getfield 39, 3) := by decide +kernel
theorem d_Md_allCases_161 : decode b_Md_allCases 161 = .ok (.iload 4, 2) := by decide +kernel
theorem d_Md_allCases_163 : decode b_Md_allCases 163 = .ok (.iconst (-1), 1) := by decide +kernel
theorem d_Md_allCases_164 : decode b_Md_allCases 164 = .ok (.iastore, 1) := by decide +kernel
theorem d_Md_allCases_165 : decode b_Md_allCases 165 = .ok (.goto 14, 3) := by decide +kernel
theorem d_Md_allCases_168 : decode b_Md_allCases 168 = .ok (.aload_n 0, 1) := by decide +kernel
theorem d_Md_allCases_169 : decode b_Md_allCases 169 = .ok (.iload_n 1, 1) := by decide +kernel
theorem d_Md_allCases_170 : decode b_Md_allCases 170 = .ok (.iload_n 2, 1) := by decide +kernel
theorem d_Md_allCases_171 : decode b_Md_allCases 171 = .ok (.invokevirtual 61, 3) := by decide +kernel
theorem d_Md_allCases_174 : decode b_Md_allCases 174 = .ok (.ifCond .ne 5, 3) := by decide +kernel
theorem d_Md_allCases_177 : decode b_Md_allCases 177 = .ok (.iconst 0, 1) := by decide +kernel
theorem d_Md_allCases_178 : decode b_Md_allCases 178 = .ok (.ireturn, 1) := by decide +kernel
theorem d_Md_allCases_179 : decode b_Md_allCases 179 = .ok (.goto (-162), 3) := by decide +kernel
theorem d_Md_allCases_182 : decode b_Md_allCases 182 = .ok (.iconst 1, 1) := by decide +kernel
theorem d_Md_allCases_183 : decode b_Md_allCases 183 = .ok (.ireturn, 1) := by decide +kernel
theorem d_Md_give_0 : decode b_Md_give 0 = .ok (.bipush 12, 2) := by decide +kernel
theorem d_Md_give_2 : decode b_Md_give 2 = .ok (.iload_n 1, 1) := by decide +kernel
theorem d_Md_give_3 : decode b_Md_give 3 = .ok (.imul, 1) := by decide +kernel
theorem d_Md_give_4 : decode b_Md_give 4 = .ok (.iconst 3, 1) := by decide +kernel
theorem d_Md_give_5 : decode b_Md_give 5 = .ok (.aload_n 0, 1) := by decide +kernel
theorem d_Md_give_6 : decode b_Md_give 6 = .ok (.getfield 27, 3) := by decide +kernel
theorem d_Md_give_9 : decode b_Md_give 9 = .ok (.iload_n 1, 1) := by decide +kernel
theorem d_Md_give_10 : decode b_Md_give 10 = .ok (.iaload, 1) := by decide +kernel
theorem d_Md_give_11 : decode b_Md_give 11 = .ok (.imul, 1) := by decide +kernel
theorem d_Md_give_12 : decode b_Md_give 12 = .ok (.iadd, 1) := by decide +kernel
theorem d_Md_give_13 : decode b_Md_give 13 = .ok (.istore_n 3, 1) := by decide +kernel
theorem d_Md_give_14 : decode b_Md_give 14 = .ok (.aload_n 0, 1) := by decide +kernel
theorem d_Md_give_15 : decode b_Md_give 15 = .ok (.aload_n 0, 1) := by decide +kernel
theorem d_Md_give_16 : decode b_Md_give 16 = .ok (.getfield 24, 3) := by decide +kernel
theorem d_Md_give_19 : decode b_Md_give 19 = .ok (.iload_n 3, 1) := by decide +kernel
theorem d_Md_give_20 : decode b_Md_give 20 = .ok (.iaload, 1) := by decide +kernel
theorem d_Md_give_21 : decode b_Md_give 21 = .ok (.invokevirtual 65, 3) := by decide +kernel
theorem d_Md_give_24 : decode b_Md_give 24 = .ok (.aload_n 0, 1) := by decide +kernel
theorem d_Md_give_25 : decode b_Md_give 25 = .ok (.aload_n 0, 1) := by decide +kernel
theorem d_Md_give_26 : decode b_Md_give 26 = .ok (.getfield 24, 3) := by decide +kernel
theorem d_Md_give_29 : decode b_Md_give 29 = .ok (.iload_n 3, 1) := by decide +kernel
theorem d_Md_give_30 : decode b_Md_give 30 = .ok (.iconst 1, 1) := by decide +kernel
theorem d_Md_give_31 : decode b_Md_give 31 = .ok (.iadd, 1) := by decide +kernel
theorem d_Md_give_32 : decode b_Md_give 32 = .ok (.iaload, 1) := by decide +kernel
theorem d_Md_give_33 : decode b_Md_give 33 = .ok (.invokevirtual 65, 3) := by decide +kernel
theorem d_Md_give_36 : decode b_Md_give 36 = .ok (.aload_n 0, 1) := by decide +kernel
theorem d_Md_give_37 : decode b_Md_give 37 = .ok (.aload_n 0, 1) := by decide +kernel
theorem d_Md_give_38 : decode b_Md_give 38 = .ok (.getfield 24, 3) := by decide +kernel
theorem d_Md_give_41 : decode b_Md_give 41 = .ok (.iload_n 3, 1) := by decide +kernel
theorem d_Md_give_42 : decode b_Md_give 42 = .ok (.iconst 2, 1) := by decide +kernel
theorem d_Md_give_43 : decode b_Md_give 43 = .ok (.iadd, 1) := by decide +kernel
theorem d_Md_give_44 : decode b_Md_give 44 = .ok (.iaload, 1) := by decide +kernel
theorem d_Md_give_45 : decode b_Md_give 45 = .ok (.invokevirtual 65, 3) := by decide +kernel
theorem d_Md_give_48 : decode b_Md_give 48 = .ok (.invokestatic 69, 3) := by decide +kernel
theorem d_Md_give_51 : decode b_Md_give 51 = .ok (.istore 4, 2) := by decide +kernel
theorem d_Md_give_53 : decode b_Md_give 53 = .ok (.iload_n 2, 1) := by decide +kernel
theorem d_Md_give_54 : decode b_Md_give 54 = .ok (.ifCond .eq 16, 3) := by decide +kernel
theorem d_Md_give_57 : decode b_Md_give 57 = .ok (.aload_n 0, 1) := by decide +kernel
theorem d_Md_give_58 : decode b_Md_give 58 = .ok (.getfield 17, 3) := by decide +kernel
theorem d_Md_give_61 : decode b_Md_give 61 = .ok (.iload 4, 2) := by decide +kernel
theorem d_Md_give_63 : decode b_Md_give 63 = .ok (.dup2, 1) := by decide +kernel
theorem d_Md_give_64 : decode b_Md_give 64 = .ok (.iaload, 1) := by decide +kernel
theorem d_Md_give_65 : decode b_Md_give 65 = .ok (.iconst 1, 1) := by decide +kernel
theorem d_Md_give_66 : decode b_Md_give 66 = .ok (.iadd, 1) := by decide +kernel
theorem d_Md_give_67 : decode b_Md_give 67 = .ok (.iastore, 1) := by decide +kernel
theorem d_Md_give_68 : decode b_Md_give 68 = .ok (.iconst 1, 1) := by decide +kernel
theorem d_Md_give_69 : decode b_Md_give 69 = .ok (.ireturn, 1) := by decide +kernel
theorem d_Md_give_70 : decode b_Md_give 70 = .ok (.aload_n 0, 1) := by decide +kernel
theorem d_Md_give_71 : decode b_Md_give 71 = .ok (.iload 4, 2) := by decide +kernel
theorem d_Md_give_73 : decode b_Md_give 73 = .ok (.invokevirtual 73, 3) := by decide +kernel
theorem d_Md_give_76 : decode b_Md_give 76 = .ok (.ireturn, 1) := by decide +kernel
theorem d_Md_come_0 : decode b_Md_come 0 = .ok (.aload_n 0, 1) := by decide +kernel
theorem d_Md_come_1 : decode b_Md_come 1 = .ok (.getfield 14, 3) := by decide +kernel
theorem d_Md_come_4 : decode b_Md_come 4 = .ok (.iload_n 1, 1) := by decide +kernel
theorem d_Md_come_5 : decode b_Md_come 5 = .ok (.baload, 1) := by decide +kernel
theorem d_Md_come_6 : decode b_Md_come 6 = .ok (.ifCond .eq 5, 3) := by decide +kernel
theorem d_Md_come_9 : decode b_Md_come 9 = .ok (.iconst 1, 1) := by decide +kernel
theorem d_Md_come_10 : decode b_Md_come 10 = .ok (.ireturn, 1) := by decide +kernel
theorem d_Md_come_11 : decode b_Md_come 11 = .ok (.aload_n 0, 1) := by decide +kernel
theorem d_Md_come_12 : decode b_Md_come 12 = .ok (.getfield 53, 3) := by decide +kernel
theorem d_Md_come_15 : decode b_Md_come 15 = .ok (.sipush 300, 3) := by decide +kernel
theorem d_Md_come_18 : decode b_Md_come 18 = .ok (.if_icmp .ne 5, 3) := by decide +kernel
theorem d_Md_come_21 : decode b_Md_come 21 = .ok (.iconst 0, 1) := by decide +kernel
theorem d_Md_come_22 : decode b_Md_come 22 = .ok (.ireturn, 1) := by decide +kernel
theorem d_Md_come_23 : decode b_Md_come 23 = .ok (.aload_n 0, 1) := by decide +kernel
theorem d_Md_come_24 : decode b_Md_come 24 = .ok (.getfield 14, 3) := by decide +kernel
theorem d_Md_come_27 : decode b_Md_come 27 = .ok (.iload_n 1, 1) := by decide +kernel
theorem d_Md_come_28 : decode b_Md_come 28 = .ok (.iconst 1, 1) := by decide +kernel
theorem d_Md_come_29 : decode b_Md_come 29 = .ok (.bastore, 1) := by decide +kernel
theorem d_Md_come_30 : decode b_Md_come 30 = .ok (.aload_n 0, 1) := by decide +kernel
theorem d_Md_come_31 : decode b_Md_come 31 = .ok (.getfield 21, 3) := by decide +kernel
theorem d_Md_come_34 : decode b_Md_come 34 = .ok (.aload_n 0, 1) := by decide +kernel
theorem d_Md_come_35 : decode b_Md_come 35 = .ok (.getfield 53, 3) := by decide +kernel
theorem d_Md_come_38 : decode b_Md_come 38 = .ok (.iload_n 1, 1) := by decide +kernel
theorem d_Md_come_39 : decode b_Md_come 39 = .ok (.iastore, 1) := by decide +kernel
theorem d_Md_come_40 : decode b_Md_come 40 = .ok (.aload_n 0, 1) := by decide +kernel
theorem d_Md_come_41 : decode b_Md_come 41 = .ok (.dup, 1) := by decide +kernel
theorem d_Md_come_42 : decode b_Md_come 42 = .ok (.getfield 53, 3) := by decide +kernel
theorem d_Md_come_45 : decode b_Md_come 45 = .ok (.iconst 1, 1) := by decide +kernel
theorem d_Md_come_46 : decode b_Md_come 46 = .ok (.iadd, 1) := by decide +kernel
theorem d_Md_come_47 : decode b_Md_come 47 = .ok (.putfield 53, 3) := by decide +kernel
theorem d_Md_come_50 : decode b_Md_come 50 = .ok (.iconst 1, 1) := by decide +kernel
theorem d_Md_come_51 : decode b_Md_come 51 = .ok (.ireturn, 1) := by decide +kernel
theorem d_Md_free_0 : decode b_Md_free 0 = .ok (.iconst 0, 1) := by decide +kernel
theorem d_Md_free_1 : decode b_Md_free 1 = .ok (.istore_n 1, 1) := by decide +kernel
theorem d_Md_free_2 : decode b_Md_free 2 = .ok (.iload_n 1, 1) := by decide +kernel
theorem d_Md_free_3 : decode b_Md_free 3 = .ok (.bipush 9, 2) := by decide +kernel
theorem d_Md_free_5 : decode b_Md_free 5 = .ok (.if_icmp .ge 16, 3) := by decide +kernel
theorem d_Md_free_8 : decode b_Md_free 8 = .ok (.aload_n 0, 1) := by decide +kernel
theorem d_Md_free_9 : decode b_Md_free 9 = .ok (.getfield 36, 3) := by decide +kernel
theorem d_Md_free_12 : decode b_Md_free 12 = .ok (.iload_n 1, 1) := by decide +kernel
theorem d_Md_free_13 : decode b_Md_free 13 = .ok (.iconst 0, 1) := by decide +kernel
theorem d_Md_free_14 : decode b_Md_free 14 = .ok (.iastore, 1) := by decide +kernel
theorem d_Md_free_15 : decode b_Md_free 15 = .ok (.iinc 1 1, 3) := by decide +kernel
theorem d_Md_free_18 : decode b_Md_free 18 = .ok (.goto (-16), 3) := by decide +kernel
theorem d_Md_free_21 : decode b_Md_free 21 = .ok (.return_, 1) := by decide +kernel
theorem d_Md_reckon_0 : decode b_Md_reckon 0 = .ok (.aload_n 0, 1) := by decide +kernel
theorem d_Md_reckon_1 : decode b_Md_reckon 1 = .ok (.iconst 0, 1) := by decide +kernel
theorem d_Md_reckon_2 : decode b_Md_reckon 2 = .ok (.putfield 53, 3) := by decide +kernel
theorem d_Md_reckon_5 : decode b_Md_reckon 5 = .ok (.iconst 0, 1) := by decide +kernel
theorem d_Md_reckon_6 : decode b_Md_reckon 6 = .ok (.istore_n 1, 1) := by decide +kernel
theorem d_Md_reckon_7 : decode b_Md_reckon 7 = .ok (.iload_n 1, 1) := by decide +kernel
theorem d_Md_reckon_8 : decode b_Md_reckon 8 = .ok (.ldc 7, 2) := by decide +kernel
theorem d_Md_reckon_10 : decode b_Md_reckon 10 = .ok (.if_icmp .ge 23, 3) := by decide +kernel
theorem d_Md_reckon_13 : decode b_Md_reckon 13 = .ok (.aload_n 0, 1) := by decide +kernel
theorem d_Md_reckon_14 : decode b_Md_reckon 14 = .ok (.getfield 14, 3) := by decide +kernel
theorem d_Md_reckon_17 : decode b_Md_reckon 17 = .ok (.iload_n 1, 1) := by decide +kernel
theorem d_Md_reckon_18 : decode b_Md_reckon 18 = .ok (.iconst 0, 1) := by decide +kernel
theorem d_Md_reckon_19 : decode b_Md_reckon 19 = .ok (.bastore, 1) := by decide +kernel
theorem d_Md_reckon_20 : decode b_Md_reckon 20 = .ok (.aload_n 0, 1) := by decide +kernel
theorem d_Md_reckon_21 : decode b_Md_reckon 21 = .ok (.getfield 17, 3) := by decide +kernel
theorem d_Md_reckon_24 : decode b_Md_reckon 24 = .ok (.iload_n 1, 1) := by decide +kernel
theorem d_Md_reckon_25 : decode b_Md_reckon 25 = .ok (.iconst 0, 1) := by decide +kernel
theorem d_Md_reckon_26 : decode b_Md_reckon 26 = .ok (.iastore, 1) := by decide +kernel
theorem d_Md_reckon_27 : decode b_Md_reckon 27 = .ok (.iinc 1 1, 3) := by decide +kernel
theorem d_Md_reckon_30 : decode b_Md_reckon 30 = .ok (.goto (-23), 3) := by decide +kernel
theorem d_Md_reckon_33 : decode b_Md_reckon 33 = .ok (.iconst 0, 1) := by decide +kernel
theorem d_Md_reckon_34 : decode b_Md_reckon 34 = .ok (.istore_n 1, 1) := by decide +kernel
theorem d_Md_reckon_35 : decode b_Md_reckon 35 = .ok (.iload_n 1, 1) := by decide +kernel
theorem d_Md_reckon_36 : decode b_Md_reckon 36 = .ok (.ldc 7, 2) := by decide +kernel
theorem d_Md_reckon_38 : decode b_Md_reckon 38 = .ok (.if_icmp .ge 28, 3) := by decide +kernel
theorem d_Md_reckon_41 : decode b_Md_reckon 41 = .ok (.aload_n 0, 1) := by decide +kernel
theorem d_Md_reckon_42 : decode b_Md_reckon 42 = .ok (.getfield 8, 3) := by decide +kernel
theorem d_Md_reckon_45 : decode b_Md_reckon 45 = .ok (.iload_n 1, 1) := by decide +kernel
theorem d_Md_reckon_46 : decode b_Md_reckon 46 = .ok (.baload, 1) := by decide +kernel
theorem d_Md_reckon_47 : decode b_Md_reckon 47 = .ok (.ifCond .eq 13, 3) := by decide +kernel
theorem d_Md_reckon_50 : decode b_Md_reckon 50 = .ok (.aload_n 0, 1) := by decide +kernel
theorem d_Md_reckon_51 : decode b_Md_reckon 51 = .ok (.iload_n 1, 1) := by decide +kernel
theorem d_Md_reckon_52 : decode b_Md_reckon 52 = .ok (.invokevirtual 73, 3) := by decide +kernel
theorem d_Md_reckon_55 : decode b_Md_reckon 55 = .ok (.ifCond .ne 5, 3) := by decide +kernel
theorem d_Md_reckon_58 : decode b_Md_reckon 58 = .ok (.iconst 0, 1) := by decide +kernel
theorem d_Md_reckon_59 : decode b_Md_reckon 59 = .ok (.ireturn, 1) := by decide +kernel
theorem d_Md_reckon_60 : decode b_Md_reckon 60 = .ok (.iinc 1 1, 3) := by decide +kernel
theorem d_Md_reckon_63 : decode b_Md_reckon 63 = .ok (.goto (-28), 3) := by decide +kernel
theorem d_Md_reckon_66 : decode b_Md_reckon 66 = .ok (.iconst (-1), 1) := by decide +kernel
theorem d_Md_reckon_67 : decode b_Md_reckon 67 = .ok (.istore_n 1, 1) := by decide +kernel
theorem d_Md_reckon_68 : decode b_Md_reckon 68 = .ok (.iload_n 1, 1) := by decide +kernel
theorem d_Md_reckon_69 : decode b_Md_reckon 69 = .ok (.aload_n 0, 1) := by decide +kernel
theorem d_Md_reckon_70 : decode b_Md_reckon 70 = .ok (.getfield 53, 3) := by decide +kernel
theorem d_Md_reckon_73 : decode b_Md_reckon 73 = .ok (.if_icmp .ge 42, 3) := by decide +kernel
theorem d_Md_reckon_76 : decode b_Md_reckon 76 = .ok (.aload_n 0, 1) := by decide +kernel
theorem d_Md_reckon_77 : decode b_Md_reckon 77 = .ok (.getfield 53, 3) := by decide +kernel
theorem d_Md_reckon_80 : decode b_Md_reckon 80 = .ok (.istore_n 1, 1) := by decide +kernel
theorem d_Md_reckon_81 : decode b_Md_reckon 81 = .ok (.iconst 0, 1) := by decide +kernel
theorem d_Md_reckon_82 : decode b_Md_reckon 82 = .ok (.istore_n 2, 1) := by decide +kernel
theorem d_Md_reckon_83 : decode b_Md_reckon 83 = .ok (.iload_n 2, 1) := by decide +kernel
theorem d_Md_reckon_84 : decode b_Md_reckon 84 = .ok (.aload_n 0, 1) := by decide +kernel
theorem d_Md_reckon_85 : decode b_Md_reckon 85 = .ok (.getfield 77, 3) := by decide +kernel
theorem d_Md_reckon_88 : decode b_Md_reckon 88 = .ok (.if_icmp .ge 24, 3) := by decide +kernel
theorem d_Md_reckon_91 : decode b_Md_reckon 91 = .ok (.aload_n 0, 1) := by decide +kernel
theorem d_Md_reckon_92 : decode b_Md_reckon 92 = .ok (.invokevirtual 80, 3) := by decide +kernel
theorem d_Md_reckon_95 : decode b_Md_reckon 95 = .ok (.aload_n 0, 1) := by decide +kernel
theorem d_Md_reckon_96 : decode b_Md_reckon 96 = .ok (.iload_n 2, 1) := by decide +kernel
theorem d_Md_reckon_97 : decode b_Md_reckon 97 = .ok (.iconst 0, 1) := by decide +kernel
theorem d_Md_reckon_98 : decode b_Md_reckon 98 = .ok (.invokevirtual 83, 3) := by decide +kernel
theorem d_Md_reckon_101 : decode b_Md_reckon 101 = .ok (.ifCond .ne 5, 3) := by decide +kernel
theorem d_Md_reckon_104 : decode b_Md_reckon 104 = .ok (.iconst 0, 1) := by decide +kernel
theorem d_Md_reckon_105 : decode b_Md_reckon 105 = .ok (.ireturn, 1) := by decide +kernel
theorem d_Md_reckon_106 : decode b_Md_reckon 106 = .ok (.iinc 2 1, 3) := by decide +kernel
theorem d_Md_reckon_109 : decode b_Md_reckon 109 = .ok (.goto (-26), 3) := by decide +kernel
theorem d_Md_reckon_112 : decode b_Md_reckon 112 = .ok (.goto (-44), 3) := by decide +kernel
theorem d_Md_reckon_115 : decode b_Md_reckon 115 = .ok (.iconst 0, 1) := by decide +kernel
theorem d_Md_reckon_116 : decode b_Md_reckon 116 = .ok (.istore_n 2, 1) := by decide +kernel
theorem d_Md_reckon_117 : decode b_Md_reckon 117 = .ok (.iload_n 2, 1) := by decide +kernel
theorem d_Md_reckon_118 : decode b_Md_reckon 118 = .ok (.aload_n 0, 1) := by decide +kernel
theorem d_Md_reckon_119 : decode b_Md_reckon 119 = .ok (.getfield 77, 3) := by decide +kernel
theorem d_Md_reckon_122 : decode b_Md_reckon 122 = .ok (.if_icmp .ge 20, 3) := by decide +kernel
theorem d_Md_reckon_125 : decode b_Md_reckon 125 = .ok (.aload_n 0, 1) := by decide +kernel
theorem d_Md_reckon_126 : decode b_Md_reckon 126 = .ok (.invokevirtual 80, 3) := by decide +kernel
theorem d_Md_reckon_129 : decode b_Md_reckon 129 = .ok (.aload_n 0, 1) := by decide +kernel
theorem d_Md_reckon_130 : decode b_Md_reckon 130 = .ok (.iload_n 2, 1) := by decide +kernel
theorem d_Md_reckon_131 : decode b_Md_reckon 131 = .ok (.iconst 1, 1) := by decide +kernel
theorem d_Md_reckon_132 : decode b_Md_reckon 132 = .ok (.invokevirtual 83, 3) := by decide +kernel
theorem d_Md_reckon_135 : decode b_Md_reckon 135 = .ok (.pop, 1) := by decide +kernel
theorem d_Md_reckon_136 : decode b_Md_reckon 136 = .ok (.iinc 2 1, 3) := by decide +kernel
theorem d_Md_reckon_139 : decode b_Md_reckon 139 = .ok (.goto (-22), 3) := by decide +kernel
theorem d_Md_reckon_142 : decode b_Md_reckon 142 = .ok (.iconst 1, 1) := by decide +kernel
theorem d_Md_reckon_143 : decode b_Md_reckon 143 = .ok (.ireturn, 1) := by decide +kernel
theorem d_Md_say_0 : decode b_Md_say 0 = .ok (.iload_n 1, 1) := by decide +kernel
theorem d_Md_say_1 : decode b_Md_say 1 = .ok (.invokestatic 86, 3) := by decide +kernel
theorem d_Md_say_4 : decode b_Md_say 4 = .ok (.ifCond .eq 17, 3) := by decide +kernel
theorem d_Md_say_7 : decode b_Md_say 7 = .ok (.iload_n 2, 1) := by decide +kernel
theorem d_Md_say_8 : decode b_Md_say 8 = .ok (.invokestatic 86, 3) := by decide +kernel
theorem d_Md_say_11 : decode b_Md_say 11 = .ok (.ifCond .eq 10, 3) := by decide +kernel
theorem d_Md_say_14 : decode b_Md_say 14 = .ok (.iload_n 3, 1) := by decide +kernel
theorem d_Md_say_15 : decode b_Md_say 15 = .ok (.invokestatic 86, 3) := by decide +kernel
theorem d_Md_say_18 : decode b_Md_say 18 = .ok (.ifCond .ne 5, 3) := by decide +kernel
theorem d_Md_say_21 : decode b_Md_say 21 = .ok (.iconst (-1), 1) := by decide +kernel
theorem d_Md_say_22 : decode b_Md_say 22 = .ok (.ireturn, 1) := by decide +kernel
theorem d_Md_say_23 : decode b_Md_say 23 = .ok (.iload_n 1, 1) := by decide +kernel
theorem d_Md_say_24 : decode b_Md_say 24 = .ok (.iload_n 2, 1) := by decide +kernel
theorem d_Md_say_25 : decode b_Md_say 25 = .ok (.iload_n 3, 1) := by decide +kernel
theorem d_Md_say_26 : decode b_Md_say 26 = .ok (.invokestatic 69, 3) := by decide +kernel
theorem d_Md_say_29 : decode b_Md_say 29 = .ok (.istore 4, 2) := by decide +kernel
theorem d_Md_say_31 : decode b_Md_say 31 = .ok (.aload_n 0, 1) := by decide +kernel
theorem d_Md_say_32 : decode b_Md_say 32 = .ok (.getfield 8, 3) := by decide +kernel
theorem d_Md_say_35 : decode b_Md_say 35 = .ok (.iload 4, 2) := by decide +kernel
theorem d_Md_say_37 : decode b_Md_say 37 = .ok (.baload, 1) := by decide +kernel
theorem d_Md_say_38 : decode b_Md_say 38 = .ok (.ifCond .eq 5, 3) := by decide +kernel
theorem d_Md_say_41 : decode b_Md_say 41 = .ok (.iconst 0, 1) := by decide +kernel
theorem d_Md_say_42 : decode b_Md_say 42 = .ok (.ireturn, 1) := by decide +kernel
theorem d_Md_say_43 : decode b_Md_say 43 = .ok (.aload_n 0, 1) := by decide +kernel
theorem d_Md_say_44 : decode b_Md_say 44 = .ok (.getfield 8, 3) := by decide +kernel
theorem d_Md_say_47 : decode b_Md_say 47 = .ok (.iload 4, 2) := by decide +kernel
theorem d_Md_say_49 : decode b_Md_say 49 = .ok (.iconst 1, 1) := by decide +kernel
theorem d_Md_say_50 : decode b_Md_say 50 = .ok (.bastore, 1) := by decide +kernel
theorem d_Md_say_51 : decode b_Md_say 51 = .ok (.aload_n 0, 1) := by decide +kernel
theorem d_Md_say_52 : decode b_Md_say 52 = .ok (.invokevirtual 89, 3) := by decide +kernel
theorem d_Md_say_55 : decode b_Md_say 55 = .ok (.ifCond .eq 5, 3) := by decide +kernel
theorem d_Md_say_58 : decode b_Md_say 58 = .ok (.iconst 1, 1) := by decide +kernel
theorem d_Md_say_59 : decode b_Md_say 59 = .ok (.ireturn, 1) := by decide +kernel
theorem d_Md_say_60 : decode b_Md_say 60 = .ok (.aload_n 0, 1) := by decide +kernel
theorem d_Md_say_61 : decode b_Md_say 61 = .ok (.getfield 8, 3) := by decide +kernel
theorem d_Md_say_64 : decode b_Md_say 64 = .ok (.iload 4, 2) := by decide +kernel
theorem d_Md_say_66 : decode b_Md_say 66 = .ok (.iconst 0, 1) := by decide +kernel
theorem d_Md_say_67 : decode b_Md_say 67 = .ok (.bastore, 1) := by decide +kernel
theorem d_Md_say_68 : decode b_Md_say 68 = .ok (.aload_n 0, 1) := by decide +kernel
theorem d_Md_say_69 : decode b_Md_say 69 = .ok (.invokevirtual 89, 3) := by decide +kernel
theorem d_Md_say_72 : decode b_Md_say 72 = .ok (.pop, 1) := by decide +kernel
theorem d_Md_say_73 : decode b_Md_say 73 = .ok (.bipush (-3), 2) := by decide +kernel
theorem d_Md_say_75 : decode b_Md_say 75 = .ok (.ireturn, 1) := by decide +kernel
theorem d_Md_unsay_0 : decode b_Md_unsay 0 = .ok (.iload_n 1, 1) := by decide +kernel
theorem d_Md_unsay_1 : decode b_Md_unsay 1 = .ok (.invokestatic 86, 3) := by decide +kernel
theorem d_Md_unsay_4 : decode b_Md_unsay 4 = .ok (.ifCond .eq 17, 3) := by decide +kernel
theorem d_Md_unsay_7 : decode b_Md_unsay 7 = .ok (.iload_n 2, 1) := by decide +kernel
theorem d_Md_unsay_8 : decode b_Md_unsay 8 = .ok (.invokestatic 86, 3) := by decide +kernel
theorem d_Md_unsay_11 : decode b_Md_unsay 11 = .ok (.ifCond .eq 10, 3) := by decide +kernel
theorem d_Md_unsay_14 : decode b_Md_unsay 14 = .ok (.iload_n 3, 1) := by decide +kernel
theorem d_Md_unsay_15 : decode b_Md_unsay 15 = .ok (.invokestatic 86, 3) := by decide +kernel
theorem d_Md_unsay_18 : decode b_Md_unsay 18 = .ok (.ifCond .ne 5, 3) := by decide +kernel
theorem d_Md_unsay_21 : decode b_Md_unsay 21 = .ok (.iconst (-1), 1) := by decide +kernel
theorem d_Md_unsay_22 : decode b_Md_unsay 22 = .ok (.ireturn, 1) := by decide +kernel
theorem d_Md_unsay_23 : decode b_Md_unsay 23 = .ok (.iload_n 1, 1) := by decide +kernel
theorem d_Md_unsay_24 : decode b_Md_unsay 24 = .ok (.iload_n 2, 1) := by decide +kernel
theorem d_Md_unsay_25 : decode b_Md_unsay 25 = .ok (.iload_n 3, 1) := by decide +kernel
theorem d_Md_unsay_26 : decode b_Md_unsay 26 = .ok (.invokestatic 69, 3) := by decide +kernel
theorem d_Md_unsay_29 : decode b_Md_unsay 29 = .ok (.istore 4, 2) := by decide +kernel
theorem d_Md_unsay_31 : decode b_Md_unsay 31 = .ok (.aload_n 0, 1) := by decide +kernel
theorem d_Md_unsay_32 : decode b_Md_unsay 32 = .ok (.getfield 8, 3) := by decide +kernel
theorem d_Md_unsay_35 : decode b_Md_unsay 35 = .ok (.iload 4, 2) := by decide +kernel
theorem d_Md_unsay_37 : decode b_Md_unsay 37 = .ok (.baload, 1) := by decide +kernel
theorem d_Md_unsay_38 : decode b_Md_unsay 38 = .ok (.ifCond .ne 5, 3) := by decide +kernel
theorem d_Md_unsay_41 : decode b_Md_unsay 41 = .ok (.iconst 0, 1) := by decide +kernel
theorem d_Md_unsay_42 : decode b_Md_unsay 42 = .ok (.ireturn, 1) := by decide +kernel
theorem d_Md_unsay_43 : decode b_Md_unsay 43 = .ok (.aload_n 0, 1) := by decide +kernel
theorem d_Md_unsay_44 : decode b_Md_unsay 44 = .ok (.getfield 8, 3) := by decide +kernel
theorem d_Md_unsay_47 : decode b_Md_unsay 47 = .ok (.iload 4, 2) := by decide +kernel
theorem d_Md_unsay_49 : decode b_Md_unsay 49 = .ok (.iconst 0, 1) := by decide +kernel
theorem d_Md_unsay_50 : decode b_Md_unsay 50 = .ok (.bastore, 1) := by decide +kernel
theorem d_Md_unsay_51 : decode b_Md_unsay 51 = .ok (.aload_n 0, 1) := by decide +kernel
theorem d_Md_unsay_52 : decode b_Md_unsay 52 = .ok (.invokevirtual 89, 3) := by decide +kernel
theorem d_Md_unsay_55 : decode b_Md_unsay 55 = .ok (.pop, 1) := by decide +kernel
theorem d_Md_unsay_56 : decode b_Md_unsay 56 = .ok (.iconst 1, 1) := by decide +kernel
theorem d_Md_unsay_57 : decode b_Md_unsay 57 = .ok (.ireturn, 1) := by decide +kernel
theorem d_Md_pattern_0 : decode b_Md_pattern 0 = .ok (.iload_n 1, 1) := by decide +kernel
theorem d_Md_pattern_1 : decode b_Md_pattern 1 = .ok (.invokestatic 93, 3) := by decide +kernel
theorem d_Md_pattern_4 : decode b_Md_pattern 4 = .ok (.ifCond .eq 17, 3) := by decide +kernel
theorem d_Md_pattern_7 : decode b_Md_pattern 7 = .ok (.iload_n 2, 1) := by decide +kernel
theorem d_Md_pattern_8 : decode b_Md_pattern 8 = .ok (.invokestatic 93, 3) := by decide +kernel
theorem d_Md_pattern_11 : decode b_Md_pattern 11 = .ok (.ifCond .eq 10, 3) := by decide +kernel
theorem d_Md_pattern_14 : decode b_Md_pattern 14 = .ok (.iload_n 3, 1) := by decide +kernel
theorem d_Md_pattern_15 : decode b_Md_pattern 15 = .ok (.invokestatic 93, 3) := by decide +kernel
theorem d_Md_pattern_18 : decode b_Md_pattern 18 = .ok (.ifCond .ne 5, 3) := by decide +kernel
theorem d_Md_pattern_21 : decode b_Md_pattern 21 = .ok (.iconst (-1), 1) := by decide +kernel
theorem d_Md_pattern_22 : decode b_Md_pattern 22 = .ok (.ireturn, 1) := by decide +kernel
theorem d_Md_pattern_23 : decode b_Md_pattern 23 = .ok (.aload_n 0, 1) := by decide +kernel
theorem d_Md_pattern_24 : decode b_Md_pattern 24 = .ok (.getfield 96, 3) := by decide +kernel
theorem d_Md_pattern_27 : decode b_Md_pattern 27 = .ok (.iconst 4, 1) := by decide +kernel
theorem d_Md_pattern_28 : decode b_Md_pattern 28 = .ok (.if_icmp .ne 6, 3) := by decide +kernel
theorem d_Md_pattern_31 : decode b_Md_pattern 31 = .ok (.bipush (-3), 2) := by decide +kernel
theorem d_Md_pattern_33 : decode b_Md_pattern 33 = .ok (.ireturn, 1) := by decide +kernel
theorem d_Md_pattern_34 : decode b_Md_pattern 34 = .ok (.aload_n 0, 1) := by decide +kernel
theorem d_Md_pattern_35 : decode b_Md_pattern 35 = .ok (.getfield 30, 3) := by decide +kernel
theorem d_Md_pattern_38 : decode b_Md_pattern 38 = .ok (.iconst 3, 1) := by decide +kernel
theorem d_Md_pattern_39 : decode b_Md_pattern 39 = .ok (.aload_n 0, 1) := by decide +kernel
theorem d_Md_pattern_40 : decode b_Md_pattern 40 = .ok (.getfield 96, 3) := by decide +kernel
theorem d_Md_pattern_43 : decode b_Md_pattern 43 = .ok (.imul, 1) := by decide +kernel
theorem d_Md_pattern_44 : decode b_Md_pattern 44 = .ok (.iload_n 1, 1) := by decide +kernel
theorem d_Md_pattern_45 : decode b_Md_pattern 45 = .ok (.iastore, 1) := by decide +kernel
theorem d_Md_pattern_46 : decode b_Md_pattern 46 = .ok (.aload_n 0, 1) := by decide +kernel
theorem d_Md_pattern_47 : decode b_Md_pattern 47 = .ok (.getfield 30, 3) := by decide +kernel
theorem d_Md_pattern_50 : decode b_Md_pattern 50 = .ok (.iconst 3, 1) := by decide +kernel
theorem d_Md_pattern_51 : decode b_Md_pattern 51 = .ok (.aload_n 0, 1) := by decide +kernel
theorem d_Md_pattern_52 : decode b_Md_pattern 52 = .ok (.getfield 96, 3) := by decide +kernel
theorem d_Md_pattern_55 : decode b_Md_pattern 55 = .ok (.imul, 1) := by decide +kernel
theorem d_Md_pattern_56 : decode b_Md_pattern 56 = .ok (.iconst 1, 1) := by decide +kernel
theorem d_Md_pattern_57 : decode b_Md_pattern 57 = .ok (.iadd, 1) := by decide +kernel
theorem d_Md_pattern_58 : decode b_Md_pattern 58 = .ok (.iload_n 2, 1) := by decide +kernel
theorem d_Md_pattern_59 : decode b_Md_pattern 59 = .ok (.iastore, 1) := by decide +kernel
theorem d_Md_pattern_60 : decode b_Md_pattern 60 = .ok (.aload_n 0, 1) := by decide +kernel
theorem d_Md_pattern_61 : decode b_Md_pattern 61 = .ok (.getfield 30, 3) := by decide +kernel
theorem d_Md_pattern_64 : decode b_Md_pattern 64 = .ok (.iconst 3, 1) := by decide +kernel
theorem d_Md_pattern_65 : decode b_Md_pattern 65 = .ok (.aload_n 0, 1) := by decide +kernel
theorem d_Md_pattern_66 : decode b_Md_pattern 66 = .ok (.getfield 96, 3) := by decide +kernel
theorem d_Md_pattern_69 : decode b_Md_pattern 69 = .ok (.imul, 1) := by decide +kernel
theorem d_Md_pattern_70 : decode b_Md_pattern 70 = .ok (.iconst 2, 1) := by decide +kernel
theorem d_Md_pattern_71 : decode b_Md_pattern 71 = .ok (.iadd, 1) := by decide +kernel
theorem d_Md_pattern_72 : decode b_Md_pattern 72 = .ok (.iload_n 3, 1) := by decide +kernel
theorem d_Md_pattern_73 : decode b_Md_pattern 73 = .ok (.iastore, 1) := by decide +kernel
theorem d_Md_pattern_74 : decode b_Md_pattern 74 = .ok (.aload_n 0, 1) := by decide +kernel
theorem d_Md_pattern_75 : decode b_Md_pattern 75 = .ok (.dup, 1) := by decide +kernel
theorem d_Md_pattern_76 : decode b_Md_pattern 76 = .ok (.getfield 96, 3) := by decide +kernel
theorem d_Md_pattern_79 : decode b_Md_pattern 79 = .ok (.iconst 1, 1) := by decide +kernel
theorem d_Md_pattern_80 : decode b_Md_pattern 80 = .ok (.iadd, 1) := by decide +kernel
theorem d_Md_pattern_81 : decode b_Md_pattern 81 = .ok (.putfield 96, 3) := by decide +kernel
theorem d_Md_pattern_84 : decode b_Md_pattern 84 = .ok (.aload_n 0, 1) := by decide +kernel
theorem d_Md_pattern_85 : decode b_Md_pattern 85 = .ok (.getfield 96, 3) := by decide +kernel
theorem d_Md_pattern_88 : decode b_Md_pattern 88 = .ok (.ireturn, 1) := by decide +kernel
theorem d_Md_isMade_0 : decode b_Md_isMade 0 = .ok (.aload_n 0, 1) := by decide +kernel
theorem d_Md_isMade_1 : decode b_Md_isMade 1 = .ok (.getfield 96, 3) := by decide +kernel
theorem d_Md_isMade_4 : decode b_Md_isMade 4 = .ok (.iconst 1, 1) := by decide +kernel
theorem d_Md_isMade_5 : decode b_Md_isMade 5 = .ok (.if_icmp .le 7, 3) := by decide +kernel
theorem d_Md_isMade_8 : decode b_Md_isMade 8 = .ok (.iconst 1, 1) := by decide +kernel
theorem d_Md_isMade_9 : decode b_Md_isMade 9 = .ok (.goto 4, 3) := by decide +kernel
theorem d_Md_isMade_12 : decode b_Md_isMade 12 = .ok (.iconst 0, 1) := by decide +kernel
theorem d_Md_isMade_13 : decode b_Md_isMade 13 = .ok (.istore_n 1, 1) := by decide +kernel
theorem d_Md_isMade_14 : decode b_Md_isMade 14 = .ok (.iconst 3, 1) := by decide +kernel
theorem d_Md_isMade_15 : decode b_Md_isMade 15 = .ok (.aload_n 0, 1) := by decide +kernel
theorem d_Md_isMade_16 : decode b_Md_isMade 16 = .ok (.getfield 96, 3) := by decide +kernel
theorem d_Md_isMade_19 : decode b_Md_isMade 19 = .ok (.imul, 1) := by decide +kernel
theorem d_Md_isMade_20 : decode b_Md_isMade 20 = .ok (.iconst 3, 1) := by decide +kernel
theorem d_Md_isMade_21 : decode b_Md_isMade 21 = .ok (.isub, 1) := by decide +kernel
theorem d_Md_isMade_22 : decode b_Md_isMade 22 = .ok (.istore_n 2, 1) := by decide +kernel
theorem d_Md_isMade_23 : decode b_Md_isMade 23 = .ok (.iload_n 2, 1) := by decide +kernel
theorem d_Md_isMade_24 : decode b_Md_isMade 24 = .ok (.iconst 3, 1) := by decide +kernel
theorem d_Md_isMade_25 : decode b_Md_isMade 25 = .ok (.aload_n 0, 1) := by decide +kernel
theorem d_Md_isMade_26 : decode b_Md_isMade 26 = .ok (.getfield 96, 3) := by decide +kernel
theorem d_Md_isMade_29 : decode b_Md_isMade 29 = .ok (.imul, 1) := by decide +kernel
theorem d_Md_isMade_30 : decode b_Md_isMade 30 = .ok (.if_icmp .ge 78, 3) := by decide +kernel
theorem d_Md_isMade_33 : decode b_Md_isMade 33 = .ok (.iload_n 1, 1) := by decide +kernel
theorem d_Md_isMade_34 : decode b_Md_isMade 34 = .ok (.ifCond .eq 74, 3) := by decide +kernel
theorem d_Md_isMade_37 : decode b_Md_isMade 37 = .ok (.aload_n 0, 1) := by decide +kernel
theorem d_Md_isMade_38 : decode b_Md_isMade 38 = .ok (.getfield 30, 3) := by decide +kernel
theorem d_Md_isMade_41 : decode b_Md_isMade 41 = .ok (.iload_n 2, 1) := by decide +kernel
theorem d_Md_isMade_42 : decode b_Md_isMade 42 = .ok (.iaload, 1) := by decide +kernel
theorem d_Md_isMade_43 : decode b_Md_isMade 43 = .ok (.ifCond .lt 7, 3) := by decide +kernel
theorem d_Md_isMade_46 : decode b_Md_isMade 46 = .ok (.iconst 1, 1) := by decide +kernel
theorem d_Md_isMade_47 : decode b_Md_isMade 47 = .ok (.goto 4, 3) := by decide +kernel
theorem d_Md_isMade_50 : decode b_Md_isMade 50 = .ok (.iconst 0, 1) := by decide +kernel
theorem d_Md_isMade_51 : decode b_Md_isMade 51 = .ok (.istore_n 3, 1) := by decide +kernel
theorem d_Md_isMade_52 : decode b_Md_isMade 52 = .ok (.iconst 0, 1) := by decide +kernel
theorem d_Md_isMade_53 : decode b_Md_isMade 53 = .ok (.istore 4, 2) := by decide +kernel
theorem d_Md_isMade_55 : decode b_Md_isMade 55 = .ok (.iload 4, 2) := by decide +kernel
theorem d_Md_isMade_57 : decode b_Md_isMade 57 = .ok (.iconst 3, 1) := by decide +kernel
theorem d_Md_isMade_58 : decode b_Md_isMade 58 = .ok (.aload_n 0, 1) := by decide +kernel
theorem d_Md_isMade_59 : decode b_Md_isMade 59 = .ok (.getfield 96, 3) := by decide +kernel
theorem d_Md_isMade_62 : decode b_Md_isMade 62 = .ok (.imul, 1) := by decide +kernel
theorem d_Md_isMade_63 : decode b_Md_isMade 63 = .ok (.iconst 3, 1) := by decide +kernel
theorem d_Md_isMade_64 : decode b_Md_isMade 64 = .ok (.isub, 1) := by decide +kernel
theorem d_Md_isMade_65 : decode b_Md_isMade 65 = .ok (.if_icmp .ge 35, 3) := by decide +kernel
theorem d_Md_isMade_68 : decode b_Md_isMade 68 = .ok (.iload_n 3, 1) := by decide +kernel
theorem d_Md_isMade_69 : decode b_Md_isMade 69 = .ok (.ifCond .ne 19, 3) := by decide +kernel
theorem d_Md_isMade_72 : decode b_Md_isMade 72 = .ok (.aload_n 0, 1) := by decide +kernel
theorem d_Md_isMade_73 : decode b_Md_isMade 73 = .ok (.getfield 30, 3) := by decide +kernel
theorem d_Md_isMade_76 : decode b_Md_isMade 76 = .ok (.iload 4, 2) := by decide +kernel
theorem d_Md_isMade_78 : decode b_Md_isMade 78 = .ok (.iaload, 1) := by decide +kernel
theorem d_Md_isMade_79 : decode b_Md_isMade 79 = .ok (.aload_n 0, 1) := by decide +kernel
theorem d_Md_isMade_80 : decode b_Md_isMade 80 = .ok (.getfield 30, 3) := by decide +kernel
theorem d_Md_isMade_83 : decode b_Md_isMade 83 = .ok (.iload_n 2, 1) := by decide +kernel
theorem d_Md_isMade_84 : decode b_Md_isMade 84 = .ok (.iaload, 1) := by decide +kernel
theorem d_Md_isMade_85 : decode b_Md_isMade 85 = .ok (.if_icmp .ne 7, 3) := by decide +kernel
theorem d_Md_isMade_88 : decode b_Md_isMade 88 = .ok (.iconst 1, 1) := by decide +kernel
theorem d_Md_isMade_89 : decode b_Md_isMade 89 = .ok (.goto 4, 3) := by decide +kernel
theorem d_Md_isMade_92 : decode b_Md_isMade 92 = .ok (.iconst 0, 1) := by decide +kernel
theorem d_Md_isMade_93 : decode b_Md_isMade 93 = .ok (.istore_n 3, 1) := by decide +kernel
theorem d_Md_isMade_94 : decode b_Md_isMade 94 = .ok (.iinc 4 1, 3) := by decide +kernel
theorem d_Md_isMade_97 : decode b_Md_isMade 97 = .ok (.goto (-42), 3) := by decide +kernel
theorem d_Md_isMade_100 : decode b_Md_isMade 100 = .ok (.iload_n 3, 1) := by decide +kernel
theorem d_Md_isMade_101 : decode b_Md_isMade 101 = .ok (.istore_n 1, 1) := by decide +kernel
theorem d_Md_isMade_102 : decode b_Md_isMade 102 = .ok (.iinc 2 1, 3) := by decide +kernel
theorem d_Md_isMade_105 : decode b_Md_isMade 105 = .ok (.goto (-82), 3) := by decide +kernel
theorem d_Md_isMade_108 : decode b_Md_isMade 108 = .ok (.iload_n 1, 1) := by decide +kernel
theorem d_Md_isMade_109 : decode b_Md_isMade 109 = .ok (.ireturn, 1) := by decide +kernel
theorem d_Md_rule_0 : decode b_Md_rule 0 = .ok (.aload_n 0, 1) := by decide +kernel
theorem d_Md_rule_1 : decode b_Md_rule 1 = .ok (.invokevirtual 99, 3) := by decide +kernel
theorem d_Md_rule_4 : decode b_Md_rule 4 = .ok (.ifCond .ne 10, 3) := by decide +kernel
theorem d_Md_rule_7 : decode b_Md_rule 7 = .ok (.aload_n 0, 1) := by decide +kernel
theorem d_Md_rule_8 : decode b_Md_rule 8 = .ok (.iconst 0, 1) := by decide +kernel
theorem d_Md_rule_9 : decode b_Md_rule 9 = .ok (.putfield 96, 3) := by decide +kernel
theorem d_Md_rule_12 : decode b_Md_rule 12 = .ok (.iconst (-1), 1) := by decide +kernel
theorem d_Md_rule_13 : decode b_Md_rule 13 = .ok (.ireturn, 1) := by decide +kernel
theorem d_Md_rule_14 : decode b_Md_rule 14 = .ok (.aload_n 0, 1) := by decide +kernel
theorem d_Md_rule_15 : decode b_Md_rule 15 = .ok (.getfield 77, 3) := by decide +kernel
theorem d_Md_rule_18 : decode b_Md_rule 18 = .ok (.bipush 12, 2) := by decide +kernel
theorem d_Md_rule_20 : decode b_Md_rule 20 = .ok (.if_icmp .ne 6, 3) := by decide +kernel
theorem d_Md_rule_23 : decode b_Md_rule 23 = .ok (.bipush (-3), 2) := by decide +kernel
theorem d_Md_rule_25 : decode b_Md_rule 25 = .ok (.ireturn, 1) := by decide +kernel
theorem d_Md_rule_26 : decode b_Md_rule 26 = .ok (.iconst 0, 1) := by decide +kernel
theorem d_Md_rule_27 : decode b_Md_rule 27 = .ok (.istore_n 1, 1) := by decide +kernel
theorem d_Md_rule_28 : decode b_Md_rule 28 = .ok (.iload_n 1, 1) := by decide +kernel
theorem d_Md_rule_29 : decode b_Md_rule 29 = .ok (.iconst 3, 1) := by decide +kernel
theorem d_Md_rule_30 : decode b_Md_rule 30 = .ok (.aload_n 0, 1) := by decide +kernel
theorem d_Md_rule_31 : decode b_Md_rule 31 = .ok (.getfield 96, 3) := by decide +kernel
theorem d_Md_rule_34 : decode b_Md_rule 34 = .ok (.imul, 1) := by decide +kernel
theorem d_Md_rule_35 : decode b_Md_rule 35 = .ok (.if_icmp .ge 29, 3) := by decide +kernel
theorem d_Md_rule_38 : decode b_Md_rule 38 = .ok (.aload_n 0, 1) := by decide +kernel
theorem d_Md_rule_39 : decode b_Md_rule 39 = .ok (.getfield 24, 3) := by decide +kernel
theorem d_Md_rule_42 : decode b_Md_rule 42 = .ok (.bipush 12, 2) := by decide +kernel
theorem d_Md_rule_44 : decode b_Md_rule 44 = .ok (.aload_n 0, 1) := by decide +kernel
theorem d_Md_rule_45 : decode b_Md_rule 45 = .ok (.getfield 77, 3) := by decide +kernel
theorem d_Md_rule_48 : decode b_Md_rule 48 = .ok (.imul, 1) := by decide +kernel
theorem d_Md_rule_49 : decode b_Md_rule 49 = .ok (.iload_n 1, 1) := by decide +kernel
theorem d_Md_rule_50 : decode b_Md_rule 50 = .ok (.iadd, 1) := by decide +kernel
theorem d_Md_rule_51 : decode b_Md_rule 51 = .ok (.aload_n 0, 1) := by decide +kernel
theorem d_Md_rule_52 : decode b_Md_rule 52 = .ok (.getfield 30, 3) := by decide +kernel
theorem d_Md_rule_55 : decode b_Md_rule 55 = .ok (.iload_n 1, 1) := by decide +kernel
theorem d_Md_rule_56 : decode b_Md_rule 56 = .ok (.iaload, 1) := by decide +kernel
theorem d_Md_rule_57 : decode b_Md_rule 57 = .ok (.iastore, 1) := by decide +kernel
theorem d_Md_rule_58 : decode b_Md_rule 58 = .ok (.iinc 1 1, 3) := by decide +kernel
theorem d_Md_rule_61 : decode b_Md_rule 61 = .ok (.goto (-33), 3) := by decide +kernel
theorem d_Md_rule_64 : decode b_Md_rule 64 = .ok (.aload_n 0, 1) := by decide +kernel
theorem d_Md_rule_65 : decode b_Md_rule 65 = .ok (.getfield 27, 3) := by decide +kernel
theorem d_Md_rule_68 : decode b_Md_rule 68 = .ok (.aload_n 0, 1) := by decide +kernel
theorem d_Md_rule_69 : decode b_Md_rule 69 = .ok (.getfield 77, 3) := by decide +kernel
theorem d_Md_rule_72 : decode b_Md_rule 72 = .ok (.aload_n 0, 1) := by decide +kernel
theorem d_Md_rule_73 : decode b_Md_rule 73 = .ok (.getfield 96, 3) := by decide +kernel
theorem d_Md_rule_76 : decode b_Md_rule 76 = .ok (.iconst 1, 1) := by decide +kernel
theorem d_Md_rule_77 : decode b_Md_rule 77 = .ok (.isub, 1) := by decide +kernel
theorem d_Md_rule_78 : decode b_Md_rule 78 = .ok (.iastore, 1) := by decide +kernel
theorem d_Md_rule_79 : decode b_Md_rule 79 = .ok (.aload_n 0, 1) := by decide +kernel
theorem d_Md_rule_80 : decode b_Md_rule 80 = .ok (.dup, 1) := by decide +kernel
theorem d_Md_rule_81 : decode b_Md_rule 81 = .ok (.getfield 77, 3) := by decide +kernel
theorem d_Md_rule_84 : decode b_Md_rule 84 = .ok (.iconst 1, 1) := by decide +kernel
theorem d_Md_rule_85 : decode b_Md_rule 85 = .ok (.iadd, 1) := by decide +kernel
theorem d_Md_rule_86 : decode b_Md_rule 86 = .ok (.putfield 77, 3) := by decide +kernel
theorem d_Md_rule_89 : decode b_Md_rule 89 = .ok (.aload_n 0, 1) := by decide +kernel
theorem d_Md_rule_90 : decode b_Md_rule 90 = .ok (.invokevirtual 89, 3) := by decide +kernel
theorem d_Md_rule_93 : decode b_Md_rule 93 = .ok (.ifCond .ne 21, 3) := by decide +kernel
theorem d_Md_rule_96 : decode b_Md_rule 96 = .ok (.aload_n 0, 1) := by decide +kernel
theorem d_Md_rule_97 : decode b_Md_rule 97 = .ok (.dup, 1) := by decide +kernel
theorem d_Md_rule_98 : decode b_Md_rule 98 = .ok (.getfield 77, 3) := by decide +kernel
theorem d_Md_rule_101 : decode b_Md_rule 101 = .ok (.iconst 1, 1) := by decide +kernel
theorem d_Md_rule_102 : decode b_Md_rule 102 = .ok (.isub, 1) := by decide +kernel
theorem d_Md_rule_103 : decode b_Md_rule 103 = .ok (.putfield 77, 3) := by decide +kernel
theorem d_Md_rule_106 : decode b_Md_rule 106 = .ok (.aload_n 0, 1) := by decide +kernel
theorem d_Md_rule_107 : decode b_Md_rule 107 = .ok (.invokevirtual 89, 3) := by decide +kernel
theorem d_Md_rule_110 : decode b_Md_rule 110 = .ok (.pop, 1) := by decide +kernel
theorem d_Md_rule_111 : decode b_Md_rule 111 = .ok (.bipush (-3), 2) := by decide +kernel
theorem d_Md_rule_113 : decode b_Md_rule 113 = .ok (.ireturn, 1) := by decide +kernel
theorem d_Md_rule_114 : decode b_Md_rule 114 = .ok (.aload_n 0, 1) := by decide +kernel
theorem d_Md_rule_115 : decode b_Md_rule 115 = .ok (.iconst 0, 1) := by decide +kernel
theorem d_Md_rule_116 : decode b_Md_rule 116 = .ok (.putfield 96, 3) := by decide +kernel
theorem d_Md_rule_119 : decode b_Md_rule 119 = .ok (.aload_n 0, 1) := by decide +kernel
theorem d_Md_rule_120 : decode b_Md_rule 120 = .ok (.getfield 77, 3) := by decide +kernel
theorem d_Md_rule_123 : decode b_Md_rule 123 = .ok (.iconst 1, 1) := by decide +kernel
theorem d_Md_rule_124 : decode b_Md_rule 124 = .ok (.isub, 1) := by decide +kernel
theorem d_Md_rule_125 : decode b_Md_rule 125 = .ok (.ireturn, 1) := by decide +kernel
theorem d_Md_unrule_0 : decode b_Md_unrule 0 = .ok (.iload_n 1, 1) := by decide +kernel
theorem d_Md_unrule_1 : decode b_Md_unrule 1 = .ok (.ifCond .lt 11, 3) := by decide +kernel
theorem d_Md_unrule_4 : decode b_Md_unrule 4 = .ok (.iload_n 1, 1) := by decide +kernel
theorem d_Md_unrule_5 : decode b_Md_unrule 5 = .ok (.aload_n 0, 1) := by decide +kernel
theorem d_Md_unrule_6 : decode b_Md_unrule 6 = .ok (.getfield 77, 3) := by decide +kernel
theorem d_Md_unrule_9 : decode b_Md_unrule 9 = .ok (.if_icmp .lt 5, 3) := by decide +kernel
theorem d_Md_unrule_12 : decode b_Md_unrule 12 = .ok (.iconst (-1), 1) := by decide +kernel
theorem d_Md_unrule_13 : decode b_Md_unrule 13 = .ok (.ireturn, 1) := by decide +kernel
theorem d_Md_unrule_14 : decode b_Md_unrule 14 = .ok (.aload_n 0, 1) := by decide +kernel
theorem d_Md_unrule_15 : decode b_Md_unrule 15 = .ok (.dup, 1) := by decide +kernel
theorem d_Md_unrule_16 : decode b_Md_unrule 16 = .ok (.getfield 77, 3) := by decide +kernel
theorem d_Md_unrule_19 : decode b_Md_unrule 19 = .ok (.iconst 1, 1) := by decide +kernel
theorem d_Md_unrule_20 : decode b_Md_unrule 20 = .ok (.isub, 1) := by decide +kernel
theorem d_Md_unrule_21 : decode b_Md_unrule 21 = .ok (.putfield 77, 3) := by decide +kernel
theorem d_Md_unrule_24 : decode b_Md_unrule 24 = .ok (.iload_n 1, 1) := by decide +kernel
theorem d_Md_unrule_25 : decode b_Md_unrule 25 = .ok (.istore_n 2, 1) := by decide +kernel
theorem d_Md_unrule_26 : decode b_Md_unrule 26 = .ok (.iload_n 2, 1) := by decide +kernel
theorem d_Md_unrule_27 : decode b_Md_unrule 27 = .ok (.aload_n 0, 1) := by decide +kernel
theorem d_Md_unrule_28 : decode b_Md_unrule 28 = .ok (.getfield 77, 3) := by decide +kernel
theorem d_Md_unrule_31 : decode b_Md_unrule 31 = .ok (.if_icmp .ge 62, 3) := by decide +kernel
theorem d_Md_unrule_34 : decode b_Md_unrule 34 = .ok (.aload_n 0, 1) := by decide +kernel
theorem d_Md_unrule_35 : decode b_Md_unrule 35 = .ok (.getfield 27, 3) := by decide +kernel
theorem d_Md_unrule_38 : decode b_Md_unrule 38 = .ok (.iload_n 2, 1) := by decide +kernel
theorem d_Md_unrule_39 : decode b_Md_unrule 39 = .ok (.aload_n 0, 1) := by decide +kernel
theorem d_Md_unrule_40 : decode b_Md_unrule 40 = .ok (.getfield 27, 3) := by decide +kernel
theorem d_Md_unrule_43 : decode b_Md_unrule 43 = .ok (.iload_n 2, 1) := by decide +kernel
theorem d_Md_unrule_44 : decode b_Md_unrule 44 = .ok (.iconst 1, 1) := by decide +kernel
theorem d_Md_unrule_45 : decode b_Md_unrule 45 = .ok (.iadd, 1) := by decide +kernel
theorem d_Md_unrule_46 : decode b_Md_unrule 46 = .ok (.iaload, 1) := by decide +kernel
theorem d_Md_unrule_47 : decode b_Md_unrule 47 = .ok (.iastore, 1) := by decide +kernel
theorem d_Md_unrule_48 : decode b_Md_unrule 48 = .ok (.iconst 0, 1) := by decide +kernel
theorem d_Md_unrule_49 : decode b_Md_unrule 49 = .ok (.istore_n 3, 1) := by decide +kernel
theorem d_Md_unrule_50 : decode b_Md_unrule 50 = .ok (.iload_n 3, 1) := by decide +kernel
theorem d_Md_unrule_51 : decode b_Md_unrule 51 = .ok (.bipush 12, 2) := by decide +kernel
theorem d_Md_unrule_53 : decode b_Md_unrule 53 = .ok (.if_icmp .ge 34, 3) := by decide +kernel
theorem d_Md_unrule_56 : decode b_Md_unrule 56 = .ok (.aload_n 0, 1) := by decide +kernel
theorem d_Md_unrule_57 : decode b_Md_unrule 57 = .ok (.getfield 24, 3) := by decide +kernel
theorem d_Md_unrule_60 : decode b_Md_unrule 60 = .ok (.bipush 12, 2) := by decide +kernel
theorem d_Md_unrule_62 : decode b_Md_unrule 62 = .ok (.iload_n 2, 1) := by decide +kernel
theorem d_Md_unrule_63 : decode b_Md_unrule 63 = .ok (.imul, 1) := by decide +kernel
theorem d_Md_unrule_64 : decode b_Md_unrule 64 = .ok (.iload_n 3, 1) := by decide +kernel
theorem d_Md_unrule_65 : decode b_Md_unrule 65 = .ok (.iadd, 1) := by decide +kernel
theorem d_Md_unrule_66 : decode b_Md_unrule 66 = .ok (.aload_n 0, 1) := by decide +kernel
theorem d_Md_unrule_67 : decode b_Md_unrule 67 = .ok (.getfield 24, 3) := by decide +kernel
theorem d_Md_unrule_70 : decode b_Md_unrule 70 = .ok (.bipush 12, 2) := by decide +kernel
theorem d_Md_unrule_72 : decode b_Md_unrule 72 = .ok (.iload_n 2, 1) := by decide +kernel
theorem d_Md_unrule_73 : decode b_Md_unrule 73 = .ok (.imul, 1) := by decide +kernel
theorem d_Md_unrule_74 : decode b_Md_unrule 74 = .ok (.bipush 12, 2) := by decide +kernel
theorem d_Md_unrule_76 : decode b_Md_unrule 76 = .ok (.iadd, 1) := by decide +kernel
theorem d_Md_unrule_77 : decode b_Md_unrule 77 = .ok (.iload_n 3, 1) := by decide +kernel
theorem d_Md_unrule_78 : decode b_Md_unrule 78 = .ok (.iadd, 1) := by decide +kernel
theorem d_Md_unrule_79 : decode b_Md_unrule 79 = .ok (.iaload, 1) := by decide +kernel
theorem d_Md_unrule_80 : decode b_Md_unrule 80 = .ok (.iastore, 1) := by decide +kernel
theorem d_Md_unrule_81 : decode b_Md_unrule 81 = .ok (.iinc 3 1, 3) := by decide +kernel
theorem d_Md_unrule_84 : decode b_Md_unrule 84 = .ok (.goto (-34), 3) := by decide +kernel
theorem d_Md_unrule_87 : decode b_Md_unrule 87 = .ok (.iinc 2 1, 3) := by decide +kernel
theorem d_Md_unrule_90 : decode b_Md_unrule 90 = .ok (.goto (-64), 3) := by decide +kernel
theorem d_Md_unrule_93 : decode b_Md_unrule 93 = .ok (.aload_n 0, 1) := by decide +kernel
theorem d_Md_unrule_94 : decode b_Md_unrule 94 = .ok (.invokevirtual 89, 3) := by decide +kernel
theorem d_Md_unrule_97 : decode b_Md_unrule 97 = .ok (.pop, 1) := by decide +kernel
theorem d_Md_unrule_98 : decode b_Md_unrule 98 = .ok (.aload_n 0, 1) := by decide +kernel
theorem d_Md_unrule_99 : decode b_Md_unrule 99 = .ok (.getfield 77, 3) := by decide +kernel
theorem d_Md_unrule_102 : decode b_Md_unrule 102 = .ok (.ireturn, 1) := by decide +kernel
theorem d_Md_rules_0 : decode b_Md_rules 0 = .ok (.aload_n 0, 1) := by decide +kernel
theorem d_Md_rules_1 : decode b_Md_rules 1 = .ok (.getfield 77, 3) := by decide +kernel
theorem d_Md_rules_4 : decode b_Md_rules 4 = .ok (.ireturn, 1) := by decide +kernel
theorem d_Md_holds_0 : decode b_Md_holds 0 = .ok (.iload_n 1, 1) := by decide +kernel
theorem d_Md_holds_1 : decode b_Md_holds 1 = .ok (.invokestatic 86, 3) := by decide +kernel
theorem d_Md_holds_4 : decode b_Md_holds 4 = .ok (.ifCond .eq 17, 3) := by decide +kernel
theorem d_Md_holds_7 : decode b_Md_holds 7 = .ok (.iload_n 2, 1) := by decide +kernel
theorem d_Md_holds_8 : decode b_Md_holds 8 = .ok (.invokestatic 86, 3) := by decide +kernel
theorem d_Md_holds_11 : decode b_Md_holds 11 = .ok (.ifCond .eq 10, 3) := by decide +kernel
theorem d_Md_holds_14 : decode b_Md_holds 14 = .ok (.iload_n 3, 1) := by decide +kernel
theorem d_Md_holds_15 : decode b_Md_holds 15 = .ok (.invokestatic 86, 3) := by decide +kernel
theorem d_Md_holds_18 : decode b_Md_holds 18 = .ok (.ifCond .ne 5, 3) := by decide +kernel
theorem d_Md_holds_21 : decode b_Md_holds 21 = .ok (.iconst (-1), 1) := by decide +kernel
theorem d_Md_holds_22 : decode b_Md_holds 22 = .ok (.ireturn, 1) := by decide +kernel
theorem d_Md_holds_23 : decode b_Md_holds 23 = .ok (.iload_n 1, 1) := by decide +kernel
theorem d_Md_holds_24 : decode b_Md_holds 24 = .ok (.iload_n 2, 1) := by decide +kernel
theorem d_Md_holds_25 : decode b_Md_holds 25 = .ok (.iload_n 3, 1) := by decide +kernel
theorem d_Md_holds_26 : decode b_Md_holds 26 = .ok (.invokestatic 69, 3) := by decide +kernel
theorem d_Md_holds_29 : decode b_Md_holds 29 = .ok (.istore 4, 2) := by decide +kernel
theorem d_Md_holds_31 : decode b_Md_holds 31 = .ok (.aload_n 0, 1) := by decide +kernel
theorem d_Md_holds_32 : decode b_Md_holds 32 = .ok (.getfield 8, 3) := by decide +kernel
theorem d_Md_holds_35 : decode b_Md_holds 35 = .ok (.iload 4, 2) := by decide +kernel
theorem d_Md_holds_37 : decode b_Md_holds 37 = .ok (.baload, 1) := by decide +kernel
theorem d_Md_holds_38 : decode b_Md_holds 38 = .ok (.ifCond .eq 7, 3) := by decide +kernel
theorem d_Md_holds_41 : decode b_Md_holds 41 = .ok (.iconst 1, 1) := by decide +kernel
theorem d_Md_holds_42 : decode b_Md_holds 42 = .ok (.goto 18, 3) := by decide +kernel
theorem d_Md_holds_45 : decode b_Md_holds 45 = .ok (.aload_n 0, 1) := by decide +kernel
theorem d_Md_holds_46 : decode b_Md_holds 46 = .ok (.getfield 14, 3) := by decide +kernel
theorem d_Md_holds_49 : decode b_Md_holds 49 = .ok (.iload 4, 2) := by decide +kernel
theorem d_Md_holds_51 : decode b_Md_holds 51 = .ok (.baload, 1) := by decide +kernel
theorem d_Md_holds_52 : decode b_Md_holds 52 = .ok (.ifCond .eq 7, 3) := by decide +kernel
theorem d_Md_holds_55 : decode b_Md_holds 55 = .ok (.iconst 2, 1) := by decide +kernel
theorem d_Md_holds_56 : decode b_Md_holds 56 = .ok (.goto 4, 3) := by decide +kernel
theorem d_Md_holds_59 : decode b_Md_holds 59 = .ok (.iconst 0, 1) := by decide +kernel
theorem d_Md_holds_60 : decode b_Md_holds 60 = .ok (.ireturn, 1) := by decide +kernel
theorem d_Md_support_0 : decode b_Md_support 0 = .ok (.iload_n 1, 1) := by decide +kernel
theorem d_Md_support_1 : decode b_Md_support 1 = .ok (.invokestatic 86, 3) := by decide +kernel
theorem d_Md_support_4 : decode b_Md_support 4 = .ok (.ifCond .eq 31, 3) := by decide +kernel
theorem d_Md_support_7 : decode b_Md_support 7 = .ok (.iload_n 2, 1) := by decide +kernel
theorem d_Md_support_8 : decode b_Md_support 8 = .ok (.invokestatic 86, 3) := by decide +kernel
theorem d_Md_support_11 : decode b_Md_support 11 = .ok (.ifCond .eq 24, 3) := by decide +kernel
theorem d_Md_support_14 : decode b_Md_support 14 = .ok (.iload_n 3, 1) := by decide +kernel
theorem d_Md_support_15 : decode b_Md_support 15 = .ok (.invokestatic 86, 3) := by decide +kernel
theorem d_Md_support_18 : decode b_Md_support 18 = .ok (.ifCond .eq 17, 3) := by decide +kernel
theorem d_Md_support_21 : decode b_Md_support 21 = .ok (.aload_n 0, 1) := by decide +kernel
theorem d_Md_support_22 : decode b_Md_support 22 = .ok (.getfield 17, 3) := by decide +kernel
theorem d_Md_support_25 : decode b_Md_support 25 = .ok (.iload_n 1, 1) := by decide +kernel
theorem d_Md_support_26 : decode b_Md_support 26 = .ok (.iload_n 2, 1) := by decide +kernel
theorem d_Md_support_27 : decode b_Md_support 27 = .ok (.iload_n 3, 1) := by decide +kernel
theorem d_Md_support_28 : decode b_Md_support 28 = .ok (.invokestatic 69, 3) := by decide +kernel
theorem d_Md_support_31 : decode b_Md_support 31 = .ok (.iaload, 1) := by decide +kernel
theorem d_Md_support_32 : decode b_Md_support 32 = .ok (.goto 4, 3) := by decide +kernel
theorem d_Md_support_35 : decode b_Md_support 35 = .ok (.iconst (-1), 1) := by decide +kernel
theorem d_Md_support_36 : decode b_Md_support 36 = .ok (.ireturn, 1) := by decide +kernel
theorem d_Md_size_0 : decode b_Md_size 0 = .ok (.aload_n 0, 1) := by decide +kernel
theorem d_Md_size_1 : decode b_Md_size 1 = .ok (.getfield 53, 3) := by decide +kernel
theorem d_Md_size_4 : decode b_Md_size 4 = .ok (.ireturn, 1) := by decide +kernel
theorem d_Md_next_0 : decode b_Md_next 0 = .ok (.iload_n 1, 1) := by decide +kernel
theorem d_Md_next_1 : decode b_Md_next 1 = .ok (.ifCond .ge 7, 3) := by decide +kernel
theorem d_Md_next_4 : decode b_Md_next 4 = .ok (.iconst 0, 1) := by decide +kernel
theorem d_Md_next_5 : decode b_Md_next 5 = .ok (.goto 4, 3) := by decide +kernel
theorem d_Md_next_8 : decode b_Md_next 8 = .ok (.iload_n 1, 1) := by decide +kernel
theorem d_Md_next_9 : decode b_Md_next 9 = .ok (.istore_n 2, 1) := by decide +kernel
theorem d_Md_next_10 : decode b_Md_next 10 = .ok (.iload_n 2, 1) := by decide +kernel
theorem d_Md_next_11 : decode b_Md_next 11 = .ok (.ldc 7, 2) := by decide +kernel
theorem d_Md_next_13 : decode b_Md_next 13 = .ok (.if_icmp .ge 25, 3) := by decide +kernel
theorem d_Md_next_16 : decode b_Md_next 16 = .ok (.iload_n 2, 1) := by decide +kernel
theorem d_Md_next_17 : decode b_Md_next 17 = .ok (.iload_n 1, 1) := by decide +kernel
theorem d_Md_next_18 : decode b_Md_next 18 = .ok (.if_icmp .le 14, 3) := by decide +kernel
theorem d_Md_next_21 : decode b_Md_next 21 = .ok (.aload_n 0, 1) := by decide +kernel
theorem d_Md_next_22 : decode b_Md_next 22 = .ok (.getfield 14, 3) := by decide +kernel
theorem d_Md_next_25 : decode b_Md_next 25 = .ok (.iload_n 2, 1) := by decide +kernel
theorem d_Md_next_26 : decode b_Md_next 26 = .ok (.baload, 1) := by decide +kernel
theorem d_Md_next_27 : decode b_Md_next 27 = .ok (.ifCond .eq 5, 3) := by decide +kernel
theorem d_Md_next_30 : decode b_Md_next 30 = .ok (.iload_n 2, 1) := by decide +kernel
theorem d_Md_next_31 : decode b_Md_next 31 = .ok (.ireturn, 1) := by decide +kernel
theorem d_Md_next_32 : decode b_Md_next 32 = .ok (.iinc 2 1, 3) := by decide +kernel
theorem d_Md_next_35 : decode b_Md_next 35 = .ok (.goto (-25), 3) := by decide +kernel
theorem d_Md_next_38 : decode b_Md_next 38 = .ok (.bipush (-2), 2) := by decide +kernel
theorem d_Md_next_40 : decode b_Md_next 40 = .ok (.ireturn, 1) := by decide +kernel
theorem d_Md_fitting_0 : decode b_Md_fitting 0 = .ok (.iload_n 1, 1) := by decide +kernel
theorem d_Md_fitting_1 : decode b_Md_fitting 1 = .ok (.invokestatic 93, 3) := by decide +kernel
theorem d_Md_fitting_4 : decode b_Md_fitting 4 = .ok (.ifCond .eq 17, 3) := by decide +kernel
theorem d_Md_fitting_7 : decode b_Md_fitting 7 = .ok (.iload_n 2, 1) := by decide +kernel
theorem d_Md_fitting_8 : decode b_Md_fitting 8 = .ok (.invokestatic 93, 3) := by decide +kernel
theorem d_Md_fitting_11 : decode b_Md_fitting 11 = .ok (.ifCond .eq 10, 3) := by decide +kernel
theorem d_Md_fitting_14 : decode b_Md_fitting 14 = .ok (.iload_n 3, 1) := by decide +kernel
theorem d_Md_fitting_15 : decode b_Md_fitting 15 = .ok (.invokestatic 93, 3) := by decide +kernel
theorem d_Md_fitting_18 : decode b_Md_fitting 18 = .ok (.ifCond .ne 5, 3) := by decide +kernel
theorem d_Md_fitting_21 : decode b_Md_fitting 21 = .ok (.iconst (-1), 1) := by decide +kernel
theorem d_Md_fitting_22 : decode b_Md_fitting 22 = .ok (.ireturn, 1) := by decide +kernel
theorem d_Md_fitting_23 : decode b_Md_fitting 23 = .ok (.aload_n 0, 1) := by decide +kernel
theorem d_Md_fitting_24 : decode b_Md_fitting 24 = .ok (.getfield 42, 3) := by decide +kernel
theorem d_Md_fitting_27 : decode b_Md_fitting 27 = .ok (.iconst 0, 1) := by decide +kernel
theorem d_Md_fitting_28 : decode b_Md_fitting 28 = .ok (.iload_n 1, 1) := by decide +kernel
theorem d_Md_fitting_29 : decode b_Md_fitting 29 = .ok (.iastore, 1) := by decide +kernel
theorem d_Md_fitting_30 : decode b_Md_fitting 30 = .ok (.aload_n 0, 1) := by decide +kernel
theorem d_Md_fitting_31 : decode b_Md_fitting 31 = .ok (.getfield 42, 3) := by decide +kernel
theorem d_Md_fitting_34 : decode b_Md_fitting 34 = .ok (.iconst 1, 1) := by decide +kernel
theorem d_Md_fitting_35 : decode b_Md_fitting 35 = .ok (.iload_n 2, 1) := by decide +kernel
theorem d_Md_fitting_36 : decode b_Md_fitting 36 = .ok (.iastore, 1) := by decide +kernel
theorem d_Md_fitting_37 : decode b_Md_fitting 37 = .ok (.aload_n 0, 1) := by decide +kernel
theorem d_Md_fitting_38 : decode b_Md_fitting 38 = .ok (.getfield 42, 3) := by decide +kernel
theorem d_Md_fitting_41 : decode b_Md_fitting 41 = .ok (.iconst 2, 1) := by decide +kernel
theorem d_Md_fitting_42 : decode b_Md_fitting 42 = .ok (.iload_n 3, 1) := by decide +kernel
theorem d_Md_fitting_43 : decode b_Md_fitting 43 = .ok (.iastore, 1) := by decide +kernel
theorem d_Md_fitting_44 : decode b_Md_fitting 44 = .ok (.iconst 0, 1) := by decide +kernel
theorem d_Md_fitting_45 : decode b_Md_fitting 45 = .ok (.istore 4, 2) := by decide +kernel
theorem d_Md_fitting_47 : decode b_Md_fitting 47 = .ok (.iconst 0, 1) := by decide +kernel
theorem d_Md_fitting_48 : decode b_Md_fitting 48 = .ok (.istore 5, 2) := by decide +kernel
theorem d_Md_fitting_50 : decode b_Md_fitting 50 = .ok (.iload 5, 2) := by decide +kernel
theorem d_Md_fitting_52 : decode b_Md_fitting 52 = .ok (.aload_n 0, 1) := by decide +kernel
theorem d_Md_fitting_53 : decode b_Md_fitting 53 = .ok (.getfield 53, 3) := by decide +kernel
theorem d_Md_fitting_56 : decode b_Md_fitting 56 = .ok (.if_icmp .ge 42, 3) := by decide +kernel
theorem d_Md_fitting_59 : decode b_Md_fitting 59 = .ok (.aload_n 0, 1) := by decide +kernel
theorem d_Md_fitting_60 : decode b_Md_fitting 60 = .ok (.invokevirtual 80, 3) := by decide +kernel
theorem d_Md_fitting_63 : decode b_Md_fitting 63 = .ok (.iload 4, 2) := by decide +kernel
theorem d_Md_fitting_65 : decode b_Md_fitting 65 = .ok (.aload_n 0, 1) := by decide +kernel
theorem d_Md_fitting_66 : decode b_Md_fitting 66 = .ok (.aload_n 0, 1) := by decide +kernel
theorem d_Md_fitting_67 : decode b_Md_fitting 67 = .ok (.getfield 42, 3) := by decide +kernel
theorem d_Md_fitting_70 : decode b_Md_fitting 70 = .ok (.iconst 0, 1) := by decide +kernel
theorem d_Md_fitting_71 : decode b_Md_fitting 71 = .ok (.aload_n 0, 1) := by decide +kernel
theorem d_Md_fitting_72 : decode b_Md_fitting 72 = .ok (.getfield 21, 3) := by decide +kernel
theorem d_Md_fitting_75 : decode b_Md_fitting 75 = .ok (.iload 5, 2) := by decide +kernel
theorem d_Md_fitting_77 : decode b_Md_fitting 77 = .ok (.iaload, 1) := by decide +kernel
theorem d_Md_fitting_78 : decode b_Md_fitting 78 = .ok (.invokevirtual 57, 3) := by decide +kernel
theorem d_Md_fitting_81 : decode b_Md_fitting 81 = .ok (.ifCond .eq 7, 3) := by decide +kernel
theorem d_Md_fitting_84 : decode b_Md_fitting 84 = .ok (.iconst 1, 1) := by decide +kernel
theorem d_Md_fitting_85 : decode b_Md_fitting 85 = .ok (.goto 4, 3) := by decide +kernel
theorem d_Md_fitting_88 : decode b_Md_fitting 88 = .ok (.iconst 0, 1) := by decide +kernel
theorem d_Md_fitting_89 : decode b_Md_fitting 89 = .ok (.iadd, 1) := by decide +kernel
theorem d_Md_fitting_90 : decode b_Md_fitting 90 = .ok (.istore 4, 2) := by decide +kernel
theorem d_Md_fitting_92 : decode b_Md_fitting 92 = .ok (.iinc 5 1, 3) := by decide +kernel
theorem d_Md_fitting_95 : decode b_Md_fitting 95 = .ok (.goto (-45), 3) := by decide +kernel
theorem d_Md_fitting_98 : decode b_Md_fitting 98 = .ok (.iload 4, 2) := by decide +kernel
theorem d_Md_fitting_100 : decode b_Md_fitting 100 = .ok (.ireturn, 1) := by decide +kernel
theorem d_Md_clear_0 : decode b_Md_clear 0 = .ok (.iconst 0, 1) := by decide +kernel
theorem d_Md_clear_1 : decode b_Md_clear 1 = .ok (.istore_n 1, 1) := by decide +kernel
theorem d_Md_clear_2 : decode b_Md_clear 2 = .ok (.iconst 0, 1) := by decide +kernel
theorem d_Md_clear_3 : decode b_Md_clear 3 = .ok (.istore_n 2, 1) := by decide +kernel
theorem d_Md_clear_4 : decode b_Md_clear 4 = .ok (.iload_n 2, 1) := by decide +kernel
theorem d_Md_clear_5 : decode b_Md_clear 5 = .ok (.ldc 7, 2) := by decide +kernel
theorem d_Md_clear_7 : decode b_Md_clear 7 = .ok (.if_icmp .ge 33, 3) := by decide +kernel
theorem d_Md_clear_10 : decode b_Md_clear 10 = .ok (.iload_n 1, 1) := by decide +kernel
theorem d_Md_clear_11 : decode b_Md_clear 11 = .ok (.aload_n 0, 1) := by decide +kernel
theorem d_Md_clear_12 : decode b_Md_clear 12 = .ok (.getfield 8, 3) := by decide +kernel
theorem d_Md_clear_15 : decode b_Md_clear 15 = .ok (.iload_n 2, 1) := by decide +kernel
theorem d_Md_clear_16 : decode b_Md_clear 16 = .ok (.baload, 1) := by decide +kernel
theorem d_Md_clear_17 : decode b_Md_clear 17 = .ok (.ifCond .eq 7, 3) := by decide +kernel
theorem d_Md_clear_20 : decode b_Md_clear 20 = .ok (.iconst 1, 1) := by decide +kernel
theorem d_Md_clear_21 : decode b_Md_clear 21 = .ok (.goto 4, 3) := by decide +kernel
theorem d_Md_clear_24 : decode b_Md_clear 24 = .ok (.iconst 0, 1) := by decide +kernel
theorem d_Md_clear_25 : decode b_Md_clear 25 = .ok (.iadd, 1) := by decide +kernel
theorem d_Md_clear_26 : decode b_Md_clear 26 = .ok (.istore_n 1, 1) := by decide +kernel
theorem d_Md_clear_27 : decode b_Md_clear 27 = .ok (.aload_n 0, 1) := by decide +kernel
theorem d_Md_clear_28 : decode b_Md_clear 28 = .ok (.getfield 8, 3) := by decide +kernel
theorem d_Md_clear_31 : decode b_Md_clear 31 = .ok (.iload_n 2, 1) := by decide +kernel
theorem d_Md_clear_32 : decode b_Md_clear 32 = .ok (.iconst 0, 1) := by decide +kernel
theorem d_Md_clear_33 : decode b_Md_clear 33 = .ok (.bastore, 1) := by decide +kernel
theorem d_Md_clear_34 : decode b_Md_clear 34 = .ok (.iinc 2 1, 3) := by decide +kernel
theorem d_Md_clear_37 : decode b_Md_clear 37 = .ok (.goto (-33), 3) := by decide +kernel
theorem d_Md_clear_40 : decode b_Md_clear 40 = .ok (.aload_n 0, 1) := by decide +kernel
theorem d_Md_clear_41 : decode b_Md_clear 41 = .ok (.invokevirtual 89, 3) := by decide +kernel
theorem d_Md_clear_44 : decode b_Md_clear 44 = .ok (.pop, 1) := by decide +kernel
theorem d_Md_clear_45 : decode b_Md_clear 45 = .ok (.iload_n 1, 1) := by decide +kernel
theorem d_Md_clear_46 : decode b_Md_clear 46 = .ok (.ireturn, 1) := by decide +kernel
