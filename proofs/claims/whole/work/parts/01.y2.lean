theorem d_Sv_init_0 : decode b_Sv_init 0 = .ok (.aload_n 0, 1) := by decide +kernel
theorem d_Sv_init_1 : decode b_Sv_init 1 = .ok (.invokespecial 3, 3) := by decide +kernel
theorem d_Sv_init_4 : decode b_Sv_init 4 = .ok (.aload_n 0, 1) := by decide +kernel
theorem d_Sv_init_5 : decode b_Sv_init 5 = .ok (.new 9, 3) := by decide +kernel
theorem d_Sv_init_8 : decode b_Sv_init 8 = .ok (.dup, 1) := by decide +kernel
theorem d_Sv_init_9 : decode b_Sv_init 9 = .ok (.invokespecial 11, 3) := by decide +kernel
theorem d_Sv_init_12 : decode b_Sv_init 12 = .ok (.putfield 12, 3) := by decide +kernel
theorem d_Sv_init_15 : decode b_Sv_init 15 = .ok (.aload_n 0, 1) := by decide +kernel
theorem d_Sv_init_16 : decode b_Sv_init 16 = .ok (.bipush 8, 2) := by decide +kernel
theorem d_Sv_init_18 : decode b_Sv_init 18 = .ok (.newarray .int, 2) := by decide +kernel
theorem d_Sv_init_20 : decode b_Sv_init 20 = .ok (.putfield 18, 3) := by decide +kernel
theorem d_Sv_init_23 : decode b_Sv_init 23 = .ok (.aload_n 0, 1) := by decide +kernel
theorem d_Sv_init_24 : decode b_Sv_init 24 = .ok (.iconst 3, 1) := by decide +kernel
theorem d_Sv_init_25 : decode b_Sv_init 25 = .ok (.anewarray 22, 3) := by decide +kernel
theorem d_Sv_init_28 : decode b_Sv_init 28 = .ok (.putfield 24, 3) := by decide +kernel
theorem d_Sv_init_31 : decode b_Sv_init 31 = .ok (.aload_n 0, 1) := by decide +kernel
theorem d_Sv_init_32 : decode b_Sv_init 32 = .ok (.iconst 0, 1) := by decide +kernel
theorem d_Sv_init_33 : decode b_Sv_init 33 = .ok (.putfield 28, 3) := by decide +kernel
theorem d_Sv_init_36 : decode b_Sv_init 36 = .ok (.iconst 0, 1) := by decide +kernel
theorem d_Sv_init_37 : decode b_Sv_init 37 = .ok (.istore_n 1, 1) := by decide +kernel
theorem d_Sv_init_38 : decode b_Sv_init 38 = .ok (.iload_n 1, 1) := by decide +kernel
theorem d_Sv_init_39 : decode b_Sv_init 39 = .ok (.iconst 3, 1) := by decide +kernel
theorem d_Sv_init_40 : decode b_Sv_init 40 = .ok (.if_icmp .ge 22, 3) := by decide +kernel
theorem d_Sv_init_43 : decode b_Sv_init 43 = .ok (.aload_n 0, 1) := by decide +kernel
theorem d_Sv_init_44 : decode b_Sv_init 44 = .ok (.getfield 24, 3) := by decide +kernel
theorem d_Sv_init_47 : decode b_Sv_init 47 = .ok (.iload_n 1, 1) := by decide +kernel
theorem d_Sv_init_48 : decode b_Sv_init 48 = .ok (.new 22, 3) := by decide +kernel
theorem d_Sv_init_51 : decode b_Sv_init 51 = .ok (.dup, 1) := by decide +kernel
theorem d_Sv_init_52 : decode b_Sv_init 52 = .ok (.invokespecial 32, 3) := by decide +kernel
theorem d_Sv_init_55 : decode b_Sv_init 55 = .ok (.aastore, 1) := by decide +kernel
theorem d_Sv_init_56 : decode b_Sv_init 56 = .ok (.iinc 1 1, 3) := by decide +kernel
theorem d_Sv_init_59 : decode b_Sv_init 59 = .ok (.goto (-21), 3) := by decide +kernel
theorem d_Sv_init_62 : decode b_Sv_init 62 = .ok (.return_, 1) := by decide +kernel
theorem d_Sv_derive_0 : decode b_Sv_derive 0 = .ok (.aload_n 1, 1) := by decide +kernel
theorem d_Sv_derive_1 : decode b_Sv_derive 1 = .ok (.getfield 33, 3) := by decide +kernel
theorem d_Sv_derive_4 : decode b_Sv_derive 4 = .ok (.iload_n 2, 1) := by decide +kernel
theorem d_Sv_derive_5 : decode b_Sv_derive 5 = .ok (.aaload, 1) := by decide +kernel
theorem d_Sv_derive_6 : decode b_Sv_derive 6 = .ok (.astore 4, 2) := by decide +kernel
theorem d_Sv_derive_8 : decode b_Sv_derive 8 = .ok (.aload_n 0, 1) := by decide +kernel
theorem d_Sv_derive_9 : decode b_Sv_derive 9 = .ok (.getfield 12, 3) := by decide +kernel
theorem d_Sv_derive_12 : decode b_Sv_derive 12 = .ok (.getfield 39, 3) := by decide +kernel
theorem d_Sv_derive_15 : decode b_Sv_derive 15 = .ok (.iload_n 3, 1) := by decide +kernel
theorem d_Sv_derive_16 : decode b_Sv_derive 16 = .ok (.iaload, 1) := by decide +kernel
theorem d_Sv_derive_17 : decode b_Sv_derive 17 = .ok (.istore 5, 2) := by decide +kernel
theorem d_Sv_derive_19 : decode b_Sv_derive 19 = .ok (.aload 4, 2) := by decide +kernel
theorem d_Sv_derive_21 : decode b_Sv_derive 21 = .ok (.iload 5, 2) := by decide +kernel
theorem d_Sv_derive_23 : decode b_Sv_derive 23 = .ok (.invokevirtual 42, 3) := by decide +kernel
theorem d_Sv_derive_26 : decode b_Sv_derive 26 = .ok (.ifCond .ne 5, 3) := by decide +kernel
theorem d_Sv_derive_29 : decode b_Sv_derive 29 = .ok (.iconst 1, 1) := by decide +kernel
theorem d_Sv_derive_30 : decode b_Sv_derive 30 = .ok (.ireturn, 1) := by decide +kernel
theorem d_Sv_derive_31 : decode b_Sv_derive 31 = .ok (.aload_n 1, 1) := by decide +kernel
theorem d_Sv_derive_32 : decode b_Sv_derive 32 = .ok (.getfield 48, 3) := by decide +kernel
theorem d_Sv_derive_35 : decode b_Sv_derive 35 = .ok (.iload_n 2, 1) := by decide +kernel
theorem d_Sv_derive_36 : decode b_Sv_derive 36 = .ok (.iaload, 1) := by decide +kernel
theorem d_Sv_derive_37 : decode b_Sv_derive 37 = .ok (.istore 6, 2) := by decide +kernel
theorem d_Sv_derive_39 : decode b_Sv_derive 39 = .ok (.aload 4, 2) := by decide +kernel
theorem d_Sv_derive_41 : decode b_Sv_derive 41 = .ok (.iload 5, 2) := by decide +kernel
theorem d_Sv_derive_43 : decode b_Sv_derive 43 = .ok (.iload 6, 2) := by decide +kernel
theorem d_Sv_derive_45 : decode b_Sv_derive 45 = .ok (.aload_n 0, 1) := by decide +kernel
theorem d_Sv_derive_46 : decode b_Sv_derive 46 = .ok (.getfield 18, 3) := by decide +kernel
theorem d_Sv_derive_49 : decode b_Sv_derive 49 = .ok (.invokevirtual 51, 3) := by decide +kernel
theorem d_Sv_derive_52 : decode b_Sv_derive 52 = .ok (.aload_n 0, 1) := by decide +kernel
theorem d_Sv_derive_53 : decode b_Sv_derive 53 = .ok (.aload 4, 2) := by decide +kernel
theorem d_Sv_derive_55 : decode b_Sv_derive 55 = .ok (.iload 6, 2) := by decide +kernel
theorem d_Sv_derive_57 : decode b_Sv_derive 57 = .ok (.iload_n 3, 1) := by decide +kernel
theorem d_Sv_derive_58 : decode b_Sv_derive 58 = .ok (.invokevirtual 55, 3) := by decide +kernel
theorem d_Sv_derive_61 : decode b_Sv_derive 61 = .ok (.ifCond .eq 5, 3) := by decide +kernel
theorem d_Sv_derive_64 : decode b_Sv_derive 64 = .ok (.iconst 1, 1) := by decide +kernel
theorem d_Sv_derive_65 : decode b_Sv_derive 65 = .ok (.ireturn, 1) := by decide +kernel
theorem d_Sv_derive_66 : decode b_Sv_derive 66 = .ok (.aload_n 0, 1) := by decide +kernel
theorem d_Sv_derive_67 : decode b_Sv_derive 67 = .ok (.aload_n 1, 1) := by decide +kernel
theorem d_Sv_derive_68 : decode b_Sv_derive 68 = .ok (.iload_n 2, 1) := by decide +kernel
theorem d_Sv_derive_69 : decode b_Sv_derive 69 = .ok (.iload 6, 2) := by decide +kernel
theorem d_Sv_derive_71 : decode b_Sv_derive 71 = .ok (.iload_n 3, 1) := by decide +kernel
theorem d_Sv_derive_72 : decode b_Sv_derive 72 = .ok (.iconst 1, 1) := by decide +kernel
theorem d_Sv_derive_73 : decode b_Sv_derive 73 = .ok (.iadd, 1) := by decide +kernel
theorem d_Sv_derive_74 : decode b_Sv_derive 74 = .ok (.invokevirtual 59, 3) := by decide +kernel
theorem d_Sv_derive_77 : decode b_Sv_derive 77 = .ok (.ifCond .ne 5, 3) := by decide +kernel
theorem d_Sv_derive_80 : decode b_Sv_derive 80 = .ok (.iconst 1, 1) := by decide +kernel
theorem d_Sv_derive_81 : decode b_Sv_derive 81 = .ok (.ireturn, 1) := by decide +kernel
theorem d_Sv_derive_82 : decode b_Sv_derive 82 = .ok (.aload_n 0, 1) := by decide +kernel
theorem d_Sv_derive_83 : decode b_Sv_derive 83 = .ok (.aload_n 1, 1) := by decide +kernel
theorem d_Sv_derive_84 : decode b_Sv_derive 84 = .ok (.iconst 0, 1) := by decide +kernel
theorem d_Sv_derive_85 : decode b_Sv_derive 85 = .ok (.iload 6, 2) := by decide +kernel
theorem d_Sv_derive_87 : decode b_Sv_derive 87 = .ok (.invokestatic 63, 3) := by decide +kernel
theorem d_Sv_derive_90 : decode b_Sv_derive 90 = .ok (.ireturn, 1) := by decide +kernel
theorem d_Sv_casesGiving_0 : decode b_Sv_casesGiving 0 = .ok (.aload_n 1, 1) := by decide +kernel
theorem d_Sv_casesGiving_1 : decode b_Sv_casesGiving 1 = .ok (.getfield 67, 3) := by decide +kernel
theorem d_Sv_casesGiving_4 : decode b_Sv_casesGiving 4 = .ok (.iload_n 2, 1) := by decide +kernel
theorem d_Sv_casesGiving_5 : decode b_Sv_casesGiving 5 = .ok (.invokevirtual 42, 3) := by decide +kernel
theorem d_Sv_casesGiving_8 : decode b_Sv_casesGiving 8 = .ok (.ifCond .ne 5, 3) := by decide +kernel
theorem d_Sv_casesGiving_11 : decode b_Sv_casesGiving 11 = .ok (.iconst 0, 1) := by decide +kernel
theorem d_Sv_casesGiving_12 : decode b_Sv_casesGiving 12 = .ok (.ireturn, 1) := by decide +kernel
theorem d_Sv_casesGiving_13 : decode b_Sv_casesGiving 13 = .ok (.aload_n 1, 1) := by decide +kernel
theorem d_Sv_casesGiving_14 : decode b_Sv_casesGiving 14 = .ok (.getfield 67, 3) := by decide +kernel
theorem d_Sv_casesGiving_17 : decode b_Sv_casesGiving 17 = .ok (.getfield 71, 3) := by decide +kernel
theorem d_Sv_casesGiving_20 : decode b_Sv_casesGiving 20 = .ok (.istore_n 3, 1) := by decide +kernel
theorem d_Sv_casesGiving_21 : decode b_Sv_casesGiving 21 = .ok (.aload_n 1, 1) := by decide +kernel
theorem d_Sv_casesGiving_22 : decode b_Sv_casesGiving 22 = .ok (.getfield 67, 3) := by decide +kernel
theorem d_Sv_casesGiving_25 : decode b_Sv_casesGiving 25 = .ok (.iload_n 2, 1) := by decide +kernel
theorem d_Sv_casesGiving_26 : decode b_Sv_casesGiving 26 = .ok (.iload_n 3, 1) := by decide +kernel
theorem d_Sv_casesGiving_27 : decode b_Sv_casesGiving 27 = .ok (.aload_n 0, 1) := by decide +kernel
theorem d_Sv_casesGiving_28 : decode b_Sv_casesGiving 28 = .ok (.getfield 18, 3) := by decide +kernel
theorem d_Sv_casesGiving_31 : decode b_Sv_casesGiving 31 = .ok (.invokevirtual 51, 3) := by decide +kernel
theorem d_Sv_casesGiving_34 : decode b_Sv_casesGiving 34 = .ok (.aload_n 0, 1) := by decide +kernel
theorem d_Sv_casesGiving_35 : decode b_Sv_casesGiving 35 = .ok (.aload_n 1, 1) := by decide +kernel
theorem d_Sv_casesGiving_36 : decode b_Sv_casesGiving 36 = .ok (.iconst (-1), 1) := by decide +kernel
theorem d_Sv_casesGiving_37 : decode b_Sv_casesGiving 37 = .ok (.iload_n 3, 1) := by decide +kernel
theorem d_Sv_casesGiving_38 : decode b_Sv_casesGiving 38 = .ok (.aload_n 0, 1) := by decide +kernel
theorem d_Sv_casesGiving_39 : decode b_Sv_casesGiving 39 = .ok (.getfield 12, 3) := by decide +kernel
theorem d_Sv_casesGiving_42 : decode b_Sv_casesGiving 42 = .ok (.getfield 74, 3) := by decide +kernel
theorem d_Sv_casesGiving_45 : decode b_Sv_casesGiving 45 = .ok (.invokevirtual 59, 3) := by decide +kernel
theorem d_Sv_casesGiving_48 : decode b_Sv_casesGiving 48 = .ok (.ifCond .ne 5, 3) := by decide +kernel
theorem d_Sv_casesGiving_51 : decode b_Sv_casesGiving 51 = .ok (.iconst 0, 1) := by decide +kernel
theorem d_Sv_casesGiving_52 : decode b_Sv_casesGiving 52 = .ok (.ireturn, 1) := by decide +kernel
theorem d_Sv_casesGiving_53 : decode b_Sv_casesGiving 53 = .ok (.aload_n 0, 1) := by decide +kernel
theorem d_Sv_casesGiving_54 : decode b_Sv_casesGiving 54 = .ok (.iconst 0, 1) := by decide +kernel
theorem d_Sv_casesGiving_55 : decode b_Sv_casesGiving 55 = .ok (.iload_n 3, 1) := by decide +kernel
theorem d_Sv_casesGiving_56 : decode b_Sv_casesGiving 56 = .ok (.invokestatic 77, 3) := by decide +kernel
theorem d_Sv_casesGiving_59 : decode b_Sv_casesGiving 59 = .ok (.ireturn, 1) := by decide +kernel
theorem d_Sv_isMatchedBefore_0 : decode b_Sv_isMatchedBefore 0 = .ok (.aload_n 1, 1) := by decide +kernel
theorem d_Sv_isMatchedBefore_1 : decode b_Sv_isMatchedBefore 1 = .ok (.getfield 81, 3) := by decide +kernel
theorem d_Sv_isMatchedBefore_4 : decode b_Sv_isMatchedBefore 4 = .ok (.aload_n 1, 1) := by decide +kernel
theorem d_Sv_isMatchedBefore_5 : decode b_Sv_isMatchedBefore 5 = .ok (.iload_n 2, 1) := by decide +kernel
theorem d_Sv_isMatchedBefore_6 : decode b_Sv_isMatchedBefore 6 = .ok (.invokevirtual 84, 3) := by decide +kernel
theorem d_Sv_isMatchedBefore_9 : decode b_Sv_isMatchedBefore 9 = .ok (.ior, 1) := by decide +kernel
theorem d_Sv_isMatchedBefore_10 : decode b_Sv_isMatchedBefore 10 = .ok (.istore 4, 2) := by decide +kernel
theorem d_Sv_isMatchedBefore_12 : decode b_Sv_isMatchedBefore 12 = .ok (.aload_n 1, 1) := by decide +kernel
theorem d_Sv_isMatchedBefore_13 : decode b_Sv_isMatchedBefore 13 = .ok (.getfield 88, 3) := by decide +kernel
theorem d_Sv_isMatchedBefore_16 : decode b_Sv_isMatchedBefore 16 = .ok (.aload_n 1, 1) := by decide +kernel
theorem d_Sv_isMatchedBefore_17 : decode b_Sv_isMatchedBefore 17 = .ok (.iload_n 2, 1) := by decide +kernel
theorem d_Sv_isMatchedBefore_18 : decode b_Sv_isMatchedBefore 18 = .ok (.aload_n 0, 1) := by decide +kernel
theorem d_Sv_isMatchedBefore_19 : decode b_Sv_isMatchedBefore 19 = .ok (.getfield 18, 3) := by decide +kernel
theorem d_Sv_isMatchedBefore_22 : decode b_Sv_isMatchedBefore 22 = .ok (.invokevirtual 91, 3) := by decide +kernel
theorem d_Sv_isMatchedBefore_25 : decode b_Sv_isMatchedBefore 25 = .ok (.ior, 1) := by decide +kernel
theorem d_Sv_isMatchedBefore_26 : decode b_Sv_isMatchedBefore 26 = .ok (.istore 5, 2) := by decide +kernel
theorem d_Sv_isMatchedBefore_28 : decode b_Sv_isMatchedBefore 28 = .ok (.iconst 0, 1) := by decide +kernel
theorem d_Sv_isMatchedBefore_29 : decode b_Sv_isMatchedBefore 29 = .ok (.istore 6, 2) := by decide +kernel
theorem d_Sv_isMatchedBefore_31 : decode b_Sv_isMatchedBefore 31 = .ok (.iload 6, 2) := by decide +kernel
theorem d_Sv_isMatchedBefore_33 : decode b_Sv_isMatchedBefore 33 = .ok (.iload_n 3, 1) := by decide +kernel
theorem d_Sv_isMatchedBefore_34 : decode b_Sv_isMatchedBefore 34 = .ok (.if_icmp .ge 42, 3) := by decide +kernel
theorem d_Sv_isMatchedBefore_37 : decode b_Sv_isMatchedBefore 37 = .ok (.aload_n 0, 1) := by decide +kernel
theorem d_Sv_isMatchedBefore_38 : decode b_Sv_isMatchedBefore 38 = .ok (.getfield 12, 3) := by decide +kernel
theorem d_Sv_isMatchedBefore_41 : decode b_Sv_isMatchedBefore 41 = .ok (.getfield 39, 3) := by decide +kernel
theorem d_Sv_isMatchedBefore_44 : decode b_Sv_isMatchedBefore 44 = .ok (.iload 6, 2) := by decide +kernel
theorem d_Sv_isMatchedBefore_46 : decode b_Sv_isMatchedBefore 46 = .ok (.iaload, 1) := by decide +kernel
theorem d_Sv_isMatchedBefore_47 : decode b_Sv_isMatchedBefore 47 = .ok (.istore 7, 2) := by decide +kernel
theorem d_Sv_isMatchedBefore_49 : decode b_Sv_isMatchedBefore 49 = .ok (.iload 7, 2) := by decide +kernel
theorem d_Sv_isMatchedBefore_51 : decode b_Sv_isMatchedBefore 51 = .ok (.iload 4, 2) := by decide +kernel
theorem d_Sv_isMatchedBefore_53 : decode b_Sv_isMatchedBefore 53 = .ok (.iand, 1) := by decide +kernel
theorem d_Sv_isMatchedBefore_54 : decode b_Sv_isMatchedBefore 54 = .ok (.iload 5, 2) := by decide +kernel
theorem d_Sv_isMatchedBefore_56 : decode b_Sv_isMatchedBefore 56 = .ok (.if_icmp .ne 14, 3) := by decide +kernel
theorem d_Sv_isMatchedBefore_59 : decode b_Sv_isMatchedBefore 59 = .ok (.aload_n 1, 1) := by decide +kernel
theorem d_Sv_isMatchedBefore_60 : decode b_Sv_isMatchedBefore 60 = .ok (.iload 7, 2) := by decide +kernel
theorem d_Sv_isMatchedBefore_62 : decode b_Sv_isMatchedBefore 62 = .ok (.invokevirtual 95, 3) := by decide +kernel
theorem d_Sv_isMatchedBefore_65 : decode b_Sv_isMatchedBefore 65 = .ok (.ifCond .eq 5, 3) := by decide +kernel
theorem d_Sv_isMatchedBefore_68 : decode b_Sv_isMatchedBefore 68 = .ok (.iconst 1, 1) := by decide +kernel
theorem d_Sv_isMatchedBefore_69 : decode b_Sv_isMatchedBefore 69 = .ok (.ireturn, 1) := by decide +kernel
theorem d_Sv_isMatchedBefore_70 : decode b_Sv_isMatchedBefore 70 = .ok (.iinc 6 1, 3) := by decide +kernel
theorem d_Sv_isMatchedBefore_73 : decode b_Sv_isMatchedBefore 73 = .ok (.goto (-42), 3) := by decide +kernel
theorem d_Sv_isMatchedBefore_76 : decode b_Sv_isMatchedBefore 76 = .ok (.iconst 0, 1) := by decide +kernel
theorem d_Sv_isMatchedBefore_77 : decode b_Sv_isMatchedBefore 77 = .ok (.ireturn, 1) := by decide +kernel
theorem d_Sv_fillColumns_0 : decode b_Sv_fillColumns 0 = .ok (.aload_n 0, 1) := by decide +kernel
theorem d_Sv_fillColumns_1 : decode b_Sv_fillColumns 1 = .ok (.iconst 0, 1) := by decide +kernel
theorem d_Sv_fillColumns_2 : decode b_Sv_fillColumns 2 = .ok (.putfield 28, 3) := by decide +kernel
theorem d_Sv_fillColumns_5 : decode b_Sv_fillColumns 5 = .ok (.iconst 0, 1) := by decide +kernel
theorem d_Sv_fillColumns_6 : decode b_Sv_fillColumns 6 = .ok (.istore 5, 2) := by decide +kernel
theorem d_Sv_fillColumns_8 : decode b_Sv_fillColumns 8 = .ok (.iload 5, 2) := by decide +kernel
theorem d_Sv_fillColumns_10 : decode b_Sv_fillColumns 10 = .ok (.aload_n 1, 1) := by decide +kernel
theorem d_Sv_fillColumns_11 : decode b_Sv_fillColumns 11 = .ok (.getfield 33, 3) := by decide +kernel
theorem d_Sv_fillColumns_14 : decode b_Sv_fillColumns 14 = .ok (.arraylength, 1) := by decide +kernel
theorem d_Sv_fillColumns_15 : decode b_Sv_fillColumns 15 = .ok (.if_icmp .ge 101, 3) := by decide +kernel
theorem d_Sv_fillColumns_18 : decode b_Sv_fillColumns 18 = .ok (.aload_n 0, 1) := by decide +kernel
theorem d_Sv_fillColumns_19 : decode b_Sv_fillColumns 19 = .ok (.getfield 28, 3) := by decide +kernel
theorem d_Sv_fillColumns_22 : decode b_Sv_fillColumns 22 = .ok (.iconst 3, 1) := by decide +kernel
theorem d_Sv_fillColumns_23 : decode b_Sv_fillColumns 23 = .ok (.if_icmp .ge 93, 3) := by decide +kernel
theorem d_Sv_fillColumns_26 : decode b_Sv_fillColumns 26 = .ok (.iload 5, 2) := by decide +kernel
theorem d_Sv_fillColumns_28 : decode b_Sv_fillColumns 28 = .ok (.iload_n 2, 1) := by decide +kernel
theorem d_Sv_fillColumns_29 : decode b_Sv_fillColumns 29 = .ok (.if_icmp .ne 6, 3) := by decide +kernel
theorem d_Sv_fillColumns_32 : decode b_Sv_fillColumns 32 = .ok (.goto 78, 3) := by decide +kernel
theorem d_Sv_fillColumns_35 : decode b_Sv_fillColumns 35 = .ok (.aload_n 0, 1) := by decide +kernel
theorem d_Sv_fillColumns_36 : decode b_Sv_fillColumns 36 = .ok (.getfield 24, 3) := by decide +kernel
theorem d_Sv_fillColumns_39 : decode b_Sv_fillColumns 39 = .ok (.aload_n 0, 1) := by decide +kernel
theorem d_Sv_fillColumns_40 : decode b_Sv_fillColumns 40 = .ok (.getfield 28, 3) := by decide +kernel
theorem d_Sv_fillColumns_43 : decode b_Sv_fillColumns 43 = .ok (.aaload, 1) := by decide +kernel
theorem d_Sv_fillColumns_44 : decode b_Sv_fillColumns 44 = .ok (.astore 6, 2) := by decide +kernel
theorem d_Sv_fillColumns_46 : decode b_Sv_fillColumns 46 = .ok (.aload 6, 2) := by decide +kernel
theorem d_Sv_fillColumns_48 : decode b_Sv_fillColumns 48 = .ok (.aload_n 1, 1) := by decide +kernel
theorem d_Sv_fillColumns_49 : decode b_Sv_fillColumns 49 = .ok (.getfield 33, 3) := by decide +kernel
theorem d_Sv_fillColumns_52 : decode b_Sv_fillColumns 52 = .ok (.iload 5, 2) := by decide +kernel
theorem d_Sv_fillColumns_54 : decode b_Sv_fillColumns 54 = .ok (.aaload, 1) := by decide +kernel
theorem d_Sv_fillColumns_55 : decode b_Sv_fillColumns 55 = .ok (.putfield 98, 3) := by decide +kernel
theorem d_Sv_fillColumns_58 : decode b_Sv_fillColumns 58 = .ok (.aload 6, 2) := by decide +kernel
theorem d_Sv_fillColumns_60 : decode b_Sv_fillColumns 60 = .ok (.aload_n 1, 1) := by decide +kernel
theorem d_Sv_fillColumns_61 : decode b_Sv_fillColumns 61 = .ok (.getfield 48, 3) := by decide +kernel
theorem d_Sv_fillColumns_64 : decode b_Sv_fillColumns 64 = .ok (.iload 5, 2) := by decide +kernel
theorem d_Sv_fillColumns_66 : decode b_Sv_fillColumns 66 = .ok (.iaload, 1) := by decide +kernel
theorem d_Sv_fillColumns_67 : decode b_Sv_fillColumns 67 = .ok (.iload_n 3, 1) := by decide +kernel
theorem d_Sv_fillColumns_68 : decode b_Sv_fillColumns 68 = .ok (.iconst (-1), 1) := by decide +kernel
theorem d_Sv_fillColumns_69 : decode b_Sv_fillColumns 69 = .ok (.ixor, 1) := by decide +kernel
theorem d_Sv_fillColumns_70 : decode b_Sv_fillColumns 70 = .ok (.iand, 1) := by decide +kernel
theorem d_Sv_fillColumns_71 : decode b_Sv_fillColumns 71 = .ok (.putfield 101, 3) := by decide +kernel
theorem d_Sv_fillColumns_74 : decode b_Sv_fillColumns 74 = .ok (.aload 6, 2) := by decide +kernel
theorem d_Sv_fillColumns_76 : decode b_Sv_fillColumns 76 = .ok (.aload_n 0, 1) := by decide +kernel
theorem d_Sv_fillColumns_77 : decode b_Sv_fillColumns 77 = .ok (.getfield 12, 3) := by decide +kernel
theorem d_Sv_fillColumns_80 : decode b_Sv_fillColumns 80 = .ok (.iload 4, 2) := by decide +kernel
theorem d_Sv_fillColumns_82 : decode b_Sv_fillColumns 82 = .ok (.iload_n 3, 1) := by decide +kernel
theorem d_Sv_fillColumns_83 : decode b_Sv_fillColumns 83 = .ok (.aload_n 0, 1) := by decide +kernel
theorem d_Sv_fillColumns_84 : decode b_Sv_fillColumns 84 = .ok (.getfield 18, 3) := by decide +kernel
theorem d_Sv_fillColumns_87 : decode b_Sv_fillColumns 87 = .ok (.invokevirtual 104, 3) := by decide +kernel
theorem d_Sv_fillColumns_90 : decode b_Sv_fillColumns 90 = .ok (.aload 6, 2) := by decide +kernel
theorem d_Sv_fillColumns_92 : decode b_Sv_fillColumns 92 = .ok (.getfield 108, 3) := by decide +kernel
theorem d_Sv_fillColumns_95 : decode b_Sv_fillColumns 95 = .ok (.ifCond .ne 5, 3) := by decide +kernel
theorem d_Sv_fillColumns_98 : decode b_Sv_fillColumns 98 = .ok (.iconst 0, 1) := by decide +kernel
theorem d_Sv_fillColumns_99 : decode b_Sv_fillColumns 99 = .ok (.ireturn, 1) := by decide +kernel
theorem d_Sv_fillColumns_100 : decode b_Sv_fillColumns 100 = .ok (.aload_n 0, 1) := by decide +kernel
theorem d_Sv_fillColumns_101 : decode b_Sv_fillColumns 101 = .ok (.dup, 1) := by decide +kernel
theorem d_Sv_fillColumns_102 : decode b_Sv_fillColumns 102 = .ok (.getfield 28, 3) := by decide +kernel
theorem d_Sv_fillColumns_105 : decode b_Sv_fillColumns 105 = .ok (.iconst 1, 1) := by decide +kernel
theorem d_Sv_fillColumns_106 : decode b_Sv_fillColumns 106 = .ok (.iadd, 1) := by decide +kernel
theorem d_Sv_fillColumns_107 : decode b_Sv_fillColumns 107 = .ok (.putfield 28, 3) := by decide +kernel
theorem d_Sv_fillColumns_110 : decode b_Sv_fillColumns 110 = .ok (.iinc 5 1, 3) := by decide +kernel
theorem d_Sv_fillColumns_113 : decode b_Sv_fillColumns 113 = .ok (.goto (-105), 3) := by decide +kernel
theorem d_Sv_fillColumns_116 : decode b_Sv_fillColumns 116 = .ok (.iconst 1, 1) := by decide +kernel
theorem d_Sv_fillColumns_117 : decode b_Sv_fillColumns 117 = .ok (.ireturn, 1) := by decide +kernel
theorem d_Sv_addJoined_0 : decode b_Sv_addJoined 0 = .ok (.aload_n 1, 1) := by decide +kernel
theorem d_Sv_addJoined_1 : decode b_Sv_addJoined 1 = .ok (.getfield 67, 3) := by decide +kernel
theorem d_Sv_addJoined_4 : decode b_Sv_addJoined 4 = .ok (.getfield 71, 3) := by decide +kernel
theorem d_Sv_addJoined_7 : decode b_Sv_addJoined 7 = .ok (.iload_n 3, 1) := by decide +kernel
theorem d_Sv_addJoined_8 : decode b_Sv_addJoined 8 = .ok (.iconst (-1), 1) := by decide +kernel
theorem d_Sv_addJoined_9 : decode b_Sv_addJoined 9 = .ok (.ixor, 1) := by decide +kernel
theorem d_Sv_addJoined_10 : decode b_Sv_addJoined 10 = .ok (.iand, 1) := by decide +kernel
theorem d_Sv_addJoined_11 : decode b_Sv_addJoined 11 = .ok (.ifCond .ne 7, 3) := by decide +kernel
theorem d_Sv_addJoined_14 : decode b_Sv_addJoined 14 = .ok (.iconst 1, 1) := by decide +kernel
theorem d_Sv_addJoined_15 : decode b_Sv_addJoined 15 = .ok (.goto 4, 3) := by decide +kernel
theorem d_Sv_addJoined_18 : decode b_Sv_addJoined 18 = .ok (.iconst 0, 1) := by decide +kernel
theorem d_Sv_addJoined_19 : decode b_Sv_addJoined 19 = .ok (.istore 4, 2) := by decide +kernel
theorem d_Sv_addJoined_21 : decode b_Sv_addJoined 21 = .ok (.aload_n 1, 1) := by decide +kernel
theorem d_Sv_addJoined_22 : decode b_Sv_addJoined 22 = .ok (.getfield 67, 3) := by decide +kernel
theorem d_Sv_addJoined_25 : decode b_Sv_addJoined 25 = .ok (.getfield 88, 3) := by decide +kernel
theorem d_Sv_addJoined_28 : decode b_Sv_addJoined 28 = .ok (.aload_n 1, 1) := by decide +kernel
theorem d_Sv_addJoined_29 : decode b_Sv_addJoined 29 = .ok (.getfield 67, 3) := by decide +kernel
theorem d_Sv_addJoined_32 : decode b_Sv_addJoined 32 = .ok (.iload_n 3, 1) := by decide +kernel
theorem d_Sv_addJoined_33 : decode b_Sv_addJoined 33 = .ok (.aload_n 0, 1) := by decide +kernel
theorem d_Sv_addJoined_34 : decode b_Sv_addJoined 34 = .ok (.getfield 18, 3) := by decide +kernel
theorem d_Sv_addJoined_37 : decode b_Sv_addJoined 37 = .ok (.invokevirtual 91, 3) := by decide +kernel
theorem d_Sv_addJoined_40 : decode b_Sv_addJoined 40 = .ok (.ior, 1) := by decide +kernel
theorem d_Sv_addJoined_41 : decode b_Sv_addJoined 41 = .ok (.istore 5, 2) := by decide +kernel
theorem d_Sv_addJoined_43 : decode b_Sv_addJoined 43 = .ok (.iload 4, 2) := by decide +kernel
theorem d_Sv_addJoined_45 : decode b_Sv_addJoined 45 = .ok (.ifCond .eq 17, 3) := by decide +kernel
theorem d_Sv_addJoined_48 : decode b_Sv_addJoined 48 = .ok (.aload_n 0, 1) := by decide +kernel
theorem d_Sv_addJoined_49 : decode b_Sv_addJoined 49 = .ok (.getfield 12, 3) := by decide +kernel
theorem d_Sv_addJoined_52 : decode b_Sv_addJoined 52 = .ok (.iload 5, 2) := by decide +kernel
theorem d_Sv_addJoined_54 : decode b_Sv_addJoined 54 = .ok (.invokevirtual 109, 3) := by decide +kernel
theorem d_Sv_addJoined_57 : decode b_Sv_addJoined 57 = .ok (.ifCond .eq 5, 3) := by decide +kernel
theorem d_Sv_addJoined_60 : decode b_Sv_addJoined 60 = .ok (.iconst 1, 1) := by decide +kernel
theorem d_Sv_addJoined_61 : decode b_Sv_addJoined 61 = .ok (.ireturn, 1) := by decide +kernel
theorem d_Sv_addJoined_62 : decode b_Sv_addJoined 62 = .ok (.iload_n 2, 1) := by decide +kernel
theorem d_Sv_addJoined_63 : decode b_Sv_addJoined 63 = .ok (.aload_n 0, 1) := by decide +kernel
theorem d_Sv_addJoined_64 : decode b_Sv_addJoined 64 = .ok (.getfield 28, 3) := by decide +kernel
theorem d_Sv_addJoined_67 : decode b_Sv_addJoined 67 = .ok (.if_icmp .lt 13, 3) := by decide +kernel
theorem d_Sv_addJoined_70 : decode b_Sv_addJoined 70 = .ok (.aload_n 0, 1) := by decide +kernel
theorem d_Sv_addJoined_71 : decode b_Sv_addJoined 71 = .ok (.getfield 12, 3) := by decide +kernel
theorem d_Sv_addJoined_74 : decode b_Sv_addJoined 74 = .ok (.iload 5, 2) := by decide +kernel
theorem d_Sv_addJoined_76 : decode b_Sv_addJoined 76 = .ok (.invokevirtual 112, 3) := by decide +kernel
theorem d_Sv_addJoined_79 : decode b_Sv_addJoined 79 = .ok (.ireturn, 1) := by decide +kernel
theorem d_Sv_addJoined_80 : decode b_Sv_addJoined 80 = .ok (.aload_n 0, 1) := by decide +kernel
theorem d_Sv_addJoined_81 : decode b_Sv_addJoined 81 = .ok (.getfield 24, 3) := by decide +kernel
theorem d_Sv_addJoined_84 : decode b_Sv_addJoined 84 = .ok (.iload_n 2, 1) := by decide +kernel
theorem d_Sv_addJoined_85 : decode b_Sv_addJoined 85 = .ok (.aaload, 1) := by decide +kernel
theorem d_Sv_addJoined_86 : decode b_Sv_addJoined 86 = .ok (.astore 6, 2) := by decide +kernel
theorem d_Sv_addJoined_88 : decode b_Sv_addJoined 88 = .ok (.aload 6, 2) := by decide +kernel
theorem d_Sv_addJoined_90 : decode b_Sv_addJoined 90 = .ok (.getfield 98, 3) := by decide +kernel
theorem d_Sv_addJoined_93 : decode b_Sv_addJoined 93 = .ok (.aload 6, 2) := by decide +kernel
theorem d_Sv_addJoined_95 : decode b_Sv_addJoined 95 = .ok (.getfield 101, 3) := by decide +kernel
theorem d_Sv_addJoined_98 : decode b_Sv_addJoined 98 = .ok (.iload_n 3, 1) := by decide +kernel
theorem d_Sv_addJoined_99 : decode b_Sv_addJoined 99 = .ok (.iand, 1) := by decide +kernel
theorem d_Sv_addJoined_100 : decode b_Sv_addJoined 100 = .ok (.invokevirtual 84, 3) := by decide +kernel
theorem d_Sv_addJoined_103 : decode b_Sv_addJoined 103 = .ok (.istore 7, 2) := by decide +kernel
theorem d_Sv_addJoined_105 : decode b_Sv_addJoined 105 = .ok (.aload 6, 2) := by decide +kernel
theorem d_Sv_addJoined_107 : decode b_Sv_addJoined 107 = .ok (.getfield 98, 3) := by decide +kernel
theorem d_Sv_addJoined_110 : decode b_Sv_addJoined 110 = .ok (.aload 6, 2) := by decide +kernel
theorem d_Sv_addJoined_112 : decode b_Sv_addJoined 112 = .ok (.getfield 101, 3) := by decide +kernel
theorem d_Sv_addJoined_115 : decode b_Sv_addJoined 115 = .ok (.iload_n 3, 1) := by decide +kernel
theorem d_Sv_addJoined_116 : decode b_Sv_addJoined 116 = .ok (.iand, 1) := by decide +kernel
theorem d_Sv_addJoined_117 : decode b_Sv_addJoined 117 = .ok (.aload_n 0, 1) := by decide +kernel
theorem d_Sv_addJoined_118 : decode b_Sv_addJoined 118 = .ok (.getfield 18, 3) := by decide +kernel
theorem d_Sv_addJoined_121 : decode b_Sv_addJoined 121 = .ok (.invokevirtual 91, 3) := by decide +kernel
theorem d_Sv_addJoined_124 : decode b_Sv_addJoined 124 = .ok (.istore 8, 2) := by decide +kernel
theorem d_Sv_addJoined_126 : decode b_Sv_addJoined 126 = .ok (.iconst 0, 1) := by decide +kernel
theorem d_Sv_addJoined_127 : decode b_Sv_addJoined 127 = .ok (.istore 9, 2) := by decide +kernel
theorem d_Sv_addJoined_129 : decode b_Sv_addJoined 129 = .ok (.iload 9, 2) := by decide +kernel
theorem d_Sv_addJoined_131 : decode b_Sv_addJoined 131 = .ok (.aload 6, 2) := by decide +kernel
theorem d_Sv_addJoined_133 : decode b_Sv_addJoined 133 = .ok (.getfield 108, 3) := by decide +kernel
theorem d_Sv_addJoined_136 : decode b_Sv_addJoined 136 = .ok (.if_icmp .ge 96, 3) := by decide +kernel
theorem d_Sv_addJoined_139 : decode b_Sv_addJoined 139 = .ok (.aload 6, 2) := by decide +kernel
theorem d_Sv_addJoined_141 : decode b_Sv_addJoined 141 = .ok (.getfield 115, 3) := by decide +kernel
theorem d_Sv_addJoined_144 : decode b_Sv_addJoined 144 = .ok (.iload 9, 2) := by decide +kernel
theorem d_Sv_addJoined_146 : decode b_Sv_addJoined 146 = .ok (.iaload, 1) := by decide +kernel
theorem d_Sv_addJoined_147 : decode b_Sv_addJoined 147 = .ok (.iload 7, 2) := by decide +kernel
theorem d_Sv_addJoined_149 : decode b_Sv_addJoined 149 = .ok (.iand, 1) := by decide +kernel
theorem d_Sv_addJoined_150 : decode b_Sv_addJoined 150 = .ok (.iload 8, 2) := by decide +kernel
theorem d_Sv_addJoined_152 : decode b_Sv_addJoined 152 = .ok (.if_icmp .eq 6, 3) := by decide +kernel
theorem d_Sv_addJoined_155 : decode b_Sv_addJoined 155 = .ok (.goto 71, 3) := by decide +kernel
theorem d_Sv_addJoined_158 : decode b_Sv_addJoined 158 = .ok (.aload 6, 2) := by decide +kernel
theorem d_Sv_addJoined_160 : decode b_Sv_addJoined 160 = .ok (.getfield 98, 3) := by decide +kernel
theorem d_Sv_addJoined_163 : decode b_Sv_addJoined 163 = .ok (.aload 6, 2) := by decide +kernel
theorem d_Sv_addJoined_165 : decode b_Sv_addJoined 165 = .ok (.getfield 115, 3) := by decide +kernel
theorem d_Sv_addJoined_168 : decode b_Sv_addJoined 168 = .ok (.iload 9, 2) := by decide +kernel
theorem d_Sv_addJoined_170 : decode b_Sv_addJoined 170 = .ok (.iaload, 1) := by decide +kernel
theorem d_Sv_addJoined_171 : decode b_Sv_addJoined 171 = .ok (.aload 6, 2) := by decide +kernel
theorem d_Sv_addJoined_173 : decode b_Sv_addJoined 173 = .ok (.getfield 101, 3) := by decide +kernel
theorem d_Sv_addJoined_176 : decode b_Sv_addJoined 176 = .ok (.iload_n 3, 1) := by decide +kernel
theorem d_Sv_addJoined_177 : decode b_Sv_addJoined 177 = .ok (.iconst (-1), 1) := by decide +kernel
theorem d_Sv_addJoined_178 : decode b_Sv_addJoined 178 = .ok (.ixor, 1) := by decide +kernel
theorem d_Sv_addJoined_179 : decode b_Sv_addJoined 179 = .ok (.iand, 1) := by decide +kernel
theorem d_Sv_addJoined_180 : decode b_Sv_addJoined 180 = .ok (.aload_n 0, 1) := by decide +kernel
theorem d_Sv_addJoined_181 : decode b_Sv_addJoined 181 = .ok (.getfield 18, 3) := by decide +kernel
theorem d_Sv_addJoined_184 : decode b_Sv_addJoined 184 = .ok (.invokevirtual 51, 3) := by decide +kernel
theorem d_Sv_addJoined_187 : decode b_Sv_addJoined 187 = .ok (.aload_n 0, 1) := by decide +kernel
theorem d_Sv_addJoined_188 : decode b_Sv_addJoined 188 = .ok (.aload_n 1, 1) := by decide +kernel
theorem d_Sv_addJoined_189 : decode b_Sv_addJoined 189 = .ok (.iload_n 2, 1) := by decide +kernel
theorem d_Sv_addJoined_190 : decode b_Sv_addJoined 190 = .ok (.iconst 1, 1) := by decide +kernel
theorem d_Sv_addJoined_191 : decode b_Sv_addJoined 191 = .ok (.iadd, 1) := by decide +kernel
theorem d_Sv_addJoined_192 : decode b_Sv_addJoined 192 = .ok (.iload_n 3, 1) := by decide +kernel
theorem d_Sv_addJoined_193 : decode b_Sv_addJoined 193 = .ok (.aload 6, 2) := by decide +kernel
theorem d_Sv_addJoined_195 : decode b_Sv_addJoined 195 = .ok (.getfield 101, 3) := by decide +kernel
theorem d_Sv_addJoined_198 : decode b_Sv_addJoined 198 = .ok (.ior, 1) := by decide +kernel
theorem d_Sv_addJoined_199 : decode b_Sv_addJoined 199 = .ok (.invokestatic 63, 3) := by decide +kernel
theorem d_Sv_addJoined_202 : decode b_Sv_addJoined 202 = .ok (.ifCond .ne 5, 3) := by decide +kernel
theorem d_Sv_addJoined_205 : decode b_Sv_addJoined 205 = .ok (.iconst 0, 1) := by decide +kernel
theorem d_Sv_addJoined_206 : decode b_Sv_addJoined 206 = .ok (.ireturn, 1) := by decide +kernel
theorem d_Sv_addJoined_207 : decode b_Sv_addJoined 207 = .ok (.iload 4, 2) := by decide +kernel
theorem d_Sv_addJoined_209 : decode b_Sv_addJoined 209 = .ok (.ifCond .eq 17, 3) := by decide +kernel
theorem d_Sv_addJoined_212 : decode b_Sv_addJoined 212 = .ok (.aload_n 0, 1) := by decide +kernel
theorem d_Sv_addJoined_213 : decode b_Sv_addJoined 213 = .ok (.getfield 12, 3) := by decide +kernel
theorem d_Sv_addJoined_216 : decode b_Sv_addJoined 216 = .ok (.iload 5, 2) := by decide +kernel
theorem d_Sv_addJoined_218 : decode b_Sv_addJoined 218 = .ok (.invokevirtual 109, 3) := by decide +kernel
theorem d_Sv_addJoined_221 : decode b_Sv_addJoined 221 = .ok (.ifCond .eq 5, 3) := by decide +kernel
theorem d_Sv_addJoined_224 : decode b_Sv_addJoined 224 = .ok (.iconst 1, 1) := by decide +kernel
theorem d_Sv_addJoined_225 : decode b_Sv_addJoined 225 = .ok (.ireturn, 1) := by decide +kernel
theorem d_Sv_addJoined_226 : decode b_Sv_addJoined 226 = .ok (.iinc 9 1, 3) := by decide +kernel
theorem d_Sv_addJoined_229 : decode b_Sv_addJoined 229 = .ok (.goto (-100), 3) := by decide +kernel
theorem d_Sv_addJoined_232 : decode b_Sv_addJoined 232 = .ok (.iconst 1, 1) := by decide +kernel
theorem d_Sv_addJoined_233 : decode b_Sv_addJoined 233 = .ok (.ireturn, 1) := by decide +kernel
theorem d_Sv_countJoined_0 : decode b_Sv_countJoined 0 = .ok (.iload_n 1, 1) := by decide +kernel
theorem d_Sv_countJoined_1 : decode b_Sv_countJoined 1 = .ok (.aload_n 0, 1) := by decide +kernel
theorem d_Sv_countJoined_2 : decode b_Sv_countJoined 2 = .ok (.getfield 28, 3) := by decide +kernel
theorem d_Sv_countJoined_5 : decode b_Sv_countJoined 5 = .ok (.if_icmp .lt 5, 3) := by decide +kernel
theorem d_Sv_countJoined_8 : decode b_Sv_countJoined 8 = .ok (.iconst 1, 1) := by decide +kernel
theorem d_Sv_countJoined_9 : decode b_Sv_countJoined 9 = .ok (.ireturn, 1) := by decide +kernel
theorem d_Sv_countJoined_10 : decode b_Sv_countJoined 10 = .ok (.aload_n 0, 1) := by decide +kernel
theorem d_Sv_countJoined_11 : decode b_Sv_countJoined 11 = .ok (.getfield 24, 3) := by decide +kernel
theorem d_Sv_countJoined_14 : decode b_Sv_countJoined 14 = .ok (.iload_n 1, 1) := by decide +kernel
theorem d_Sv_countJoined_15 : decode b_Sv_countJoined 15 = .ok (.aaload, 1) := by decide +kernel
theorem d_Sv_countJoined_16 : decode b_Sv_countJoined 16 = .ok (.astore_n 3, 1) := by decide +kernel
theorem d_Sv_countJoined_17 : decode b_Sv_countJoined 17 = .ok (.aload_n 3, 1) := by decide +kernel
theorem d_Sv_countJoined_18 : decode b_Sv_countJoined 18 = .ok (.getfield 98, 3) := by decide +kernel
theorem d_Sv_countJoined_21 : decode b_Sv_countJoined 21 = .ok (.aload_n 3, 1) := by decide +kernel
theorem d_Sv_countJoined_22 : decode b_Sv_countJoined 22 = .ok (.getfield 101, 3) := by decide +kernel
theorem d_Sv_countJoined_25 : decode b_Sv_countJoined 25 = .ok (.iload_n 2, 1) := by decide +kernel
theorem d_Sv_countJoined_26 : decode b_Sv_countJoined 26 = .ok (.iand, 1) := by decide +kernel
theorem d_Sv_countJoined_27 : decode b_Sv_countJoined 27 = .ok (.invokevirtual 84, 3) := by decide +kernel
theorem d_Sv_countJoined_30 : decode b_Sv_countJoined 30 = .ok (.istore 4, 2) := by decide +kernel
theorem d_Sv_countJoined_32 : decode b_Sv_countJoined 32 = .ok (.aload_n 3, 1) := by decide +kernel
theorem d_Sv_countJoined_33 : decode b_Sv_countJoined 33 = .ok (.getfield 98, 3) := by decide +kernel
theorem d_Sv_countJoined_36 : decode b_Sv_countJoined 36 = .ok (.aload_n 3, 1) := by decide +kernel
theorem d_Sv_countJoined_37 : decode b_Sv_countJoined 37 = .ok (.getfield 101, 3) := by decide +kernel
theorem d_Sv_countJoined_40 : decode b_Sv_countJoined 40 = .ok (.iload_n 2, 1) := by decide +kernel
theorem d_Sv_countJoined_41 : decode b_Sv_countJoined 41 = .ok (.iand, 1) := by decide +kernel
theorem d_Sv_countJoined_42 : decode b_Sv_countJoined 42 = .ok (.aload_n 0, 1) := by decide +kernel
theorem d_Sv_countJoined_43 : decode b_Sv_countJoined 43 = .ok (.getfield 18, 3) := by decide +kernel
theorem d_Sv_countJoined_46 : decode b_Sv_countJoined 46 = .ok (.invokevirtual 91, 3) := by decide +kernel
theorem d_Sv_countJoined_49 : decode b_Sv_countJoined 49 = .ok (.istore 5, 2) := by decide +kernel
theorem d_Sv_countJoined_51 : decode b_Sv_countJoined 51 = .ok (.iconst 0, 1) := by decide +kernel
theorem d_Sv_countJoined_52 : decode b_Sv_countJoined 52 = .ok (.istore 6, 2) := by decide +kernel
theorem d_Sv_countJoined_54 : decode b_Sv_countJoined 54 = .ok (.iconst 0, 1) := by decide +kernel
theorem d_Sv_countJoined_55 : decode b_Sv_countJoined 55 = .ok (.istore 7, 2) := by decide +kernel
theorem d_Sv_countJoined_57 : decode b_Sv_countJoined 57 = .ok (.iload 7, 2) := by decide +kernel
theorem d_Sv_countJoined_59 : decode b_Sv_countJoined 59 = .ok (.aload_n 3, 1) := by decide +kernel
theorem d_Sv_countJoined_60 : decode b_Sv_countJoined 60 = .ok (.getfield 108, 3) := by decide +kernel
theorem d_Sv_countJoined_63 : decode b_Sv_countJoined 63 = .ok (.if_icmp .ge 76, 3) := by decide +kernel
theorem d_Sv_countJoined_66 : decode b_Sv_countJoined 66 = .ok (.aload_n 3, 1) := by decide +kernel
theorem d_Sv_countJoined_67 : decode b_Sv_countJoined 67 = .ok (.getfield 115, 3) := by decide +kernel
theorem d_Sv_countJoined_70 : decode b_Sv_countJoined 70 = .ok (.iload 7, 2) := by decide +kernel
theorem d_Sv_countJoined_72 : decode b_Sv_countJoined 72 = .ok (.iaload, 1) := by decide +kernel
theorem d_Sv_countJoined_73 : decode b_Sv_countJoined 73 = .ok (.iload 4, 2) := by decide +kernel
theorem d_Sv_countJoined_75 : decode b_Sv_countJoined 75 = .ok (.iand, 1) := by decide +kernel
theorem d_Sv_countJoined_76 : decode b_Sv_countJoined 76 = .ok (.iload 5, 2) := by decide +kernel
theorem d_Sv_countJoined_78 : decode b_Sv_countJoined 78 = .ok (.if_icmp .ne 55, 3) := by decide +kernel
theorem d_Sv_countJoined_81 : decode b_Sv_countJoined 81 = .ok (.aload_n 3, 1) := by decide +kernel
theorem d_Sv_countJoined_82 : decode b_Sv_countJoined 82 = .ok (.getfield 98, 3) := by decide +kernel
theorem d_Sv_countJoined_85 : decode b_Sv_countJoined 85 = .ok (.aload_n 3, 1) := by decide +kernel
theorem d_Sv_countJoined_86 : decode b_Sv_countJoined 86 = .ok (.getfield 115, 3) := by decide +kernel
theorem d_Sv_countJoined_89 : decode b_Sv_countJoined 89 = .ok (.iload 7, 2) := by decide +kernel
theorem d_Sv_countJoined_91 : decode b_Sv_countJoined 91 = .ok (.iaload, 1) := by decide +kernel
theorem d_Sv_countJoined_92 : decode b_Sv_countJoined 92 = .ok (.aload_n 3, 1) := by decide +kernel
theorem d_Sv_countJoined_93 : decode b_Sv_countJoined 93 = .ok (.getfield 101, 3) := by decide +kernel
theorem d_Sv_countJoined_96 : decode b_Sv_countJoined 96 = .ok (.iload_n 2, 1) := by decide +kernel
theorem d_Sv_countJoined_97 : decode b_Sv_countJoined 97 = .ok (.iconst (-1), 1) := by decide +kernel
theorem d_Sv_countJoined_98 : decode b_Sv_countJoined 98 = .ok (.ixor, 1) := by decide +kernel
theorem d_Sv_countJoined_99 : decode b_Sv_countJoined 99 = .ok (.iand, 1) := by decide +kernel
theorem d_Sv_countJoined_100 : decode b_Sv_countJoined 100 = .ok (.aload_n 0, 1) := by decide +kernel
theorem d_Sv_countJoined_101 : decode b_Sv_countJoined 101 = .ok (.getfield 18, 3) := by decide +kernel
theorem d_Sv_countJoined_104 : decode b_Sv_countJoined 104 = .ok (.invokevirtual 51, 3) := by decide +kernel
theorem d_Sv_countJoined_107 : decode b_Sv_countJoined 107 = .ok (.iload 6, 2) := by decide +kernel
theorem d_Sv_countJoined_109 : decode b_Sv_countJoined 109 = .ok (.aload_n 3, 1) := by decide +kernel
theorem d_Sv_countJoined_110 : decode b_Sv_countJoined 110 = .ok (.getfield 118, 3) := by decide +kernel
theorem d_Sv_countJoined_113 : decode b_Sv_countJoined 113 = .ok (.iload 7, 2) := by decide +kernel
theorem d_Sv_countJoined_115 : decode b_Sv_countJoined 115 = .ok (.iaload, 1) := by decide +kernel
theorem d_Sv_countJoined_116 : decode b_Sv_countJoined 116 = .ok (.aload_n 0, 1) := by decide +kernel
theorem d_Sv_countJoined_117 : decode b_Sv_countJoined 117 = .ok (.iload_n 1, 1) := by decide +kernel
theorem d_Sv_countJoined_118 : decode b_Sv_countJoined 118 = .ok (.iconst 1, 1) := by decide +kernel
theorem d_Sv_countJoined_119 : decode b_Sv_countJoined 119 = .ok (.iadd, 1) := by decide +kernel
theorem d_Sv_countJoined_120 : decode b_Sv_countJoined 120 = .ok (.iload_n 2, 1) := by decide +kernel
theorem d_Sv_countJoined_121 : decode b_Sv_countJoined 121 = .ok (.aload_n 3, 1) := by decide +kernel
theorem d_Sv_countJoined_122 : decode b_Sv_countJoined 122 = .ok (.getfield 101, 3) := by decide +kernel
theorem d_Sv_countJoined_125 : decode b_Sv_countJoined 125 = .ok (.ior, 1) := by decide +kernel
theorem d_Sv_countJoined_126 : decode b_Sv_countJoined 126 = .ok (.invokestatic 77, 3) := by decide +kernel
theorem d_Sv_countJoined_129 : decode b_Sv_countJoined 129 = .ok (.imul, 1) := by decide +kernel
theorem d_Sv_countJoined_130 : decode b_Sv_countJoined 130 = .ok (.iadd, 1) := by decide +kernel
theorem d_Sv_countJoined_131 : decode b_Sv_countJoined 131 = .ok (.istore 6, 2) := by decide +kernel
theorem d_Sv_countJoined_133 : decode b_Sv_countJoined 133 = .ok (.iinc 7 1, 3) := by decide +kernel
theorem d_Sv_countJoined_136 : decode b_Sv_countJoined 136 = .ok (.goto (-79), 3) := by decide +kernel
theorem d_Sv_countJoined_139 : decode b_Sv_countJoined 139 = .ok (.iload 6, 2) := by decide +kernel
theorem d_Sv_countJoined_141 : decode b_Sv_countJoined 141 = .ok (.ireturn, 1) := by decide +kernel
theorem d_Kp_init_0 : decode b_Kp_init 0 = .ok (.aload_n 0, 1) := by decide +kernel
theorem d_Kp_init_1 : decode b_Kp_init 1 = .ok (.invokespecial 3, 3) := by decide +kernel
theorem d_Kp_init_4 : decode b_Kp_init 4 = .ok (.aload_n 0, 1) := by decide +kernel
theorem d_Kp_init_5 : decode b_Kp_init 5 = .ok (.new 9, 3) := by decide +kernel
theorem d_Kp_init_8 : decode b_Kp_init 8 = .ok (.dup, 1) := by decide +kernel
theorem d_Kp_init_9 : decode b_Kp_init 9 = .ok (.invokespecial 11, 3) := by decide +kernel
theorem d_Kp_init_12 : decode b_Kp_init 12 = .ok (.putfield 12, 3) := by decide +kernel
theorem d_Kp_init_15 : decode b_Kp_init 15 = .ok (.aload_n 0, 1) := by decide +kernel
theorem d_Kp_init_16 : decode b_Kp_init 16 = .ok (.aload_n 0, 1) := by decide +kernel
theorem d_Kp_init_17 : decode b_Kp_init 17 = .ok (.getfield 12, 3) := by decide +kernel
theorem d_Kp_init_20 : decode b_Kp_init 20 = .ok (.getfield 16, 3) := by decide +kernel
theorem d_Kp_init_23 : decode b_Kp_init 23 = .ok (.putfield 20, 3) := by decide +kernel
theorem d_Kp_init_26 : decode b_Kp_init 26 = .ok (.aload_n 0, 1) := by decide +kernel
theorem d_Kp_init_27 : decode b_Kp_init 27 = .ok (.new 21, 3) := by decide +kernel
theorem d_Kp_init_30 : decode b_Kp_init 30 = .ok (.dup, 1) := by decide +kernel
theorem d_Kp_init_31 : decode b_Kp_init 31 = .ok (.invokespecial 23, 3) := by decide +kernel
theorem d_Kp_init_34 : decode b_Kp_init 34 = .ok (.putfield 24, 3) := by decide +kernel
theorem d_Kp_init_37 : decode b_Kp_init 37 = .ok (.aload_n 0, 1) := by decide +kernel
theorem d_Kp_init_38 : decode b_Kp_init 38 = .ok (.iconst 4, 1) := by decide +kernel
theorem d_Kp_init_39 : decode b_Kp_init 39 = .ok (.anewarray 28, 3) := by decide +kernel
theorem d_Kp_init_42 : decode b_Kp_init 42 = .ok (.putfield 30, 3) := by decide +kernel
theorem d_Kp_init_45 : decode b_Kp_init 45 = .ok (.aload_n 0, 1) := by decide +kernel
theorem d_Kp_init_46 : decode b_Kp_init 46 = .ok (.bipush 12, 2) := by decide +kernel
theorem d_Kp_init_48 : decode b_Kp_init 48 = .ok (.anewarray 34, 3) := by decide +kernel
theorem d_Kp_init_51 : decode b_Kp_init 51 = .ok (.putfield 36, 3) := by decide +kernel
theorem d_Kp_init_54 : decode b_Kp_init 54 = .ok (.aload_n 0, 1) := by decide +kernel
theorem d_Kp_init_55 : decode b_Kp_init 55 = .ok (.iconst 0, 1) := by decide +kernel
theorem d_Kp_init_56 : decode b_Kp_init 56 = .ok (.putfield 40, 3) := by decide +kernel
theorem d_Kp_init_59 : decode b_Kp_init 59 = .ok (.aload_n 0, 1) := by decide +kernel
theorem d_Kp_init_60 : decode b_Kp_init 60 = .ok (.iconst 0, 1) := by decide +kernel
theorem d_Kp_init_61 : decode b_Kp_init 61 = .ok (.putfield 44, 3) := by decide +kernel
theorem d_Kp_init_64 : decode b_Kp_init 64 = .ok (.new 28, 3) := by decide +kernel
theorem d_Kp_init_67 : decode b_Kp_init 67 = .ok (.dup, 1) := by decide +kernel
theorem d_Kp_init_68 : decode b_Kp_init 68 = .ok (.iconst 0, 1) := by decide +kernel
theorem d_Kp_init_69 : decode b_Kp_init 69 = .ok (.iconst 0, 1) := by decide +kernel
theorem d_Kp_init_70 : decode b_Kp_init 70 = .ok (.iconst 0, 1) := by decide +kernel
theorem d_Kp_init_71 : decode b_Kp_init 71 = .ok (.invokespecial 47, 3) := by decide +kernel
theorem d_Kp_init_74 : decode b_Kp_init 74 = .ok (.astore_n 1, 1) := by decide +kernel
theorem d_Kp_init_75 : decode b_Kp_init 75 = .ok (.iconst 0, 1) := by decide +kernel
theorem d_Kp_init_76 : decode b_Kp_init 76 = .ok (.istore_n 2, 1) := by decide +kernel
theorem d_Kp_init_77 : decode b_Kp_init 77 = .ok (.iload_n 2, 1) := by decide +kernel
theorem d_Kp_init_78 : decode b_Kp_init 78 = .ok (.iconst 4, 1) := by decide +kernel
theorem d_Kp_init_79 : decode b_Kp_init 79 = .ok (.if_icmp .ge 16, 3) := by decide +kernel
theorem d_Kp_init_82 : decode b_Kp_init 82 = .ok (.aload_n 0, 1) := by decide +kernel
theorem d_Kp_init_83 : decode b_Kp_init 83 = .ok (.getfield 30, 3) := by decide +kernel
theorem d_Kp_init_86 : decode b_Kp_init 86 = .ok (.iload_n 2, 1) := by decide +kernel
theorem d_Kp_init_87 : decode b_Kp_init 87 = .ok (.aload_n 1, 1) := by decide +kernel
theorem d_Kp_init_88 : decode b_Kp_init 88 = .ok (.aastore, 1) := by decide +kernel
theorem d_Kp_init_89 : decode b_Kp_init 89 = .ok (.iinc 2 1, 3) := by decide +kernel
theorem d_Kp_init_92 : decode b_Kp_init 92 = .ok (.goto (-15), 3) := by decide +kernel
theorem d_Kp_init_95 : decode b_Kp_init 95 = .ok (.new 34, 3) := by decide +kernel
theorem d_Kp_init_98 : decode b_Kp_init 98 = .ok (.dup, 1) := by decide +kernel
theorem d_Kp_init_99 : decode b_Kp_init 99 = .ok (.iconst 1, 1) := by decide +kernel
theorem d_Kp_init_100 : decode b_Kp_init 100 = .ok (.anewarray 28, 3) := by decide +kernel
theorem d_Kp_init_103 : decode b_Kp_init 103 = .ok (.dup, 1) := by decide +kernel
theorem d_Kp_init_104 : decode b_Kp_init 104 = .ok (.iconst 0, 1) := by decide +kernel
theorem d_Kp_init_105 : decode b_Kp_init 105 = .ok (.aload_n 1, 1) := by decide +kernel
theorem d_Kp_init_106 : decode b_Kp_init 106 = .ok (.aastore, 1) := by decide +kernel
theorem d_Kp_init_107 : decode b_Kp_init 107 = .ok (.aload_n 1, 1) := by decide +kernel
theorem d_Kp_init_108 : decode b_Kp_init 108 = .ok (.invokespecial 50, 3) := by decide +kernel
theorem d_Kp_init_111 : decode b_Kp_init 111 = .ok (.astore_n 2, 1) := by decide +kernel
theorem d_Kp_init_112 : decode b_Kp_init 112 = .ok (.iconst 0, 1) := by decide +kernel
theorem d_Kp_init_113 : decode b_Kp_init 113 = .ok (.istore_n 3, 1) := by decide +kernel
theorem d_Kp_init_114 : decode b_Kp_init 114 = .ok (.iload_n 3, 1) := by decide +kernel
theorem d_Kp_init_115 : decode b_Kp_init 115 = .ok (.bipush 12, 2) := by decide +kernel
theorem d_Kp_init_117 : decode b_Kp_init 117 = .ok (.if_icmp .ge 16, 3) := by decide +kernel
theorem d_Kp_init_120 : decode b_Kp_init 120 = .ok (.aload_n 0, 1) := by decide +kernel
theorem d_Kp_init_121 : decode b_Kp_init 121 = .ok (.getfield 36, 3) := by decide +kernel
theorem d_Kp_init_124 : decode b_Kp_init 124 = .ok (.iload_n 3, 1) := by decide +kernel
theorem d_Kp_init_125 : decode b_Kp_init 125 = .ok (.aload_n 2, 1) := by decide +kernel
theorem d_Kp_init_126 : decode b_Kp_init 126 = .ok (.aastore, 1) := by decide +kernel
theorem d_Kp_init_127 : decode b_Kp_init 127 = .ok (.iinc 3 1, 3) := by decide +kernel
theorem d_Kp_init_130 : decode b_Kp_init 130 = .ok (.goto (-16), 3) := by decide +kernel
theorem d_Kp_init_133 : decode b_Kp_init 133 = .ok (.return_, 1) := by decide +kernel
theorem d_Kp_say_0 : decode b_Kp_say 0 = .ok (.iload_n 1, 1) := by decide +kernel
theorem d_Kp_say_1 : decode b_Kp_say 1 = .ok (.iload_n 2, 1) := by decide +kernel
theorem d_Kp_say_2 : decode b_Kp_say 2 = .ok (.iload_n 3, 1) := by decide +kernel
theorem d_Kp_say_3 : decode b_Kp_say 3 = .ok (.invokestatic 53, 3) := by decide +kernel
theorem d_Kp_say_6 : decode b_Kp_say 6 = .ok (.ifCond .ne 5, 3) := by decide +kernel
theorem d_Kp_say_9 : decode b_Kp_say 9 = .ok (.iconst (-1), 1) := by decide +kernel
theorem d_Kp_say_10 : decode b_Kp_say 10 = .ok (.ireturn, 1) := by decide +kernel
theorem d_Kp_say_11 : decode b_Kp_say 11 = .ok (.iload_n 1, 1) := by decide +kernel
theorem d_Kp_say_12 : decode b_Kp_say 12 = .ok (.iload_n 2, 1) := by decide +kernel
theorem d_Kp_say_13 : decode b_Kp_say 13 = .ok (.iload_n 3, 1) := by decide +kernel
theorem d_Kp_say_14 : decode b_Kp_say 14 = .ok (.invokestatic 57, 3) := by decide +kernel
theorem d_Kp_say_17 : decode b_Kp_say 17 = .ok (.istore 4, 2) := by decide +kernel
theorem d_Kp_say_19 : decode b_Kp_say 19 = .ok (.aload_n 0, 1) := by decide +kernel
theorem d_Kp_say_20 : decode b_Kp_say 20 = .ok (.getfield 24, 3) := by decide +kernel
theorem d_Kp_say_23 : decode b_Kp_say 23 = .ok (.iload 4, 2) := by decide +kernel
theorem d_Kp_say_25 : decode b_Kp_say 25 = .ok (.invokevirtual 61, 3) := by decide +kernel
theorem d_Kp_say_28 : decode b_Kp_say 28 = .ok (.ifCond .eq 5, 3) := by decide +kernel
theorem d_Kp_say_31 : decode b_Kp_say 31 = .ok (.iconst 0, 1) := by decide +kernel
theorem d_Kp_say_32 : decode b_Kp_say 32 = .ok (.ireturn, 1) := by decide +kernel
theorem d_Kp_say_33 : decode b_Kp_say 33 = .ok (.aload_n 0, 1) := by decide +kernel
theorem d_Kp_say_34 : decode b_Kp_say 34 = .ok (.getfield 20, 3) := by decide +kernel
theorem d_Kp_say_37 : decode b_Kp_say 37 = .ok (.iload 4, 2) := by decide +kernel
theorem d_Kp_say_39 : decode b_Kp_say 39 = .ok (.invokevirtual 65, 3) := by decide +kernel
theorem d_Kp_say_42 : decode b_Kp_say 42 = .ok (.ifCond .ne 15, 3) := by decide +kernel
theorem d_Kp_say_45 : decode b_Kp_say 45 = .ok (.aload_n 0, 1) := by decide +kernel
theorem d_Kp_say_46 : decode b_Kp_say 46 = .ok (.iload 4, 2) := by decide +kernel
theorem d_Kp_say_48 : decode b_Kp_say 48 = .ok (.invokevirtual 68, 3) := by decide +kernel
theorem d_Kp_say_51 : decode b_Kp_say 51 = .ok (.ifCond .ne 6, 3) := by decide +kernel
theorem d_Kp_say_54 : decode b_Kp_say 54 = .ok (.bipush (-3), 2) := by decide +kernel
theorem d_Kp_say_56 : decode b_Kp_say 56 = .ok (.ireturn, 1) := by decide +kernel
theorem d_Kp_say_57 : decode b_Kp_say 57 = .ok (.aload_n 0, 1) := by decide +kernel
theorem d_Kp_say_58 : decode b_Kp_say 58 = .ok (.getfield 24, 3) := by decide +kernel
theorem d_Kp_say_61 : decode b_Kp_say 61 = .ok (.iload 4, 2) := by decide +kernel
theorem d_Kp_say_63 : decode b_Kp_say 63 = .ok (.invokevirtual 71, 3) := by decide +kernel
theorem d_Kp_say_66 : decode b_Kp_say 66 = .ok (.iconst 1, 1) := by decide +kernel
theorem d_Kp_say_67 : decode b_Kp_say 67 = .ok (.ireturn, 1) := by decide +kernel
theorem d_Kp_unsay_0 : decode b_Kp_unsay 0 = .ok (.iload_n 1, 1) := by decide +kernel
theorem d_Kp_unsay_1 : decode b_Kp_unsay 1 = .ok (.iload_n 2, 1) := by decide +kernel
theorem d_Kp_unsay_2 : decode b_Kp_unsay 2 = .ok (.iload_n 3, 1) := by decide +kernel
theorem d_Kp_unsay_3 : decode b_Kp_unsay 3 = .ok (.invokestatic 53, 3) := by decide +kernel
theorem d_Kp_unsay_6 : decode b_Kp_unsay 6 = .ok (.ifCond .ne 5, 3) := by decide +kernel
theorem d_Kp_unsay_9 : decode b_Kp_unsay 9 = .ok (.iconst (-1), 1) := by decide +kernel
theorem d_Kp_unsay_10 : decode b_Kp_unsay 10 = .ok (.ireturn, 1) := by decide +kernel
theorem d_Kp_unsay_11 : decode b_Kp_unsay 11 = .ok (.iload_n 1, 1) := by decide +kernel
theorem d_Kp_unsay_12 : decode b_Kp_unsay 12 = .ok (.iload_n 2, 1) := by decide +kernel
theorem d_Kp_unsay_13 : decode b_Kp_unsay 13 = .ok (.iload_n 3, 1) := by decide +kernel
theorem d_Kp_unsay_14 : decode b_Kp_unsay 14 = .ok (.invokestatic 57, 3) := by decide +kernel
theorem d_Kp_unsay_17 : decode b_Kp_unsay 17 = .ok (.istore 4, 2) := by decide +kernel
theorem d_Kp_unsay_19 : decode b_Kp_unsay 19 = .ok (.aload_n 0, 1) := by decide +kernel
theorem d_Kp_unsay_20 : decode b_Kp_unsay 20 = .ok (.getfield 24, 3) := by decide +kernel
theorem d_Kp_unsay_23 : decode b_Kp_unsay 23 = .ok (.iload 4, 2) := by decide +kernel
theorem d_Kp_unsay_25 : decode b_Kp_unsay 25 = .ok (.invokevirtual 61, 3) := by decide +kernel
theorem d_Kp_unsay_28 : decode b_Kp_unsay 28 = .ok (.ifCond .ne 5, 3) := by decide +kernel
theorem d_Kp_unsay_31 : decode b_Kp_unsay 31 = .ok (.iconst 0, 1) := by decide +kernel
theorem d_Kp_unsay_32 : decode b_Kp_unsay 32 = .ok (.ireturn, 1) := by decide +kernel
theorem d_Kp_unsay_33 : decode b_Kp_unsay 33 = .ok (.aload_n 0, 1) := by decide +kernel
theorem d_Kp_unsay_34 : decode b_Kp_unsay 34 = .ok (.getfield 24, 3) := by decide +kernel
theorem d_Kp_unsay_37 : decode b_Kp_unsay 37 = .ok (.iload 4, 2) := by decide +kernel
theorem d_Kp_unsay_39 : decode b_Kp_unsay 39 = .ok (.invokevirtual 75, 3) := by decide +kernel
theorem d_Kp_unsay_42 : decode b_Kp_unsay 42 = .ok (.aload_n 0, 1) := by decide +kernel
theorem d_Kp_unsay_43 : decode b_Kp_unsay 43 = .ok (.invokevirtual 78, 3) := by decide +kernel
theorem d_Kp_unsay_46 : decode b_Kp_unsay 46 = .ok (.iconst 1, 1) := by decide +kernel
theorem d_Kp_unsay_47 : decode b_Kp_unsay 47 = .ok (.ireturn, 1) := by decide +kernel
theorem d_Kp_pattern_0 : decode b_Kp_pattern 0 = .ok (.iload_n 1, 1) := by decide +kernel
theorem d_Kp_pattern_1 : decode b_Kp_pattern 1 = .ok (.iload_n 2, 1) := by decide +kernel
theorem d_Kp_pattern_2 : decode b_Kp_pattern 2 = .ok (.iload_n 3, 1) := by decide +kernel
theorem d_Kp_pattern_3 : decode b_Kp_pattern 3 = .ok (.invokestatic 81, 3) := by decide +kernel
theorem d_Kp_pattern_6 : decode b_Kp_pattern 6 = .ok (.ifCond .ne 5, 3) := by decide +kernel
theorem d_Kp_pattern_9 : decode b_Kp_pattern 9 = .ok (.iconst (-1), 1) := by decide +kernel
theorem d_Kp_pattern_10 : decode b_Kp_pattern 10 = .ok (.ireturn, 1) := by decide +kernel
theorem d_Kp_pattern_11 : decode b_Kp_pattern 11 = .ok (.aload_n 0, 1) := by decide +kernel
theorem d_Kp_pattern_12 : decode b_Kp_pattern 12 = .ok (.getfield 44, 3) := by decide +kernel
theorem d_Kp_pattern_15 : decode b_Kp_pattern 15 = .ok (.iconst 4, 1) := by decide +kernel
theorem d_Kp_pattern_16 : decode b_Kp_pattern 16 = .ok (.if_icmp .lt 6, 3) := by decide +kernel
theorem d_Kp_pattern_19 : decode b_Kp_pattern 19 = .ok (.bipush (-3), 2) := by decide +kernel
theorem d_Kp_pattern_21 : decode b_Kp_pattern 21 = .ok (.ireturn, 1) := by decide +kernel
theorem d_Kp_pattern_22 : decode b_Kp_pattern 22 = .ok (.aload_n 0, 1) := by decide +kernel
theorem d_Kp_pattern_23 : decode b_Kp_pattern 23 = .ok (.getfield 30, 3) := by decide +kernel
theorem d_Kp_pattern_26 : decode b_Kp_pattern 26 = .ok (.aload_n 0, 1) := by decide +kernel
theorem d_Kp_pattern_27 : decode b_Kp_pattern 27 = .ok (.getfield 44, 3) := by decide +kernel
theorem d_Kp_pattern_30 : decode b_Kp_pattern 30 = .ok (.new 28, 3) := by decide +kernel
theorem d_Kp_pattern_33 : decode b_Kp_pattern 33 = .ok (.dup, 1) := by decide +kernel
theorem d_Kp_pattern_34 : decode b_Kp_pattern 34 = .ok (.iload_n 1, 1) := by decide +kernel
theorem d_Kp_pattern_35 : decode b_Kp_pattern 35 = .ok (.iload_n 2, 1) := by decide +kernel
theorem d_Kp_pattern_36 : decode b_Kp_pattern 36 = .ok (.iload_n 3, 1) := by decide +kernel
theorem d_Kp_pattern_37 : decode b_Kp_pattern 37 = .ok (.invokespecial 47, 3) := by decide +kernel
theorem d_Kp_pattern_40 : decode b_Kp_pattern 40 = .ok (.aastore, 1) := by decide +kernel
theorem d_Kp_pattern_41 : decode b_Kp_pattern 41 = .ok (.aload_n 0, 1) := by decide +kernel
theorem d_Kp_pattern_42 : decode b_Kp_pattern 42 = .ok (.dup, 1) := by decide +kernel
theorem d_Kp_pattern_43 : decode b_Kp_pattern 43 = .ok (.getfield 44, 3) := by decide +kernel
theorem d_Kp_pattern_46 : decode b_Kp_pattern 46 = .ok (.iconst 1, 1) := by decide +kernel
theorem d_Kp_pattern_47 : decode b_Kp_pattern 47 = .ok (.iadd, 1) := by decide +kernel
theorem d_Kp_pattern_48 : decode b_Kp_pattern 48 = .ok (.putfield 44, 3) := by decide +kernel
theorem d_Kp_pattern_51 : decode b_Kp_pattern 51 = .ok (.aload_n 0, 1) := by decide +kernel
theorem d_Kp_pattern_52 : decode b_Kp_pattern 52 = .ok (.getfield 44, 3) := by decide +kernel
theorem d_Kp_pattern_55 : decode b_Kp_pattern 55 = .ok (.ireturn, 1) := by decide +kernel
theorem d_Kp_rule_0 : decode b_Kp_rule 0 = .ok (.aload_n 0, 1) := by decide +kernel
theorem d_Kp_rule_1 : decode b_Kp_rule 1 = .ok (.invokevirtual 84, 3) := by decide +kernel
theorem d_Kp_rule_4 : decode b_Kp_rule 4 = .ok (.ifCond .ne 10, 3) := by decide +kernel
theorem d_Kp_rule_7 : decode b_Kp_rule 7 = .ok (.aload_n 0, 1) := by decide +kernel
theorem d_Kp_rule_8 : decode b_Kp_rule 8 = .ok (.iconst 0, 1) := by decide +kernel
theorem d_Kp_rule_9 : decode b_Kp_rule 9 = .ok (.putfield 44, 3) := by decide +kernel
theorem d_Kp_rule_12 : decode b_Kp_rule 12 = .ok (.iconst (-1), 1) := by decide +kernel
theorem d_Kp_rule_13 : decode b_Kp_rule 13 = .ok (.ireturn, 1) := by decide +kernel
theorem d_Kp_rule_14 : decode b_Kp_rule 14 = .ok (.aload_n 0, 1) := by decide +kernel
theorem d_Kp_rule_15 : decode b_Kp_rule 15 = .ok (.getfield 40, 3) := by decide +kernel
theorem d_Kp_rule_18 : decode b_Kp_rule 18 = .ok (.bipush 12, 2) := by decide +kernel
theorem d_Kp_rule_20 : decode b_Kp_rule 20 = .ok (.if_icmp .lt 6, 3) := by decide +kernel
theorem d_Kp_rule_23 : decode b_Kp_rule 23 = .ok (.bipush (-3), 2) := by decide +kernel
theorem d_Kp_rule_25 : decode b_Kp_rule 25 = .ok (.ireturn, 1) := by decide +kernel
theorem d_Kp_rule_26 : decode b_Kp_rule 26 = .ok (.aload_n 0, 1) := by decide +kernel
theorem d_Kp_rule_27 : decode b_Kp_rule 27 = .ok (.getfield 20, 3) := by decide +kernel
theorem d_Kp_rule_30 : decode b_Kp_rule 30 = .ok (.getfield 88, 3) := by decide +kernel
theorem d_Kp_rule_33 : decode b_Kp_rule 33 = .ok (.istore_n 1, 1) := by decide +kernel
theorem d_Kp_rule_34 : decode b_Kp_rule 34 = .ok (.aload_n 0, 1) := by decide +kernel
theorem d_Kp_rule_35 : decode b_Kp_rule 35 = .ok (.getfield 36, 3) := by decide +kernel
theorem d_Kp_rule_38 : decode b_Kp_rule 38 = .ok (.aload_n 0, 1) := by decide +kernel
theorem d_Kp_rule_39 : decode b_Kp_rule 39 = .ok (.getfield 40, 3) := by decide +kernel
theorem d_Kp_rule_42 : decode b_Kp_rule 42 = .ok (.aload_n 0, 1) := by decide +kernel
theorem d_Kp_rule_43 : decode b_Kp_rule 43 = .ok (.invokevirtual 91, 3) := by decide +kernel
theorem d_Kp_rule_46 : decode b_Kp_rule 46 = .ok (.aastore, 1) := by decide +kernel
theorem d_Kp_rule_47 : decode b_Kp_rule 47 = .ok (.aload_n 0, 1) := by decide +kernel
theorem d_Kp_rule_48 : decode b_Kp_rule 48 = .ok (.dup, 1) := by decide +kernel
theorem d_Kp_rule_49 : decode b_Kp_rule 49 = .ok (.getfield 40, 3) := by decide +kernel
theorem d_Kp_rule_52 : decode b_Kp_rule 52 = .ok (.iconst 1, 1) := by decide +kernel
theorem d_Kp_rule_53 : decode b_Kp_rule 53 = .ok (.iadd, 1) := by decide +kernel
theorem d_Kp_rule_54 : decode b_Kp_rule 54 = .ok (.putfield 40, 3) := by decide +kernel
theorem d_Kp_rule_57 : decode b_Kp_rule 57 = .ok (.aload_n 0, 1) := by decide +kernel
theorem d_Kp_rule_58 : decode b_Kp_rule 58 = .ok (.iconst 0, 1) := by decide +kernel
theorem d_Kp_rule_59 : decode b_Kp_rule 59 = .ok (.iload_n 1, 1) := by decide +kernel
theorem d_Kp_rule_60 : decode b_Kp_rule 60 = .ok (.invokevirtual 95, 3) := by decide +kernel
theorem d_Kp_rule_63 : decode b_Kp_rule 63 = .ok (.ifCond .ne 24, 3) := by decide +kernel
theorem d_Kp_rule_66 : decode b_Kp_rule 66 = .ok (.aload_n 0, 1) := by decide +kernel
theorem d_Kp_rule_67 : decode b_Kp_rule 67 = .ok (.getfield 20, 3) := by decide +kernel
theorem d_Kp_rule_70 : decode b_Kp_rule 70 = .ok (.iload_n 1, 1) := by decide +kernel
theorem d_Kp_rule_71 : decode b_Kp_rule 71 = .ok (.invokevirtual 99, 3) := by decide +kernel
theorem d_Kp_rule_74 : decode b_Kp_rule 74 = .ok (.aload_n 0, 1) := by decide +kernel
theorem d_Kp_rule_75 : decode b_Kp_rule 75 = .ok (.dup, 1) := by decide +kernel
theorem d_Kp_rule_76 : decode b_Kp_rule 76 = .ok (.getfield 40, 3) := by decide +kernel
theorem d_Kp_rule_79 : decode b_Kp_rule 79 = .ok (.iconst 1, 1) := by decide +kernel
theorem d_Kp_rule_80 : decode b_Kp_rule 80 = .ok (.isub, 1) := by decide +kernel
theorem d_Kp_rule_81 : decode b_Kp_rule 81 = .ok (.putfield 40, 3) := by decide +kernel
theorem d_Kp_rule_84 : decode b_Kp_rule 84 = .ok (.bipush (-3), 2) := by decide +kernel
theorem d_Kp_rule_86 : decode b_Kp_rule 86 = .ok (.ireturn, 1) := by decide +kernel
theorem d_Kp_rule_87 : decode b_Kp_rule 87 = .ok (.aload_n 0, 1) := by decide +kernel
theorem d_Kp_rule_88 : decode b_Kp_rule 88 = .ok (.iconst 0, 1) := by decide +kernel
theorem d_Kp_rule_89 : decode b_Kp_rule 89 = .ok (.putfield 44, 3) := by decide +kernel
theorem d_Kp_rule_92 : decode b_Kp_rule 92 = .ok (.aload_n 0, 1) := by decide +kernel
theorem d_Kp_rule_93 : decode b_Kp_rule 93 = .ok (.getfield 40, 3) := by decide +kernel
theorem d_Kp_rule_96 : decode b_Kp_rule 96 = .ok (.iconst 1, 1) := by decide +kernel
theorem d_Kp_rule_97 : decode b_Kp_rule 97 = .ok (.isub, 1) := by decide +kernel
theorem d_Kp_rule_98 : decode b_Kp_rule 98 = .ok (.ireturn, 1) := by decide +kernel
theorem d_Kp_unrule_0 : decode b_Kp_unrule 0 = .ok (.iload_n 1, 1) := by decide +kernel
theorem d_Kp_unrule_1 : decode b_Kp_unrule 1 = .ok (.ifCond .lt 11, 3) := by decide +kernel
theorem d_Kp_unrule_4 : decode b_Kp_unrule 4 = .ok (.iload_n 1, 1) := by decide +kernel
theorem d_Kp_unrule_5 : decode b_Kp_unrule 5 = .ok (.aload_n 0, 1) := by decide +kernel
theorem d_Kp_unrule_6 : decode b_Kp_unrule 6 = .ok (.getfield 40, 3) := by decide +kernel
theorem d_Kp_unrule_9 : decode b_Kp_unrule 9 = .ok (.if_icmp .lt 5, 3) := by decide +kernel
theorem d_Kp_unrule_12 : decode b_Kp_unrule 12 = .ok (.iconst (-1), 1) := by decide +kernel
theorem d_Kp_unrule_13 : decode b_Kp_unrule 13 = .ok (.ireturn, 1) := by decide +kernel
theorem d_Kp_unrule_14 : decode b_Kp_unrule 14 = .ok (.iload_n 1, 1) := by decide +kernel
theorem d_Kp_unrule_15 : decode b_Kp_unrule 15 = .ok (.iconst 1, 1) := by decide +kernel
theorem d_Kp_unrule_16 : decode b_Kp_unrule 16 = .ok (.iadd, 1) := by decide +kernel
theorem d_Kp_unrule_17 : decode b_Kp_unrule 17 = .ok (.istore_n 2, 1) := by decide +kernel
theorem d_Kp_unrule_18 : decode b_Kp_unrule 18 = .ok (.iload_n 2, 1) := by decide +kernel
theorem d_Kp_unrule_19 : decode b_Kp_unrule 19 = .ok (.aload_n 0, 1) := by decide +kernel
theorem d_Kp_unrule_20 : decode b_Kp_unrule 20 = .ok (.getfield 40, 3) := by decide +kernel
theorem d_Kp_unrule_23 : decode b_Kp_unrule 23 = .ok (.if_icmp .ge 23, 3) := by decide +kernel
theorem d_Kp_unrule_26 : decode b_Kp_unrule 26 = .ok (.aload_n 0, 1) := by decide +kernel
theorem d_Kp_unrule_27 : decode b_Kp_unrule 27 = .ok (.getfield 36, 3) := by decide +kernel
theorem d_Kp_unrule_30 : decode b_Kp_unrule 30 = .ok (.iload_n 2, 1) := by decide +kernel
theorem d_Kp_unrule_31 : decode b_Kp_unrule 31 = .ok (.iconst 1, 1) := by decide +kernel
theorem d_Kp_unrule_32 : decode b_Kp_unrule 32 = .ok (.isub, 1) := by decide +kernel
theorem d_Kp_unrule_33 : decode b_Kp_unrule 33 = .ok (.aload_n 0, 1) := by decide +kernel
theorem d_Kp_unrule_34 : decode b_Kp_unrule 34 = .ok (.getfield 36, 3) := by decide +kernel
theorem d_Kp_unrule_37 : decode b_Kp_unrule 37 = .ok (.iload_n 2, 1) := by decide +kernel
theorem d_Kp_unrule_38 : decode b_Kp_unrule 38 = .ok (.aaload, 1) := by decide +kernel
theorem d_Kp_unrule_39 : decode b_Kp_unrule 39 = .ok (.aastore, 1) := by decide +kernel
theorem d_Kp_unrule_40 : decode b_Kp_unrule 40 = .ok (.iinc 2 1, 3) := by decide +kernel
theorem d_Kp_unrule_43 : decode b_Kp_unrule 43 = .ok (.goto (-25), 3) := by decide +kernel
theorem d_Kp_unrule_46 : decode b_Kp_unrule 46 = .ok (.aload_n 0, 1) := by decide +kernel
theorem d_Kp_unrule_47 : decode b_Kp_unrule 47 = .ok (.dup, 1) := by decide +kernel
theorem d_Kp_unrule_48 : decode b_Kp_unrule 48 = .ok (.getfield 40, 3) := by decide +kernel
theorem d_Kp_unrule_51 : decode b_Kp_unrule 51 = .ok (.iconst 1, 1) := by decide +kernel
theorem d_Kp_unrule_52 : decode b_Kp_unrule 52 = .ok (.isub, 1) := by decide +kernel
theorem d_Kp_unrule_53 : decode b_Kp_unrule 53 = .ok (.putfield 40, 3) := by decide +kernel
theorem d_Kp_unrule_56 : decode b_Kp_unrule 56 = .ok (.aload_n 0, 1) := by decide +kernel
theorem d_Kp_unrule_57 : decode b_Kp_unrule 57 = .ok (.invokevirtual 78, 3) := by decide +kernel
theorem d_Kp_unrule_60 : decode b_Kp_unrule 60 = .ok (.aload_n 0, 1) := by decide +kernel
theorem d_Kp_unrule_61 : decode b_Kp_unrule 61 = .ok (.getfield 40, 3) := by decide +kernel
theorem d_Kp_unrule_64 : decode b_Kp_unrule 64 = .ok (.ireturn, 1) := by decide +kernel
theorem d_Kp_rules_0 : decode b_Kp_rules 0 = .ok (.aload_n 0, 1) := by decide +kernel
theorem d_Kp_rules_1 : decode b_Kp_rules 1 = .ok (.getfield 40, 3) := by decide +kernel
theorem d_Kp_rules_4 : decode b_Kp_rules 4 = .ok (.ireturn, 1) := by decide +kernel
theorem d_Kp_holds_0 : decode b_Kp_holds 0 = .ok (.iload_n 1, 1) := by decide +kernel
theorem d_Kp_holds_1 : decode b_Kp_holds 1 = .ok (.iload_n 2, 1) := by decide +kernel
theorem d_Kp_holds_2 : decode b_Kp_holds 2 = .ok (.iload_n 3, 1) := by decide +kernel
theorem d_Kp_holds_3 : decode b_Kp_holds 3 = .ok (.invokestatic 53, 3) := by decide +kernel
theorem d_Kp_holds_6 : decode b_Kp_holds 6 = .ok (.ifCond .ne 5, 3) := by decide +kernel
theorem d_Kp_holds_9 : decode b_Kp_holds 9 = .ok (.iconst (-1), 1) := by decide +kernel
theorem d_Kp_holds_10 : decode b_Kp_holds 10 = .ok (.ireturn, 1) := by decide +kernel
theorem d_Kp_holds_11 : decode b_Kp_holds 11 = .ok (.iload_n 1, 1) := by decide +kernel
theorem d_Kp_holds_12 : decode b_Kp_holds 12 = .ok (.iload_n 2, 1) := by decide +kernel
theorem d_Kp_holds_13 : decode b_Kp_holds 13 = .ok (.iload_n 3, 1) := by decide +kernel
theorem d_Kp_holds_14 : decode b_Kp_holds 14 = .ok (.invokestatic 57, 3) := by decide +kernel
theorem d_Kp_holds_17 : decode b_Kp_holds 17 = .ok (.istore 4, 2) := by decide +kernel
theorem d_Kp_holds_19 : decode b_Kp_holds 19 = .ok (.aload_n 0, 1) := by decide +kernel
theorem d_Kp_holds_20 : decode b_Kp_holds 20 = .ok (.getfield 24, 3) := by decide +kernel
theorem d_Kp_holds_23 : decode b_Kp_holds 23 = .ok (.iload 4, 2) := by decide +kernel
theorem d_Kp_holds_25 : decode b_Kp_holds 25 = .ok (.invokevirtual 61, 3) := by decide +kernel
theorem d_Kp_holds_28 : decode b_Kp_holds 28 = .ok (.ifCond .eq 5, 3) := by decide +kernel
theorem d_Kp_holds_31 : decode b_Kp_holds 31 = .ok (.iconst 1, 1) := by decide +kernel
theorem d_Kp_holds_32 : decode b_Kp_holds 32 = .ok (.ireturn, 1) := by decide +kernel
theorem d_Kp_holds_33 : decode b_Kp_holds 33 = .ok (.aload_n 0, 1) := by decide +kernel
theorem d_Kp_holds_34 : decode b_Kp_holds 34 = .ok (.getfield 20, 3) := by decide +kernel
theorem d_Kp_holds_37 : decode b_Kp_holds 37 = .ok (.iload 4, 2) := by decide +kernel
theorem d_Kp_holds_39 : decode b_Kp_holds 39 = .ok (.invokevirtual 65, 3) := by decide +kernel
theorem d_Kp_holds_42 : decode b_Kp_holds 42 = .ok (.ifCond .eq 7, 3) := by decide +kernel
theorem d_Kp_holds_45 : decode b_Kp_holds 45 = .ok (.iconst 2, 1) := by decide +kernel
theorem d_Kp_holds_46 : decode b_Kp_holds 46 = .ok (.goto 4, 3) := by decide +kernel
theorem d_Kp_holds_49 : decode b_Kp_holds 49 = .ok (.iconst 0, 1) := by decide +kernel
theorem d_Kp_holds_50 : decode b_Kp_holds 50 = .ok (.ireturn, 1) := by decide +kernel
theorem d_Kp_support_0 : decode b_Kp_support 0 = .ok (.iload_n 1, 1) := by decide +kernel
theorem d_Kp_support_1 : decode b_Kp_support 1 = .ok (.iload_n 2, 1) := by decide +kernel
theorem d_Kp_support_2 : decode b_Kp_support 2 = .ok (.iload_n 3, 1) := by decide +kernel
theorem d_Kp_support_3 : decode b_Kp_support 3 = .ok (.invokestatic 53, 3) := by decide +kernel
theorem d_Kp_support_6 : decode b_Kp_support 6 = .ok (.ifCond .ne 5, 3) := by decide +kernel
theorem d_Kp_support_9 : decode b_Kp_support 9 = .ok (.iconst (-1), 1) := by decide +kernel
theorem d_Kp_support_10 : decode b_Kp_support 10 = .ok (.ireturn, 1) := by decide +kernel
theorem d_Kp_support_11 : decode b_Kp_support 11 = .ok (.iload_n 1, 1) := by decide +kernel
theorem d_Kp_support_12 : decode b_Kp_support 12 = .ok (.iload_n 2, 1) := by decide +kernel
theorem d_Kp_support_13 : decode b_Kp_support 13 = .ok (.iload_n 3, 1) := by decide +kernel
theorem d_Kp_support_14 : decode b_Kp_support 14 = .ok (.invokestatic 57, 3) := by decide +kernel
theorem d_Kp_support_17 : decode b_Kp_support 17 = .ok (.istore 4, 2) := by decide +kernel
theorem d_Kp_support_19 : decode b_Kp_support 19 = .ok (.iconst 0, 1) := by decide +kernel
theorem d_Kp_support_20 : decode b_Kp_support 20 = .ok (.istore 5, 2) := by decide +kernel
theorem d_Kp_support_22 : decode b_Kp_support 22 = .ok (.iconst 0, 1) := by decide +kernel
theorem d_Kp_support_23 : decode b_Kp_support 23 = .ok (.istore 6, 2) := by decide +kernel
theorem d_Kp_support_25 : decode b_Kp_support 25 = .ok (.iload 6, 2) := by decide +kernel
theorem d_Kp_support_27 : decode b_Kp_support 27 = .ok (.aload_n 0, 1) := by decide +kernel
theorem d_Kp_support_28 : decode b_Kp_support 28 = .ok (.getfield 40, 3) := by decide +kernel
theorem d_Kp_support_31 : decode b_Kp_support 31 = .ok (.if_icmp .ge 30, 3) := by decide +kernel
theorem d_Kp_support_34 : decode b_Kp_support 34 = .ok (.iload 5, 2) := by decide +kernel
theorem d_Kp_support_36 : decode b_Kp_support 36 = .ok (.aload_n 0, 1) := by decide +kernel
theorem d_Kp_support_37 : decode b_Kp_support 37 = .ok (.getfield 12, 3) := by decide +kernel
theorem d_Kp_support_40 : decode b_Kp_support 40 = .ok (.aload_n 0, 1) := by decide +kernel
theorem d_Kp_support_41 : decode b_Kp_support 41 = .ok (.getfield 36, 3) := by decide +kernel
theorem d_Kp_support_44 : decode b_Kp_support 44 = .ok (.iload 6, 2) := by decide +kernel
theorem d_Kp_support_46 : decode b_Kp_support 46 = .ok (.aaload, 1) := by decide +kernel
theorem d_Kp_support_47 : decode b_Kp_support 47 = .ok (.iload 4, 2) := by decide +kernel
theorem d_Kp_support_49 : decode b_Kp_support 49 = .ok (.invokevirtual 102, 3) := by decide +kernel
theorem d_Kp_support_52 : decode b_Kp_support 52 = .ok (.iadd, 1) := by decide +kernel
theorem d_Kp_support_53 : decode b_Kp_support 53 = .ok (.istore 5, 2) := by decide +kernel
theorem d_Kp_support_55 : decode b_Kp_support 55 = .ok (.iinc 6 1, 3) := by decide +kernel
theorem d_Kp_support_58 : decode b_Kp_support 58 = .ok (.goto (-33), 3) := by decide +kernel
theorem d_Kp_support_61 : decode b_Kp_support 61 = .ok (.iload 5, 2) := by decide +kernel
theorem d_Kp_support_63 : decode b_Kp_support 63 = .ok (.ireturn, 1) := by decide +kernel
theorem d_Kp_size_0 : decode b_Kp_size 0 = .ok (.aload_n 0, 1) := by decide +kernel
theorem d_Kp_size_1 : decode b_Kp_size 1 = .ok (.getfield 20, 3) := by decide +kernel
theorem d_Kp_size_4 : decode b_Kp_size 4 = .ok (.getfield 88, 3) := by decide +kernel
theorem d_Kp_size_7 : decode b_Kp_size 7 = .ok (.ireturn, 1) := by decide +kernel
theorem d_Kp_next_0 : decode b_Kp_next 0 = .ok (.bipush (-2), 2) := by decide +kernel
theorem d_Kp_next_2 : decode b_Kp_next 2 = .ok (.istore_n 2, 1) := by decide +kernel
theorem d_Kp_next_3 : decode b_Kp_next 3 = .ok (.iconst 0, 1) := by decide +kernel
theorem d_Kp_next_4 : decode b_Kp_next 4 = .ok (.istore_n 3, 1) := by decide +kernel
theorem d_Kp_next_5 : decode b_Kp_next 5 = .ok (.iload_n 3, 1) := by decide +kernel
theorem d_Kp_next_6 : decode b_Kp_next 6 = .ok (.aload_n 0, 1) := by decide +kernel
theorem d_Kp_next_7 : decode b_Kp_next 7 = .ok (.getfield 20, 3) := by decide +kernel
theorem d_Kp_next_10 : decode b_Kp_next 10 = .ok (.getfield 88, 3) := by decide +kernel
theorem d_Kp_next_13 : decode b_Kp_next 13 = .ok (.if_icmp .ge 41, 3) := by decide +kernel
theorem d_Kp_next_16 : decode b_Kp_next 16 = .ok (.aload_n 0, 1) := by decide +kernel
theorem d_Kp_next_17 : decode b_Kp_next 17 = .ok (.getfield 20, 3) := by decide +kernel
theorem d_Kp_next_20 : decode b_Kp_next 20 = .ok (.getfield 106, 3) := by decide +kernel
theorem d_Kp_next_23 : decode b_Kp_next 23 = .ok (.iload_n 3, 1) := by decide +kernel
theorem d_Kp_next_24 : decode b_Kp_next 24 = .ok (.iaload, 1) := by decide +kernel
theorem d_Kp_next_25 : decode b_Kp_next 25 = .ok (.istore 4, 2) := by decide +kernel
theorem d_Kp_next_27 : decode b_Kp_next 27 = .ok (.iload 4, 2) := by decide +kernel
theorem d_Kp_next_29 : decode b_Kp_next 29 = .ok (.iload_n 1, 1) := by decide +kernel
theorem d_Kp_next_30 : decode b_Kp_next 30 = .ok (.if_icmp .le 18, 3) := by decide +kernel
theorem d_Kp_next_33 : decode b_Kp_next 33 = .ok (.iload_n 2, 1) := by decide +kernel
theorem d_Kp_next_34 : decode b_Kp_next 34 = .ok (.bipush (-2), 2) := by decide +kernel
theorem d_Kp_next_36 : decode b_Kp_next 36 = .ok (.if_icmp .eq 9, 3) := by decide +kernel
theorem d_Kp_next_39 : decode b_Kp_next 39 = .ok (.iload 4, 2) := by decide +kernel
theorem d_Kp_next_41 : decode b_Kp_next 41 = .ok (.iload_n 2, 1) := by decide +kernel
theorem d_Kp_next_42 : decode b_Kp_next 42 = .ok (.if_icmp .ge 6, 3) := by decide +kernel
theorem d_Kp_next_45 : decode b_Kp_next 45 = .ok (.iload 4, 2) := by decide +kernel
theorem d_Kp_next_47 : decode b_Kp_next 47 = .ok (.istore_n 2, 1) := by decide +kernel
theorem d_Kp_next_48 : decode b_Kp_next 48 = .ok (.iinc 3 1, 3) := by decide +kernel
theorem d_Kp_next_51 : decode b_Kp_next 51 = .ok (.goto (-46), 3) := by decide +kernel
theorem d_Kp_next_54 : decode b_Kp_next 54 = .ok (.iload_n 2, 1) := by decide +kernel
theorem d_Kp_next_55 : decode b_Kp_next 55 = .ok (.ireturn, 1) := by decide +kernel
theorem d_Kp_fitting_0 : decode b_Kp_fitting 0 = .ok (.iload_n 1, 1) := by decide +kernel
theorem d_Kp_fitting_1 : decode b_Kp_fitting 1 = .ok (.iload_n 2, 1) := by decide +kernel
theorem d_Kp_fitting_2 : decode b_Kp_fitting 2 = .ok (.iload_n 3, 1) := by decide +kernel
theorem d_Kp_fitting_3 : decode b_Kp_fitting 3 = .ok (.invokestatic 81, 3) := by decide +kernel
theorem d_Kp_fitting_6 : decode b_Kp_fitting 6 = .ok (.ifCond .ne 5, 3) := by decide +kernel
theorem d_Kp_fitting_9 : decode b_Kp_fitting 9 = .ok (.iconst (-1), 1) := by decide +kernel
theorem d_Kp_fitting_10 : decode b_Kp_fitting 10 = .ok (.ireturn, 1) := by decide +kernel
theorem d_Kp_fitting_11 : decode b_Kp_fitting 11 = .ok (.new 28, 3) := by decide +kernel
theorem d_Kp_fitting_14 : decode b_Kp_fitting 14 = .ok (.dup, 1) := by decide +kernel
theorem d_Kp_fitting_15 : decode b_Kp_fitting 15 = .ok (.iload_n 1, 1) := by decide +kernel
theorem d_Kp_fitting_16 : decode b_Kp_fitting 16 = .ok (.iload_n 2, 1) := by decide +kernel
theorem d_Kp_fitting_17 : decode b_Kp_fitting 17 = .ok (.iload_n 3, 1) := by decide +kernel
theorem d_Kp_fitting_18 : decode b_Kp_fitting 18 = .ok (.invokespecial 47, 3) := by decide +kernel
theorem d_Kp_fitting_21 : decode b_Kp_fitting 21 = .ok (.astore 4, 2) := by decide +kernel
theorem d_Kp_fitting_23 : decode b_Kp_fitting 23 = .ok (.iconst 0, 1) := by decide +kernel
theorem d_Kp_fitting_24 : decode b_Kp_fitting 24 = .ok (.istore 5, 2) := by decide +kernel
theorem d_Kp_fitting_26 : decode b_Kp_fitting 26 = .ok (.iconst 0, 1) := by decide +kernel
theorem d_Kp_fitting_27 : decode b_Kp_fitting 27 = .ok (.istore 6, 2) := by decide +kernel
theorem d_Kp_fitting_29 : decode b_Kp_fitting 29 = .ok (.iload 6, 2) := by decide +kernel
theorem d_Kp_fitting_31 : decode b_Kp_fitting 31 = .ok (.aload_n 0, 1) := by decide +kernel
theorem d_Kp_fitting_32 : decode b_Kp_fitting 32 = .ok (.getfield 20, 3) := by decide +kernel
theorem d_Kp_fitting_35 : decode b_Kp_fitting 35 = .ok (.getfield 88, 3) := by decide +kernel
theorem d_Kp_fitting_38 : decode b_Kp_fitting 38 = .ok (.if_icmp .ge 30, 3) := by decide +kernel
theorem d_Kp_fitting_41 : decode b_Kp_fitting 41 = .ok (.aload 4, 2) := by decide +kernel
theorem d_Kp_fitting_43 : decode b_Kp_fitting 43 = .ok (.aload_n 0, 1) := by decide +kernel
theorem d_Kp_fitting_44 : decode b_Kp_fitting 44 = .ok (.getfield 20, 3) := by decide +kernel
theorem d_Kp_fitting_47 : decode b_Kp_fitting 47 = .ok (.getfield 106, 3) := by decide +kernel
theorem d_Kp_fitting_50 : decode b_Kp_fitting 50 = .ok (.iload 6, 2) := by decide +kernel
theorem d_Kp_fitting_52 : decode b_Kp_fitting 52 = .ok (.iaload, 1) := by decide +kernel
theorem d_Kp_fitting_53 : decode b_Kp_fitting 53 = .ok (.invokevirtual 110, 3) := by decide +kernel
theorem d_Kp_fitting_56 : decode b_Kp_fitting 56 = .ok (.ifCond .eq 6, 3) := by decide +kernel
theorem d_Kp_fitting_59 : decode b_Kp_fitting 59 = .ok (.iinc 5 1, 3) := by decide +kernel
theorem d_Kp_fitting_62 : decode b_Kp_fitting 62 = .ok (.iinc 6 1, 3) := by decide +kernel
theorem d_Kp_fitting_65 : decode b_Kp_fitting 65 = .ok (.goto (-36), 3) := by decide +kernel
theorem d_Kp_fitting_68 : decode b_Kp_fitting 68 = .ok (.iload 5, 2) := by decide +kernel
theorem d_Kp_fitting_70 : decode b_Kp_fitting 70 = .ok (.ireturn, 1) := by decide +kernel
theorem d_Kp_clear_0 : decode b_Kp_clear 0 = .ok (.iconst 0, 1) := by decide +kernel
theorem d_Kp_clear_1 : decode b_Kp_clear 1 = .ok (.istore_n 1, 1) := by decide +kernel
theorem d_Kp_clear_2 : decode b_Kp_clear 2 = .ok (.iconst 0, 1) := by decide +kernel
theorem d_Kp_clear_3 : decode b_Kp_clear 3 = .ok (.istore_n 2, 1) := by decide +kernel
theorem d_Kp_clear_4 : decode b_Kp_clear 4 = .ok (.iload_n 2, 1) := by decide +kernel
theorem d_Kp_clear_5 : decode b_Kp_clear 5 = .ok (.aload_n 0, 1) := by decide +kernel
theorem d_Kp_clear_6 : decode b_Kp_clear 6 = .ok (.getfield 20, 3) := by decide +kernel
theorem d_Kp_clear_9 : decode b_Kp_clear 9 = .ok (.getfield 88, 3) := by decide +kernel
theorem d_Kp_clear_12 : decode b_Kp_clear 12 = .ok (.if_icmp .ge 47, 3) := by decide +kernel
theorem d_Kp_clear_15 : decode b_Kp_clear 15 = .ok (.aload_n 0, 1) := by decide +kernel
theorem d_Kp_clear_16 : decode b_Kp_clear 16 = .ok (.getfield 24, 3) := by decide +kernel
theorem d_Kp_clear_19 : decode b_Kp_clear 19 = .ok (.aload_n 0, 1) := by decide +kernel
theorem d_Kp_clear_20 : decode b_Kp_clear 20 = .ok (.getfield 20, 3) := by decide +kernel
theorem d_Kp_clear_23 : decode b_Kp_clear 23 = .ok (.getfield 106, 3) := by decide +kernel
theorem d_Kp_clear_26 : decode b_Kp_clear 26 = .ok (.iload_n 2, 1) := by decide +kernel
theorem d_Kp_clear_27 : decode b_Kp_clear 27 = .ok (.iaload, 1) := by decide +kernel
theorem d_Kp_clear_28 : decode b_Kp_clear 28 = .ok (.invokevirtual 61, 3) := by decide +kernel
theorem d_Kp_clear_31 : decode b_Kp_clear 31 = .ok (.ifCond .eq 22, 3) := by decide +kernel
theorem d_Kp_clear_34 : decode b_Kp_clear 34 = .ok (.aload_n 0, 1) := by decide +kernel
theorem d_Kp_clear_35 : decode b_Kp_clear 35 = .ok (.getfield 24, 3) := by decide +kernel
theorem d_Kp_clear_38 : decode b_Kp_clear 38 = .ok (.aload_n 0, 1) := by decide +kernel
theorem d_Kp_clear_39 : decode b_Kp_clear 39 = .ok (.getfield 20, 3) := by decide +kernel
theorem d_Kp_clear_42 : decode b_Kp_clear 42 = .ok (.getfield 106, 3) := by decide +kernel
theorem d_Kp_clear_45 : decode b_Kp_clear 45 = .ok (.iload_n 2, 1) := by decide +kernel
theorem d_Kp_clear_46 : decode b_Kp_clear 46 = .ok (.iaload, 1) := by decide +kernel
theorem d_Kp_clear_47 : decode b_Kp_clear 47 = .ok (.invokevirtual 75, 3) := by decide +kernel
theorem d_Kp_clear_50 : decode b_Kp_clear 50 = .ok (.iinc 1 1, 3) := by decide +kernel
theorem d_Kp_clear_53 : decode b_Kp_clear 53 = .ok (.iinc 2 1, 3) := by decide +kernel
theorem d_Kp_clear_56 : decode b_Kp_clear 56 = .ok (.goto (-52), 3) := by decide +kernel
theorem d_Kp_clear_59 : decode b_Kp_clear 59 = .ok (.aload_n 0, 1) := by decide +kernel
theorem d_Kp_clear_60 : decode b_Kp_clear 60 = .ok (.getfield 20, 3) := by decide +kernel
theorem d_Kp_clear_63 : decode b_Kp_clear 63 = .ok (.iconst 0, 1) := by decide +kernel
theorem d_Kp_clear_64 : decode b_Kp_clear 64 = .ok (.invokevirtual 99, 3) := by decide +kernel
theorem d_Kp_clear_67 : decode b_Kp_clear 67 = .ok (.iload_n 1, 1) := by decide +kernel
theorem d_Kp_clear_68 : decode b_Kp_clear 68 = .ok (.ireturn, 1) := by decide +kernel
theorem d_Kp_isNumber_0 : decode b_Kp_isNumber 0 = .ok (.iload_n 0, 1) := by decide +kernel
theorem d_Kp_isNumber_1 : decode b_Kp_isNumber 1 = .ok (.ifCond .lt 13, 3) := by decide +kernel
theorem d_Kp_isNumber_4 : decode b_Kp_isNumber 4 = .ok (.iload_n 0, 1) := by decide +kernel
theorem d_Kp_isNumber_5 : decode b_Kp_isNumber 5 = .ok (.bipush 32, 2) := by decide +kernel
theorem d_Kp_isNumber_7 : decode b_Kp_isNumber 7 = .ok (.if_icmp .ge 7, 3) := by decide +kernel
theorem d_Kp_isNumber_10 : decode b_Kp_isNumber 10 = .ok (.iconst 1, 1) := by decide +kernel
theorem d_Kp_isNumber_11 : decode b_Kp_isNumber 11 = .ok (.goto 4, 3) := by decide +kernel
theorem d_Kp_isNumber_14 : decode b_Kp_isNumber 14 = .ok (.iconst 0, 1) := by decide +kernel
theorem d_Kp_isNumber_15 : decode b_Kp_isNumber 15 = .ok (.ireturn, 1) := by decide +kernel
theorem d_Kp_isTriple_0 : decode b_Kp_isTriple 0 = .ok (.iload_n 0, 1) := by decide +kernel
theorem d_Kp_isTriple_1 : decode b_Kp_isTriple 1 = .ok (.invokestatic 113, 3) := by decide +kernel
theorem d_Kp_isTriple_4 : decode b_Kp_isTriple 4 = .ok (.ifCond .eq 21, 3) := by decide +kernel
theorem d_Kp_isTriple_7 : decode b_Kp_isTriple 7 = .ok (.iload_n 1, 1) := by decide +kernel
theorem d_Kp_isTriple_8 : decode b_Kp_isTriple 8 = .ok (.invokestatic 113, 3) := by decide +kernel
theorem d_Kp_isTriple_11 : decode b_Kp_isTriple 11 = .ok (.ifCond .eq 14, 3) := by decide +kernel
theorem d_Kp_isTriple_14 : decode b_Kp_isTriple 14 = .ok (.iload_n 2, 1) := by decide +kernel
theorem d_Kp_isTriple_15 : decode b_Kp_isTriple 15 = .ok (.invokestatic 113, 3) := by decide +kernel
theorem d_Kp_isTriple_18 : decode b_Kp_isTriple 18 = .ok (.ifCond .eq 7, 3) := by decide +kernel
theorem d_Kp_isTriple_21 : decode b_Kp_isTriple 21 = .ok (.iconst 1, 1) := by decide +kernel
theorem d_Kp_isTriple_22 : decode b_Kp_isTriple 22 = .ok (.goto 4, 3) := by decide +kernel
theorem d_Kp_isTriple_25 : decode b_Kp_isTriple 25 = .ok (.iconst 0, 1) := by decide +kernel
theorem d_Kp_isTriple_26 : decode b_Kp_isTriple 26 = .ok (.ireturn, 1) := by decide +kernel
theorem d_Kp_isItem_0 : decode b_Kp_isItem 0 = .ok (.iload_n 0, 1) := by decide +kernel
theorem d_Kp_isItem_1 : decode b_Kp_isItem 1 = .ok (.bipush (-8), 2) := by decide +kernel
theorem d_Kp_isItem_3 : decode b_Kp_isItem 3 = .ok (.if_icmp .lt 13, 3) := by decide +kernel
theorem d_Kp_isItem_6 : decode b_Kp_isItem 6 = .ok (.iload_n 0, 1) := by decide +kernel
theorem d_Kp_isItem_7 : decode b_Kp_isItem 7 = .ok (.bipush 32, 2) := by decide +kernel
theorem d_Kp_isItem_9 : decode b_Kp_isItem 9 = .ok (.if_icmp .ge 7, 3) := by decide +kernel
theorem d_Kp_isItem_12 : decode b_Kp_isItem 12 = .ok (.iconst 1, 1) := by decide +kernel
theorem d_Kp_isItem_13 : decode b_Kp_isItem 13 = .ok (.goto 4, 3) := by decide +kernel
theorem d_Kp_isItem_16 : decode b_Kp_isItem 16 = .ok (.iconst 0, 1) := by decide +kernel
theorem d_Kp_isItem_17 : decode b_Kp_isItem 17 = .ok (.ireturn, 1) := by decide +kernel
theorem d_Kp_isPattern_0 : decode b_Kp_isPattern 0 = .ok (.iload_n 0, 1) := by decide +kernel
theorem d_Kp_isPattern_1 : decode b_Kp_isPattern 1 = .ok (.invokestatic 116, 3) := by decide +kernel
theorem d_Kp_isPattern_4 : decode b_Kp_isPattern 4 = .ok (.ifCond .eq 21, 3) := by decide +kernel
theorem d_Kp_isPattern_7 : decode b_Kp_isPattern 7 = .ok (.iload_n 1, 1) := by decide +kernel
theorem d_Kp_isPattern_8 : decode b_Kp_isPattern 8 = .ok (.invokestatic 116, 3) := by decide +kernel
theorem d_Kp_isPattern_11 : decode b_Kp_isPattern 11 = .ok (.ifCond .eq 14, 3) := by decide +kernel
theorem d_Kp_isPattern_14 : decode b_Kp_isPattern 14 = .ok (.iload_n 2, 1) := by decide +kernel
theorem d_Kp_isPattern_15 : decode b_Kp_isPattern 15 = .ok (.invokestatic 116, 3) := by decide +kernel
theorem d_Kp_isPattern_18 : decode b_Kp_isPattern 18 = .ok (.ifCond .eq 7, 3) := by decide +kernel
theorem d_Kp_isPattern_21 : decode b_Kp_isPattern 21 = .ok (.iconst 1, 1) := by decide +kernel
theorem d_Kp_isPattern_22 : decode b_Kp_isPattern 22 = .ok (.goto 4, 3) := by decide +kernel
theorem d_Kp_isPattern_25 : decode b_Kp_isPattern 25 = .ok (.iconst 0, 1) := by decide +kernel
theorem d_Kp_isPattern_26 : decode b_Kp_isPattern 26 = .ok (.ireturn, 1) := by decide +kernel
theorem d_Kp_codeOf_0 : decode b_Kp_codeOf 0 = .ok (.iload_n 0, 1) := by decide +kernel
theorem d_Kp_codeOf_1 : decode b_Kp_codeOf 1 = .ok (.bipush 32, 2) := by decide +kernel
theorem d_Kp_codeOf_3 : decode b_Kp_codeOf 3 = .ok (.imul, 1) := by decide +kernel
theorem d_Kp_codeOf_4 : decode b_Kp_codeOf 4 = .ok (.iload_n 1, 1) := by decide +kernel
theorem d_Kp_codeOf_5 : decode b_Kp_codeOf 5 = .ok (.iadd, 1) := by decide +kernel
theorem d_Kp_codeOf_6 : decode b_Kp_codeOf 6 = .ok (.bipush 32, 2) := by decide +kernel
theorem d_Kp_codeOf_8 : decode b_Kp_codeOf 8 = .ok (.imul, 1) := by decide +kernel
theorem d_Kp_codeOf_9 : decode b_Kp_codeOf 9 = .ok (.iload_n 2, 1) := by decide +kernel
theorem d_Kp_codeOf_10 : decode b_Kp_codeOf 10 = .ok (.iadd, 1) := by decide +kernel
theorem d_Kp_codeOf_11 : decode b_Kp_codeOf 11 = .ok (.ireturn, 1) := by decide +kernel
theorem d_Kp_draftIsRule_0 : decode b_Kp_draftIsRule 0 = .ok (.aload_n 0, 1) := by decide +kernel
theorem d_Kp_draftIsRule_1 : decode b_Kp_draftIsRule 1 = .ok (.getfield 44, 3) := by decide +kernel
theorem d_Kp_draftIsRule_4 : decode b_Kp_draftIsRule 4 = .ok (.iconst 2, 1) := by decide +kernel
theorem d_Kp_draftIsRule_5 : decode b_Kp_draftIsRule 5 = .ok (.if_icmp .ge 5, 3) := by decide +kernel
theorem d_Kp_draftIsRule_8 : decode b_Kp_draftIsRule 8 = .ok (.iconst 0, 1) := by decide +kernel
theorem d_Kp_draftIsRule_9 : decode b_Kp_draftIsRule 9 = .ok (.ireturn, 1) := by decide +kernel
theorem d_Kp_draftIsRule_10 : decode b_Kp_draftIsRule 10 = .ok (.aload_n 0, 1) := by decide +kernel
theorem d_Kp_draftIsRule_11 : decode b_Kp_draftIsRule 11 = .ok (.getfield 44, 3) := by decide +kernel
theorem d_Kp_draftIsRule_14 : decode b_Kp_draftIsRule 14 = .ok (.iconst 1, 1) := by decide +kernel
theorem d_Kp_draftIsRule_15 : decode b_Kp_draftIsRule 15 = .ok (.isub, 1) := by decide +kernel
theorem d_Kp_draftIsRule_16 : decode b_Kp_draftIsRule 16 = .ok (.istore_n 1, 1) := by decide +kernel
theorem d_Kp_draftIsRule_17 : decode b_Kp_draftIsRule 17 = .ok (.iconst 0, 1) := by decide +kernel
theorem d_Kp_draftIsRule_18 : decode b_Kp_draftIsRule 18 = .ok (.istore_n 2, 1) := by decide +kernel
theorem d_Kp_draftIsRule_19 : decode b_Kp_draftIsRule 19 = .ok (.iconst 0, 1) := by decide +kernel
theorem d_Kp_draftIsRule_20 : decode b_Kp_draftIsRule 20 = .ok (.istore_n 3, 1) := by decide +kernel
theorem d_Kp_draftIsRule_21 : decode b_Kp_draftIsRule 21 = .ok (.iload_n 3, 1) := by decide +kernel
theorem d_Kp_draftIsRule_22 : decode b_Kp_draftIsRule 22 = .ok (.iload_n 1, 1) := by decide +kernel
theorem d_Kp_draftIsRule_23 : decode b_Kp_draftIsRule 23 = .ok (.if_icmp .ge 21, 3) := by decide +kernel
theorem d_Kp_draftIsRule_26 : decode b_Kp_draftIsRule 26 = .ok (.iload_n 2, 1) := by decide +kernel
theorem d_Kp_draftIsRule_27 : decode b_Kp_draftIsRule 27 = .ok (.aload_n 0, 1) := by decide +kernel
theorem d_Kp_draftIsRule_28 : decode b_Kp_draftIsRule 28 = .ok (.getfield 30, 3) := by decide +kernel
theorem d_Kp_draftIsRule_31 : decode b_Kp_draftIsRule 31 = .ok (.iload_n 3, 1) := by decide +kernel
theorem d_Kp_draftIsRule_32 : decode b_Kp_draftIsRule 32 = .ok (.aaload, 1) := by decide +kernel
theorem d_Kp_draftIsRule_33 : decode b_Kp_draftIsRule 33 = .ok (.getfield 119, 3) := by decide +kernel
theorem d_Kp_draftIsRule_36 : decode b_Kp_draftIsRule 36 = .ok (.ior, 1) := by decide +kernel
theorem d_Kp_draftIsRule_37 : decode b_Kp_draftIsRule 37 = .ok (.istore_n 2, 1) := by decide +kernel
theorem d_Kp_draftIsRule_38 : decode b_Kp_draftIsRule 38 = .ok (.iinc 3 1, 3) := by decide +kernel
theorem d_Kp_draftIsRule_41 : decode b_Kp_draftIsRule 41 = .ok (.goto (-20), 3) := by decide +kernel
theorem d_Kp_draftIsRule_44 : decode b_Kp_draftIsRule 44 = .ok (.aload_n 0, 1) := by decide +kernel
theorem d_Kp_draftIsRule_45 : decode b_Kp_draftIsRule 45 = .ok (.getfield 30, 3) := by decide +kernel
theorem d_Kp_draftIsRule_48 : decode b_Kp_draftIsRule 48 = .ok (.iload_n 1, 1) := by decide +kernel
theorem d_Kp_draftIsRule_49 : decode b_Kp_draftIsRule 49 = .ok (.aaload, 1) := by decide +kernel
theorem d_Kp_draftIsRule_50 : decode b_Kp_draftIsRule 50 = .ok (.getfield 119, 3) := by decide +kernel
theorem d_Kp_draftIsRule_53 : decode b_Kp_draftIsRule 53 = .ok (.iload_n 2, 1) := by decide +kernel
theorem d_Kp_draftIsRule_54 : decode b_Kp_draftIsRule 54 = .ok (.iconst (-1), 1) := by decide +kernel
theorem d_Kp_draftIsRule_55 : decode b_Kp_draftIsRule 55 = .ok (.ixor, 1) := by decide +kernel
theorem d_Kp_draftIsRule_56 : decode b_Kp_draftIsRule 56 = .ok (.iand, 1) := by decide +kernel
theorem d_Kp_draftIsRule_57 : decode b_Kp_draftIsRule 57 = .ok (.ifCond .ne 7, 3) := by decide +kernel
theorem d_Kp_draftIsRule_60 : decode b_Kp_draftIsRule 60 = .ok (.iconst 1, 1) := by decide +kernel
theorem d_Kp_draftIsRule_61 : decode b_Kp_draftIsRule 61 = .ok (.goto 4, 3) := by decide +kernel
theorem d_Kp_draftIsRule_64 : decode b_Kp_draftIsRule 64 = .ok (.iconst 0, 1) := by decide +kernel
theorem d_Kp_draftIsRule_65 : decode b_Kp_draftIsRule 65 = .ok (.ireturn, 1) := by decide +kernel
theorem d_Kp_ruleOfDraft_0 : decode b_Kp_ruleOfDraft 0 = .ok (.aload_n 0, 1) := by decide +kernel
theorem d_Kp_ruleOfDraft_1 : decode b_Kp_ruleOfDraft 1 = .ok (.getfield 44, 3) := by decide +kernel
theorem d_Kp_ruleOfDraft_4 : decode b_Kp_ruleOfDraft 4 = .ok (.iconst 1, 1) := by decide +kernel
theorem d_Kp_ruleOfDraft_5 : decode b_Kp_ruleOfDraft 5 = .ok (.isub, 1) := by decide +kernel
theorem d_Kp_ruleOfDraft_6 : decode b_Kp_ruleOfDraft 6 = .ok (.iconst 0, 1) := by decide +kernel
theorem d_Kp_ruleOfDraft_7 : decode b_Kp_ruleOfDraft 7 = .ok (.invokestatic 122, 3) := by decide +kernel
theorem d_Kp_ruleOfDraft_10 : decode b_Kp_ruleOfDraft 10 = .ok (.istore_n 1, 1) := by decide +kernel
theorem d_Kp_ruleOfDraft_11 : decode b_Kp_ruleOfDraft 11 = .ok (.iload_n 1, 1) := by decide +kernel
theorem d_Kp_ruleOfDraft_12 : decode b_Kp_ruleOfDraft 12 = .ok (.anewarray 28, 3) := by decide +kernel
theorem d_Kp_ruleOfDraft_15 : decode b_Kp_ruleOfDraft 15 = .ok (.astore_n 2, 1) := by decide +kernel
theorem d_Kp_ruleOfDraft_16 : decode b_Kp_ruleOfDraft 16 = .ok (.iconst 0, 1) := by decide +kernel
theorem d_Kp_ruleOfDraft_17 : decode b_Kp_ruleOfDraft 17 = .ok (.istore_n 3, 1) := by decide +kernel
theorem d_Kp_ruleOfDraft_18 : decode b_Kp_ruleOfDraft 18 = .ok (.iload_n 3, 1) := by decide +kernel
theorem d_Kp_ruleOfDraft_19 : decode b_Kp_ruleOfDraft 19 = .ok (.iload_n 1, 1) := by decide +kernel
theorem d_Kp_ruleOfDraft_20 : decode b_Kp_ruleOfDraft 20 = .ok (.if_icmp .ge 18, 3) := by decide +kernel
theorem d_Kp_ruleOfDraft_23 : decode b_Kp_ruleOfDraft 23 = .ok (.aload_n 2, 1) := by decide +kernel
theorem d_Kp_ruleOfDraft_24 : decode b_Kp_ruleOfDraft 24 = .ok (.iload_n 3, 1) := by decide +kernel
theorem d_Kp_ruleOfDraft_25 : decode b_Kp_ruleOfDraft 25 = .ok (.aload_n 0, 1) := by decide +kernel
theorem d_Kp_ruleOfDraft_26 : decode b_Kp_ruleOfDraft 26 = .ok (.getfield 30, 3) := by decide +kernel
theorem d_Kp_ruleOfDraft_29 : decode b_Kp_ruleOfDraft 29 = .ok (.iload_n 3, 1) := by decide +kernel
theorem d_Kp_ruleOfDraft_30 : decode b_Kp_ruleOfDraft 30 = .ok (.aaload, 1) := by decide +kernel
theorem d_Kp_ruleOfDraft_31 : decode b_Kp_ruleOfDraft 31 = .ok (.aastore, 1) := by decide +kernel
theorem d_Kp_ruleOfDraft_32 : decode b_Kp_ruleOfDraft 32 = .ok (.iinc 3 1, 3) := by decide +kernel
theorem d_Kp_ruleOfDraft_35 : decode b_Kp_ruleOfDraft 35 = .ok (.goto (-17), 3) := by decide +kernel
theorem d_Kp_ruleOfDraft_38 : decode b_Kp_ruleOfDraft 38 = .ok (.new 34, 3) := by decide +kernel
theorem d_Kp_ruleOfDraft_41 : decode b_Kp_ruleOfDraft 41 = .ok (.dup, 1) := by decide +kernel
theorem d_Kp_ruleOfDraft_42 : decode b_Kp_ruleOfDraft 42 = .ok (.aload_n 2, 1) := by decide +kernel
theorem d_Kp_ruleOfDraft_43 : decode b_Kp_ruleOfDraft 43 = .ok (.aload_n 0, 1) := by decide +kernel
theorem d_Kp_ruleOfDraft_44 : decode b_Kp_ruleOfDraft 44 = .ok (.getfield 30, 3) := by decide +kernel
theorem d_Kp_ruleOfDraft_47 : decode b_Kp_ruleOfDraft 47 = .ok (.iload_n 1, 1) := by decide +kernel
theorem d_Kp_ruleOfDraft_48 : decode b_Kp_ruleOfDraft 48 = .ok (.aaload, 1) := by decide +kernel
theorem d_Kp_ruleOfDraft_49 : decode b_Kp_ruleOfDraft 49 = .ok (.invokespecial 50, 3) := by decide +kernel
theorem d_Kp_ruleOfDraft_52 : decode b_Kp_ruleOfDraft 52 = .ok (.areturn, 1) := by decide +kernel
theorem d_Kp_hold_0 : decode b_Kp_hold 0 = .ok (.aload_n 0, 1) := by decide +kernel
theorem d_Kp_hold_1 : decode b_Kp_hold 1 = .ok (.getfield 20, 3) := by decide +kernel
theorem d_Kp_hold_4 : decode b_Kp_hold 4 = .ok (.getfield 88, 3) := by decide +kernel
theorem d_Kp_hold_7 : decode b_Kp_hold 7 = .ok (.istore_n 2, 1) := by decide +kernel
theorem d_Kp_hold_8 : decode b_Kp_hold 8 = .ok (.aload_n 0, 1) := by decide +kernel
theorem d_Kp_hold_9 : decode b_Kp_hold 9 = .ok (.getfield 20, 3) := by decide +kernel
theorem d_Kp_hold_12 : decode b_Kp_hold 12 = .ok (.iload_n 1, 1) := by decide +kernel
theorem d_Kp_hold_13 : decode b_Kp_hold 13 = .ok (.invokevirtual 128, 3) := by decide +kernel
theorem d_Kp_hold_16 : decode b_Kp_hold 16 = .ok (.ifCond .eq 14, 3) := by decide +kernel
theorem d_Kp_hold_19 : decode b_Kp_hold 19 = .ok (.aload_n 0, 1) := by decide +kernel
theorem d_Kp_hold_20 : decode b_Kp_hold 20 = .ok (.iload_n 2, 1) := by decide +kernel
theorem d_Kp_hold_21 : decode b_Kp_hold 21 = .ok (.iload_n 2, 1) := by decide +kernel
theorem d_Kp_hold_22 : decode b_Kp_hold 22 = .ok (.invokevirtual 95, 3) := by decide +kernel
theorem d_Kp_hold_25 : decode b_Kp_hold 25 = .ok (.ifCond .eq 5, 3) := by decide +kernel
theorem d_Kp_hold_28 : decode b_Kp_hold 28 = .ok (.iconst 1, 1) := by decide +kernel
theorem d_Kp_hold_29 : decode b_Kp_hold 29 = .ok (.ireturn, 1) := by decide +kernel
theorem d_Kp_hold_30 : decode b_Kp_hold 30 = .ok (.aload_n 0, 1) := by decide +kernel
theorem d_Kp_hold_31 : decode b_Kp_hold 31 = .ok (.getfield 20, 3) := by decide +kernel
theorem d_Kp_hold_34 : decode b_Kp_hold 34 = .ok (.iload_n 2, 1) := by decide +kernel
theorem d_Kp_hold_35 : decode b_Kp_hold 35 = .ok (.invokevirtual 99, 3) := by decide +kernel
theorem d_Kp_hold_38 : decode b_Kp_hold 38 = .ok (.iconst 0, 1) := by decide +kernel
theorem d_Kp_hold_39 : decode b_Kp_hold 39 = .ok (.ireturn, 1) := by decide +kernel
theorem d_Kp_holdAnew_0 : decode b_Kp_holdAnew 0 = .ok (.aload_n 0, 1) := by decide +kernel
theorem d_Kp_holdAnew_1 : decode b_Kp_holdAnew 1 = .ok (.getfield 20, 3) := by decide +kernel
theorem d_Kp_holdAnew_4 : decode b_Kp_holdAnew 4 = .ok (.aload_n 0, 1) := by decide +kernel
theorem d_Kp_holdAnew_5 : decode b_Kp_holdAnew 5 = .ok (.getfield 24, 3) := by decide +kernel
theorem d_Kp_holdAnew_8 : decode b_Kp_holdAnew 8 = .ok (.invokevirtual 131, 3) := by decide +kernel
theorem d_Kp_holdAnew_11 : decode b_Kp_holdAnew 11 = .ok (.aload_n 0, 1) := by decide +kernel
theorem d_Kp_holdAnew_12 : decode b_Kp_holdAnew 12 = .ok (.iconst 0, 1) := by decide +kernel
theorem d_Kp_holdAnew_13 : decode b_Kp_holdAnew 13 = .ok (.iconst 0, 1) := by decide +kernel
theorem d_Kp_holdAnew_14 : decode b_Kp_holdAnew 14 = .ok (.invokevirtual 95, 3) := by decide +kernel
theorem d_Kp_holdAnew_17 : decode b_Kp_holdAnew 17 = .ok (.pop, 1) := by decide +kernel
theorem d_Kp_holdAnew_18 : decode b_Kp_holdAnew 18 = .ok (.return_, 1) := by decide +kernel
theorem d_Kp_follow_0 : decode b_Kp_follow 0 = .ok (.iload_n 1, 1) := by decide +kernel
theorem d_Kp_follow_1 : decode b_Kp_follow 1 = .ok (.istore_n 3, 1) := by decide +kernel
theorem d_Kp_follow_2 : decode b_Kp_follow 2 = .ok (.iload_n 3, 1) := by decide +kernel
theorem d_Kp_follow_3 : decode b_Kp_follow 3 = .ok (.aload_n 0, 1) := by decide +kernel
theorem d_Kp_follow_4 : decode b_Kp_follow 4 = .ok (.getfield 20, 3) := by decide +kernel
theorem d_Kp_follow_7 : decode b_Kp_follow 7 = .ok (.getfield 88, 3) := by decide +kernel
theorem d_Kp_follow_10 : decode b_Kp_follow 10 = .ok (.if_icmp .ge 102, 3) := by decide +kernel
theorem d_Kp_follow_13 : decode b_Kp_follow 13 = .ok (.iload_n 3, 1) := by decide +kernel
theorem d_Kp_follow_14 : decode b_Kp_follow 14 = .ok (.sipush 300, 3) := by decide +kernel
theorem d_Kp_follow_17 : decode b_Kp_follow 17 = .ok (.if_icmp .ge 95, 3) := by decide +kernel
theorem d_Kp_follow_20 : decode b_Kp_follow 20 = .ok (.iload_n 3, 1) := by decide +kernel
theorem d_Kp_follow_21 : decode b_Kp_follow 21 = .ok (.iload_n 2, 1) := by decide +kernel
theorem d_Kp_follow_22 : decode b_Kp_follow 22 = .ok (.if_icmp .ge 16, 3) := by decide +kernel
theorem d_Kp_follow_25 : decode b_Kp_follow 25 = .ok (.aload_n 0, 1) := by decide +kernel
theorem d_Kp_follow_26 : decode b_Kp_follow 26 = .ok (.getfield 40, 3) := by decide +kernel
theorem d_Kp_follow_29 : decode b_Kp_follow 29 = .ok (.iconst 1, 1) := by decide +kernel
theorem d_Kp_follow_30 : decode b_Kp_follow 30 = .ok (.isub, 1) := by decide +kernel
theorem d_Kp_follow_31 : decode b_Kp_follow 31 = .ok (.iconst 0, 1) := by decide +kernel
theorem d_Kp_follow_32 : decode b_Kp_follow 32 = .ok (.invokestatic 122, 3) := by decide +kernel
theorem d_Kp_follow_35 : decode b_Kp_follow 35 = .ok (.goto 4, 3) := by decide +kernel
theorem d_Kp_follow_38 : decode b_Kp_follow 38 = .ok (.iconst 0, 1) := by decide +kernel
theorem d_Kp_follow_39 : decode b_Kp_follow 39 = .ok (.istore 4, 2) := by decide +kernel
theorem d_Kp_follow_41 : decode b_Kp_follow 41 = .ok (.iload 4, 2) := by decide +kernel
theorem d_Kp_follow_43 : decode b_Kp_follow 43 = .ok (.istore 5, 2) := by decide +kernel
theorem d_Kp_follow_45 : decode b_Kp_follow 45 = .ok (.iload 5, 2) := by decide +kernel
theorem d_Kp_follow_47 : decode b_Kp_follow 47 = .ok (.aload_n 0, 1) := by decide +kernel
theorem d_Kp_follow_48 : decode b_Kp_follow 48 = .ok (.getfield 40, 3) := by decide +kernel
theorem d_Kp_follow_51 : decode b_Kp_follow 51 = .ok (.if_icmp .ge 55, 3) := by decide +kernel
theorem d_Kp_follow_54 : decode b_Kp_follow 54 = .ok (.aload_n 0, 1) := by decide +kernel
theorem d_Kp_follow_55 : decode b_Kp_follow 55 = .ok (.getfield 36, 3) := by decide +kernel
theorem d_Kp_follow_58 : decode b_Kp_follow 58 = .ok (.iload 5, 2) := by decide +kernel
theorem d_Kp_follow_60 : decode b_Kp_follow 60 = .ok (.aaload, 1) := by decide +kernel
theorem d_Kp_follow_61 : decode b_Kp_follow 61 = .ok (.astore 6, 2) := by decide +kernel
theorem d_Kp_follow_63 : decode b_Kp_follow 63 = .ok (.iconst 0, 1) := by decide +kernel
theorem d_Kp_follow_64 : decode b_Kp_follow 64 = .ok (.istore 7, 2) := by decide +kernel
theorem d_Kp_follow_66 : decode b_Kp_follow 66 = .ok (.iload 7, 2) := by decide +kernel
theorem d_Kp_follow_68 : decode b_Kp_follow 68 = .ok (.aload 6, 2) := by decide +kernel
theorem d_Kp_follow_70 : decode b_Kp_follow 70 = .ok (.getfield 135, 3) := by decide +kernel
theorem d_Kp_follow_73 : decode b_Kp_follow 73 = .ok (.arraylength, 1) := by decide +kernel
theorem d_Kp_follow_74 : decode b_Kp_follow 74 = .ok (.if_icmp .ge 26, 3) := by decide +kernel
theorem d_Kp_follow_77 : decode b_Kp_follow 77 = .ok (.aload_n 0, 1) := by decide +kernel
theorem d_Kp_follow_78 : decode b_Kp_follow 78 = .ok (.getfield 12, 3) := by decide +kernel
theorem d_Kp_follow_81 : decode b_Kp_follow 81 = .ok (.aload 6, 2) := by decide +kernel
theorem d_Kp_follow_83 : decode b_Kp_follow 83 = .ok (.iload 7, 2) := by decide +kernel
theorem d_Kp_follow_85 : decode b_Kp_follow 85 = .ok (.iload_n 3, 1) := by decide +kernel
theorem d_Kp_follow_86 : decode b_Kp_follow 86 = .ok (.invokevirtual 138, 3) := by decide +kernel
theorem d_Kp_follow_89 : decode b_Kp_follow 89 = .ok (.ifCond .ne 5, 3) := by decide +kernel
theorem d_Kp_follow_92 : decode b_Kp_follow 92 = .ok (.iconst 0, 1) := by decide +kernel
theorem d_Kp_follow_93 : decode b_Kp_follow 93 = .ok (.ireturn, 1) := by decide +kernel
theorem d_Kp_follow_94 : decode b_Kp_follow 94 = .ok (.iinc 7 1, 3) := by decide +kernel
theorem d_Kp_follow_97 : decode b_Kp_follow 97 = .ok (.goto (-31), 3) := by decide +kernel
theorem d_Kp_follow_100 : decode b_Kp_follow 100 = .ok (.iinc 5 1, 3) := by decide +kernel
theorem d_Kp_follow_103 : decode b_Kp_follow 103 = .ok (.goto (-58), 3) := by decide +kernel
theorem d_Kp_follow_106 : decode b_Kp_follow 106 = .ok (.iinc 3 1, 3) := by decide +kernel
theorem d_Kp_follow_109 : decode b_Kp_follow 109 = .ok (.goto (-107), 3) := by decide +kernel
theorem d_Kp_follow_112 : decode b_Kp_follow 112 = .ok (.iconst 1, 1) := by decide +kernel
theorem d_Kp_follow_113 : decode b_Kp_follow 113 = .ok (.ireturn, 1) := by decide +kernel
