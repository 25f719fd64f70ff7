theorem d_Mk_init_0 : decode b_Mk_init 0 = .ok (.aload_n 0, 1) := by decide +kernel
theorem d_Mk_init_1 : decode b_Mk_init 1 = .ok (.invokespecial 3, 3) := by decide +kernel
theorem d_Mk_init_4 : decode b_Mk_init 4 = .ok (.aload_n 0, 1) := by decide +kernel
theorem d_Mk_init_5 : decode b_Mk_init 5 = .ok (.sipush 1024, 3) := by decide +kernel
theorem d_Mk_init_8 : decode b_Mk_init 8 = .ok (.newarray .int, 2) := by decide +kernel
theorem d_Mk_init_10 : decode b_Mk_init 10 = .ok (.putfield 9, 3) := by decide +kernel
theorem d_Mk_init_13 : decode b_Mk_init 13 = .ok (.return_, 1) := by decide +kernel
theorem d_Mk_has_0 : decode b_Mk_has 0 = .ok (.aload_n 0, 1) := by decide +kernel
theorem d_Mk_has_1 : decode b_Mk_has 1 = .ok (.getfield 9, 3) := by decide +kernel
theorem d_Mk_has_4 : decode b_Mk_has 4 = .ok (.iload_n 1, 1) := by decide +kernel
theorem d_Mk_has_5 : decode b_Mk_has 5 = .ok (.iconst 5, 1) := by decide +kernel
theorem d_Mk_has_6 : decode b_Mk_has 6 = .ok (.ishr, 1) := by decide +kernel
theorem d_Mk_has_7 : decode b_Mk_has 7 = .ok (.sipush 1023, 3) := by decide +kernel
theorem d_Mk_has_10 : decode b_Mk_has 10 = .ok (.iand, 1) := by decide +kernel
theorem d_Mk_has_11 : decode b_Mk_has 11 = .ok (.iaload, 1) := by decide +kernel
theorem d_Mk_has_12 : decode b_Mk_has 12 = .ok (.iconst 1, 1) := by decide +kernel
theorem d_Mk_has_13 : decode b_Mk_has 13 = .ok (.iload_n 1, 1) := by decide +kernel
theorem d_Mk_has_14 : decode b_Mk_has 14 = .ok (.bipush 31, 2) := by decide +kernel
theorem d_Mk_has_16 : decode b_Mk_has 16 = .ok (.iand, 1) := by decide +kernel
theorem d_Mk_has_17 : decode b_Mk_has 17 = .ok (.ishl, 1) := by decide +kernel
theorem d_Mk_has_18 : decode b_Mk_has 18 = .ok (.iand, 1) := by decide +kernel
theorem d_Mk_has_19 : decode b_Mk_has 19 = .ok (.ifCond .eq 7, 3) := by decide +kernel
theorem d_Mk_has_22 : decode b_Mk_has 22 = .ok (.iconst 1, 1) := by decide +kernel
theorem d_Mk_has_23 : decode b_Mk_has 23 = .ok (.goto 4, 3) := by decide +kernel
theorem d_Mk_has_26 : decode b_Mk_has 26 = .ok (.iconst 0, 1) := by decide +kernel
theorem d_Mk_has_27 : decode b_Mk_has 27 = .ok (.ireturn, 1) := by decide +kernel
theorem d_Mk_put_0 : decode b_Mk_put 0 = .ok (.aload_n 0, 1) := by decide +kernel
theorem d_Mk_put_1 : decode b_Mk_put 1 = .ok (.getfield 9, 3) := by decide +kernel
theorem d_Mk_put_4 : decode b_Mk_put 4 = .ok (.iload_n 1, 1) := by decide +kernel
theorem d_Mk_put_5 : decode b_Mk_put 5 = .ok (.iconst 5, 1) := by decide +kernel
theorem d_Mk_put_6 : decode b_Mk_put 6 = .ok (.ishr, 1) := by decide +kernel
theorem d_Mk_put_7 : decode b_Mk_put 7 = .ok (.sipush 1023, 3) := by decide +kernel
theorem d_Mk_put_10 : decode b_Mk_put 10 = .ok (.iand, 1) := by decide +kernel
theorem d_Mk_put_11 : decode b_Mk_put 11 = .ok (.dup2, 1) := by decide +kernel
theorem d_Mk_put_12 : decode b_Mk_put 12 = .ok (.iaload, 1) := by decide +kernel
theorem d_Mk_put_13 : decode b_Mk_put 13 = .ok (.iconst 1, 1) := by decide +kernel
theorem d_Mk_put_14 : decode b_Mk_put 14 = .ok (.iload_n 1, 1) := by decide +kernel
theorem d_Mk_put_15 : decode b_Mk_put 15 = .ok (.bipush 31, 2) := by decide +kernel
theorem d_Mk_put_17 : decode b_Mk_put 17 = .ok (.iand, 1) := by decide +kernel
theorem d_Mk_put_18 : decode b_Mk_put 18 = .ok (.ishl, 1) := by decide +kernel
theorem d_Mk_put_19 : decode b_Mk_put 19 = .ok (.ior, 1) := by decide +kernel
theorem d_Mk_put_20 : decode b_Mk_put 20 = .ok (.iastore, 1) := by decide +kernel
theorem d_Mk_put_21 : decode b_Mk_put 21 = .ok (.return_, 1) := by decide +kernel
theorem d_Mk_drop_0 : decode b_Mk_drop 0 = .ok (.aload_n 0, 1) := by decide +kernel
theorem d_Mk_drop_1 : decode b_Mk_drop 1 = .ok (.getfield 9, 3) := by decide +kernel
theorem d_Mk_drop_4 : decode b_Mk_drop 4 = .ok (.iload_n 1, 1) := by decide +kernel
theorem d_Mk_drop_5 : decode b_Mk_drop 5 = .ok (.iconst 5, 1) := by decide +kernel
theorem d_Mk_drop_6 : decode b_Mk_drop 6 = .ok (.ishr, 1) := by decide +kernel
theorem d_Mk_drop_7 : decode b_Mk_drop 7 = .ok (.sipush 1023, 3) := by decide +kernel
theorem d_Mk_drop_10 : decode b_Mk_drop 10 = .ok (.iand, 1) := by decide +kernel
theorem d_Mk_drop_11 : decode b_Mk_drop 11 = .ok (.dup2, 1) := by decide +kernel
theorem d_Mk_drop_12 : decode b_Mk_drop 12 = .ok (.iaload, 1) := by decide +kernel
theorem d_Mk_drop_13 : decode b_Mk_drop 13 = .ok (.iconst 1, 1) := by decide +kernel
theorem d_Mk_drop_14 : decode b_Mk_drop 14 = .ok (.iload_n 1, 1) := by decide +kernel
theorem d_Mk_drop_15 : decode b_Mk_drop 15 = .ok (.bipush 31, 2) := by decide +kernel
theorem d_Mk_drop_17 : decode b_Mk_drop 17 = .ok (.iand, 1) := by decide +kernel
theorem d_Mk_drop_18 : decode b_Mk_drop 18 = .ok (.ishl, 1) := by decide +kernel
theorem d_Mk_drop_19 : decode b_Mk_drop 19 = .ok (.iconst (-1), 1) := by decide +kernel
theorem d_Mk_drop_20 : decode b_Mk_drop 20 = .ok (.ixor, 1) := by decide +kernel
theorem d_Mk_drop_21 : decode b_Mk_drop 21 = .ok (.iand, 1) := by decide +kernel
theorem d_Mk_drop_22 : decode b_Mk_drop 22 = .ok (.iastore, 1) := by decide +kernel
theorem d_Mk_drop_23 : decode b_Mk_drop 23 = .ok (.return_, 1) := by decide +kernel
theorem d_Tr_init_0 : decode b_Tr_init 0 = .ok (.aload_n 0, 1) := by decide +kernel
theorem d_Tr_init_1 : decode b_Tr_init 1 = .ok (.invokespecial 3, 3) := by decide +kernel
theorem d_Tr_init_4 : decode b_Tr_init 4 = .ok (.aload_n 0, 1) := by decide +kernel
theorem d_Tr_init_5 : decode b_Tr_init 5 = .ok (.sipush 300, 3) := by decide +kernel
theorem d_Tr_init_8 : decode b_Tr_init 8 = .ok (.newarray .int, 2) := by decide +kernel
theorem d_Tr_init_10 : decode b_Tr_init 10 = .ok (.putfield 9, 3) := by decide +kernel
theorem d_Tr_init_13 : decode b_Tr_init 13 = .ok (.aload_n 0, 1) := by decide +kernel
theorem d_Tr_init_14 : decode b_Tr_init 14 = .ok (.new 15, 3) := by decide +kernel
theorem d_Tr_init_17 : decode b_Tr_init 17 = .ok (.dup, 1) := by decide +kernel
theorem d_Tr_init_18 : decode b_Tr_init 18 = .ok (.invokespecial 17, 3) := by decide +kernel
theorem d_Tr_init_21 : decode b_Tr_init 21 = .ok (.putfield 18, 3) := by decide +kernel
theorem d_Tr_init_24 : decode b_Tr_init 24 = .ok (.aload_n 0, 1) := by decide +kernel
theorem d_Tr_init_25 : decode b_Tr_init 25 = .ok (.iconst 0, 1) := by decide +kernel
theorem d_Tr_init_26 : decode b_Tr_init 26 = .ok (.putfield 22, 3) := by decide +kernel
theorem d_Tr_init_29 : decode b_Tr_init 29 = .ok (.return_, 1) := by decide +kernel
theorem d_Tr_has_0 : decode b_Tr_has 0 = .ok (.aload_n 0, 1) := by decide +kernel
theorem d_Tr_has_1 : decode b_Tr_has 1 = .ok (.getfield 18, 3) := by decide +kernel
theorem d_Tr_has_4 : decode b_Tr_has 4 = .ok (.iload_n 1, 1) := by decide +kernel
theorem d_Tr_has_5 : decode b_Tr_has 5 = .ok (.invokevirtual 26, 3) := by decide +kernel
theorem d_Tr_has_8 : decode b_Tr_has 8 = .ok (.ireturn, 1) := by decide +kernel
theorem d_Tr_add_0 : decode b_Tr_add 0 = .ok (.aload_n 0, 1) := by decide +kernel
theorem d_Tr_add_1 : decode b_Tr_add 1 = .ok (.getfield 22, 3) := by decide +kernel
theorem d_Tr_add_4 : decode b_Tr_add 4 = .ok (.sipush 300, 3) := by decide +kernel
theorem d_Tr_add_7 : decode b_Tr_add 7 = .ok (.if_icmp .lt 5, 3) := by decide +kernel
theorem d_Tr_add_10 : decode b_Tr_add 10 = .ok (.iconst 0, 1) := by decide +kernel
theorem d_Tr_add_11 : decode b_Tr_add 11 = .ok (.ireturn, 1) := by decide +kernel
theorem d_Tr_add_12 : decode b_Tr_add 12 = .ok (.aload_n 0, 1) := by decide +kernel
theorem d_Tr_add_13 : decode b_Tr_add 13 = .ok (.getfield 9, 3) := by decide +kernel
theorem d_Tr_add_16 : decode b_Tr_add 16 = .ok (.aload_n 0, 1) := by decide +kernel
theorem d_Tr_add_17 : decode b_Tr_add 17 = .ok (.getfield 22, 3) := by decide +kernel
theorem d_Tr_add_20 : decode b_Tr_add 20 = .ok (.iload_n 1, 1) := by decide +kernel
theorem d_Tr_add_21 : decode b_Tr_add 21 = .ok (.iastore, 1) := by decide +kernel
theorem d_Tr_add_22 : decode b_Tr_add 22 = .ok (.aload_n 0, 1) := by decide +kernel
theorem d_Tr_add_23 : decode b_Tr_add 23 = .ok (.dup, 1) := by decide +kernel
theorem d_Tr_add_24 : decode b_Tr_add 24 = .ok (.getfield 22, 3) := by decide +kernel
theorem d_Tr_add_27 : decode b_Tr_add 27 = .ok (.iconst 1, 1) := by decide +kernel
theorem d_Tr_add_28 : decode b_Tr_add 28 = .ok (.iadd, 1) := by decide +kernel
theorem d_Tr_add_29 : decode b_Tr_add 29 = .ok (.putfield 22, 3) := by decide +kernel
theorem d_Tr_add_32 : decode b_Tr_add 32 = .ok (.aload_n 0, 1) := by decide +kernel
theorem d_Tr_add_33 : decode b_Tr_add 33 = .ok (.getfield 18, 3) := by decide +kernel
theorem d_Tr_add_36 : decode b_Tr_add 36 = .ok (.iload_n 1, 1) := by decide +kernel
theorem d_Tr_add_37 : decode b_Tr_add 37 = .ok (.invokevirtual 30, 3) := by decide +kernel
theorem d_Tr_add_40 : decode b_Tr_add 40 = .ok (.iconst 1, 1) := by decide +kernel
theorem d_Tr_add_41 : decode b_Tr_add 41 = .ok (.ireturn, 1) := by decide +kernel
theorem d_Tr_cutTo_0 : decode b_Tr_cutTo 0 = .ok (.iload_n 1, 1) := by decide +kernel
theorem d_Tr_cutTo_1 : decode b_Tr_cutTo 1 = .ok (.iconst 0, 1) := by decide +kernel
theorem d_Tr_cutTo_2 : decode b_Tr_cutTo 2 = .ok (.invokestatic 34, 3) := by decide +kernel
theorem d_Tr_cutTo_5 : decode b_Tr_cutTo 5 = .ok (.istore_n 2, 1) := by decide +kernel
theorem d_Tr_cutTo_6 : decode b_Tr_cutTo 6 = .ok (.iload_n 2, 1) := by decide +kernel
theorem d_Tr_cutTo_7 : decode b_Tr_cutTo 7 = .ok (.aload_n 0, 1) := by decide +kernel
theorem d_Tr_cutTo_8 : decode b_Tr_cutTo 8 = .ok (.getfield 22, 3) := by decide +kernel
theorem d_Tr_cutTo_11 : decode b_Tr_cutTo 11 = .ok (.if_icmp .ge 22, 3) := by decide +kernel
theorem d_Tr_cutTo_14 : decode b_Tr_cutTo 14 = .ok (.aload_n 0, 1) := by decide +kernel
theorem d_Tr_cutTo_15 : decode b_Tr_cutTo 15 = .ok (.getfield 18, 3) := by decide +kernel
theorem d_Tr_cutTo_18 : decode b_Tr_cutTo 18 = .ok (.aload_n 0, 1) := by decide +kernel
theorem d_Tr_cutTo_19 : decode b_Tr_cutTo 19 = .ok (.getfield 9, 3) := by decide +kernel
theorem d_Tr_cutTo_22 : decode b_Tr_cutTo 22 = .ok (.iload_n 2, 1) := by decide +kernel
theorem d_Tr_cutTo_23 : decode b_Tr_cutTo 23 = .ok (.iaload, 1) := by decide +kernel
theorem d_Tr_cutTo_24 : decode b_Tr_cutTo 24 = .ok (.invokevirtual 40, 3) := by decide +kernel
theorem d_Tr_cutTo_27 : decode b_Tr_cutTo 27 = .ok (.iinc 2 1, 3) := by decide +kernel
theorem d_Tr_cutTo_30 : decode b_Tr_cutTo 30 = .ok (.goto (-24), 3) := by decide +kernel
theorem d_Tr_cutTo_33 : decode b_Tr_cutTo 33 = .ok (.aload_n 0, 1) := by decide +kernel
theorem d_Tr_cutTo_34 : decode b_Tr_cutTo 34 = .ok (.aload_n 0, 1) := by decide +kernel
theorem d_Tr_cutTo_35 : decode b_Tr_cutTo 35 = .ok (.getfield 22, 3) := by decide +kernel
theorem d_Tr_cutTo_38 : decode b_Tr_cutTo 38 = .ok (.iload_n 1, 1) := by decide +kernel
theorem d_Tr_cutTo_39 : decode b_Tr_cutTo 39 = .ok (.iconst 0, 1) := by decide +kernel
theorem d_Tr_cutTo_40 : decode b_Tr_cutTo 40 = .ok (.invokestatic 34, 3) := by decide +kernel
theorem d_Tr_cutTo_43 : decode b_Tr_cutTo 43 = .ok (.invokestatic 43, 3) := by decide +kernel
theorem d_Tr_cutTo_46 : decode b_Tr_cutTo 46 = .ok (.putfield 22, 3) := by decide +kernel
theorem d_Tr_cutTo_49 : decode b_Tr_cutTo 49 = .ok (.return_, 1) := by decide +kernel
theorem d_Tr_keepThose_0 : decode b_Tr_keepThose 0 = .ok (.iconst 0, 1) := by decide +kernel
theorem d_Tr_keepThose_1 : decode b_Tr_keepThose 1 = .ok (.istore_n 2, 1) := by decide +kernel
theorem d_Tr_keepThose_2 : decode b_Tr_keepThose 2 = .ok (.iconst 0, 1) := by decide +kernel
theorem d_Tr_keepThose_3 : decode b_Tr_keepThose 3 = .ok (.istore_n 3, 1) := by decide +kernel
theorem d_Tr_keepThose_4 : decode b_Tr_keepThose 4 = .ok (.iload_n 3, 1) := by decide +kernel
theorem d_Tr_keepThose_5 : decode b_Tr_keepThose 5 = .ok (.aload_n 0, 1) := by decide +kernel
theorem d_Tr_keepThose_6 : decode b_Tr_keepThose 6 = .ok (.getfield 22, 3) := by decide +kernel
theorem d_Tr_keepThose_9 : decode b_Tr_keepThose 9 = .ok (.if_icmp .ge 53, 3) := by decide +kernel
theorem d_Tr_keepThose_12 : decode b_Tr_keepThose 12 = .ok (.aload_n 1, 1) := by decide +kernel
theorem d_Tr_keepThose_13 : decode b_Tr_keepThose 13 = .ok (.aload_n 0, 1) := by decide +kernel
theorem d_Tr_keepThose_14 : decode b_Tr_keepThose 14 = .ok (.getfield 9, 3) := by decide +kernel
theorem d_Tr_keepThose_17 : decode b_Tr_keepThose 17 = .ok (.iload_n 3, 1) := by decide +kernel
theorem d_Tr_keepThose_18 : decode b_Tr_keepThose 18 = .ok (.iaload, 1) := by decide +kernel
theorem d_Tr_keepThose_19 : decode b_Tr_keepThose 19 = .ok (.invokevirtual 26, 3) := by decide +kernel
theorem d_Tr_keepThose_22 : decode b_Tr_keepThose 22 = .ok (.ifCond .eq 21, 3) := by decide +kernel
theorem d_Tr_keepThose_25 : decode b_Tr_keepThose 25 = .ok (.aload_n 0, 1) := by decide +kernel
theorem d_Tr_keepThose_26 : decode b_Tr_keepThose 26 = .ok (.getfield 9, 3) := by decide +kernel
theorem d_Tr_keepThose_29 : decode b_Tr_keepThose 29 = .ok (.iload_n 2, 1) := by decide +kernel
theorem d_Tr_keepThose_30 : decode b_Tr_keepThose 30 = .ok (.aload_n 0, 1) := by decide +kernel
theorem d_Tr_keepThose_31 : decode b_Tr_keepThose 31 = .ok (.getfield 9, 3) := by decide +kernel
theorem d_Tr_keepThose_34 : decode b_Tr_keepThose 34 = .ok (.iload_n 3, 1) := by decide +kernel
theorem d_Tr_keepThose_35 : decode b_Tr_keepThose 35 = .ok (.iaload, 1) := by decide +kernel
theorem d_Tr_keepThose_36 : decode b_Tr_keepThose 36 = .ok (.iastore, 1) := by decide +kernel
theorem d_Tr_keepThose_37 : decode b_Tr_keepThose 37 = .ok (.iinc 2 1, 3) := by decide +kernel
theorem d_Tr_keepThose_40 : decode b_Tr_keepThose 40 = .ok (.goto 16, 3) := by decide +kernel
theorem d_Tr_keepThose_43 : decode b_Tr_keepThose 43 = .ok (.aload_n 0, 1) := by decide +kernel
theorem d_Tr_keepThose_44 : decode b_Tr_keepThose 44 = .ok (.getfield 18, 3) := by decide +kernel
theorem d_Tr_keepThose_47 : decode b_Tr_keepThose 47 = .ok (.aload_n 0, 1) := by decide +kernel
theorem d_Tr_keepThose_48 : decode b_Tr_keepThose 48 = .ok (.getfield 9, 3) := by decide +kernel
theorem d_Tr_keepThose_51 : decode b_Tr_keepThose 51 = .ok (.iload_n 3, 1) := by decide +kernel
theorem d_Tr_keepThose_52 : decode b_Tr_keepThose 52 = .ok (.iaload, 1) := by decide +kernel
theorem d_Tr_keepThose_53 : decode b_Tr_keepThose 53 = .ok (.invokevirtual 40, 3) := by decide +kernel
theorem d_Tr_keepThose_56 : decode b_Tr_keepThose 56 = .ok (.iinc 3 1, 3) := by decide +kernel
theorem d_Tr_keepThose_59 : decode b_Tr_keepThose 59 = .ok (.goto (-55), 3) := by decide +kernel
theorem d_Tr_keepThose_62 : decode b_Tr_keepThose 62 = .ok (.aload_n 0, 1) := by decide +kernel
theorem d_Tr_keepThose_63 : decode b_Tr_keepThose 63 = .ok (.iload_n 2, 1) := by decide +kernel
theorem d_Tr_keepThose_64 : decode b_Tr_keepThose 64 = .ok (.putfield 22, 3) := by decide +kernel
theorem d_Tr_keepThose_67 : decode b_Tr_keepThose 67 = .ok (.return_, 1) := by decide +kernel
theorem d_Pt_init_0 : decode b_Pt_init 0 = .ok (.aload_n 0, 1) := by decide +kernel
theorem d_Pt_init_1 : decode b_Pt_init 1 = .ok (.invokespecial 3, 3) := by decide +kernel
theorem d_Pt_init_4 : decode b_Pt_init 4 = .ok (.iconst 3, 1) := by decide +kernel
theorem d_Pt_init_5 : decode b_Pt_init 5 = .ok (.newarray .int, 2) := by decide +kernel
theorem d_Pt_init_7 : decode b_Pt_init 7 = .ok (.dup, 1) := by decide +kernel
theorem d_Pt_init_8 : decode b_Pt_init 8 = .ok (.iconst 0, 1) := by decide +kernel
theorem d_Pt_init_9 : decode b_Pt_init 9 = .ok (.iload_n 1, 1) := by decide +kernel
theorem d_Pt_init_10 : decode b_Pt_init 10 = .ok (.iastore, 1) := by decide +kernel
theorem d_Pt_init_11 : decode b_Pt_init 11 = .ok (.dup, 1) := by decide +kernel
theorem d_Pt_init_12 : decode b_Pt_init 12 = .ok (.iconst 1, 1) := by decide +kernel
theorem d_Pt_init_13 : decode b_Pt_init 13 = .ok (.iload_n 2, 1) := by decide +kernel
theorem d_Pt_init_14 : decode b_Pt_init 14 = .ok (.iastore, 1) := by decide +kernel
theorem d_Pt_init_15 : decode b_Pt_init 15 = .ok (.dup, 1) := by decide +kernel
theorem d_Pt_init_16 : decode b_Pt_init 16 = .ok (.iconst 2, 1) := by decide +kernel
theorem d_Pt_init_17 : decode b_Pt_init 17 = .ok (.iload_n 3, 1) := by decide +kernel
theorem d_Pt_init_18 : decode b_Pt_init 18 = .ok (.iastore, 1) := by decide +kernel
theorem d_Pt_init_19 : decode b_Pt_init 19 = .ok (.astore 4, 2) := by decide +kernel
theorem d_Pt_init_21 : decode b_Pt_init 21 = .ok (.aload_n 0, 1) := by decide +kernel
theorem d_Pt_init_22 : decode b_Pt_init 22 = .ok (.iconst 3, 1) := by decide +kernel
theorem d_Pt_init_23 : decode b_Pt_init 23 = .ok (.newarray .int, 2) := by decide +kernel
theorem d_Pt_init_25 : decode b_Pt_init 25 = .ok (.putfield 9, 3) := by decide +kernel
theorem d_Pt_init_28 : decode b_Pt_init 28 = .ok (.aload_n 0, 1) := by decide +kernel
theorem d_Pt_init_29 : decode b_Pt_init 29 = .ok (.iconst 3, 1) := by decide +kernel
theorem d_Pt_init_30 : decode b_Pt_init 30 = .ok (.newarray .int, 2) := by decide +kernel
theorem d_Pt_init_32 : decode b_Pt_init 32 = .ok (.putfield 15, 3) := by decide +kernel
theorem d_Pt_init_35 : decode b_Pt_init 35 = .ok (.iconst 0, 1) := by decide +kernel
theorem d_Pt_init_36 : decode b_Pt_init 36 = .ok (.istore 5, 2) := by decide +kernel
theorem d_Pt_init_38 : decode b_Pt_init 38 = .ok (.iconst 0, 1) := by decide +kernel
theorem d_Pt_init_39 : decode b_Pt_init 39 = .ok (.istore 6, 2) := by decide +kernel
theorem d_Pt_init_41 : decode b_Pt_init 41 = .ok (.iconst 0, 1) := by decide +kernel
theorem d_Pt_init_42 : decode b_Pt_init 42 = .ok (.istore 7, 2) := by decide +kernel
theorem d_Pt_init_44 : decode b_Pt_init 44 = .ok (.iconst 0, 1) := by decide +kernel
theorem d_Pt_init_45 : decode b_Pt_init 45 = .ok (.istore 8, 2) := by decide +kernel
theorem d_Pt_init_47 : decode b_Pt_init 47 = .ok (.iload 8, 2) := by decide +kernel
theorem d_Pt_init_49 : decode b_Pt_init 49 = .ok (.iconst 3, 1) := by decide +kernel
theorem d_Pt_init_50 : decode b_Pt_init 50 = .ok (.if_icmp .ge 96, 3) := by decide +kernel
theorem d_Pt_init_53 : decode b_Pt_init 53 = .ok (.aload 4, 2) := by decide +kernel
theorem d_Pt_init_55 : decode b_Pt_init 55 = .ok (.iload 8, 2) := by decide +kernel
theorem d_Pt_init_57 : decode b_Pt_init 57 = .ok (.iaload, 1) := by decide +kernel
theorem d_Pt_init_58 : decode b_Pt_init 58 = .ok (.ifCond .ge 51, 3) := by decide +kernel
theorem d_Pt_init_61 : decode b_Pt_init 61 = .ok (.aload_n 0, 1) := by decide +kernel
theorem d_Pt_init_62 : decode b_Pt_init 62 = .ok (.getfield 15, 3) := by decide +kernel
theorem d_Pt_init_65 : decode b_Pt_init 65 = .ok (.iload 8, 2) := by decide +kernel
theorem d_Pt_init_67 : decode b_Pt_init 67 = .ok (.iconst (-1), 1) := by decide +kernel
theorem d_Pt_init_68 : decode b_Pt_init 68 = .ok (.aload 4, 2) := by decide +kernel
theorem d_Pt_init_70 : decode b_Pt_init 70 = .ok (.iload 8, 2) := by decide +kernel
theorem d_Pt_init_72 : decode b_Pt_init 72 = .ok (.iaload, 1) := by decide +kernel
theorem d_Pt_init_73 : decode b_Pt_init 73 = .ok (.isub, 1) := by decide +kernel
theorem d_Pt_init_74 : decode b_Pt_init 74 = .ok (.bipush 7, 2) := by decide +kernel
theorem d_Pt_init_76 : decode b_Pt_init 76 = .ok (.iand, 1) := by decide +kernel
theorem d_Pt_init_77 : decode b_Pt_init 77 = .ok (.iastore, 1) := by decide +kernel
theorem d_Pt_init_78 : decode b_Pt_init 78 = .ok (.aload_n 0, 1) := by decide +kernel
theorem d_Pt_init_79 : decode b_Pt_init 79 = .ok (.getfield 9, 3) := by decide +kernel
theorem d_Pt_init_82 : decode b_Pt_init 82 = .ok (.iload 8, 2) := by decide +kernel
theorem d_Pt_init_84 : decode b_Pt_init 84 = .ok (.iconst 1, 1) := by decide +kernel
theorem d_Pt_init_85 : decode b_Pt_init 85 = .ok (.aload_n 0, 1) := by decide +kernel
theorem d_Pt_init_86 : decode b_Pt_init 86 = .ok (.getfield 15, 3) := by decide +kernel
theorem d_Pt_init_89 : decode b_Pt_init 89 = .ok (.iload 8, 2) := by decide +kernel
theorem d_Pt_init_91 : decode b_Pt_init 91 = .ok (.iaload, 1) := by decide +kernel
theorem d_Pt_init_92 : decode b_Pt_init 92 = .ok (.ishl, 1) := by decide +kernel
theorem d_Pt_init_93 : decode b_Pt_init 93 = .ok (.iastore, 1) := by decide +kernel
theorem d_Pt_init_94 : decode b_Pt_init 94 = .ok (.iload 5, 2) := by decide +kernel
theorem d_Pt_init_96 : decode b_Pt_init 96 = .ok (.aload_n 0, 1) := by decide +kernel
theorem d_Pt_init_97 : decode b_Pt_init 97 = .ok (.getfield 9, 3) := by decide +kernel
theorem d_Pt_init_100 : decode b_Pt_init 100 = .ok (.iload 8, 2) := by decide +kernel
theorem d_Pt_init_102 : decode b_Pt_init 102 = .ok (.iaload, 1) := by decide +kernel
theorem d_Pt_init_103 : decode b_Pt_init 103 = .ok (.ior, 1) := by decide +kernel
theorem d_Pt_init_104 : decode b_Pt_init 104 = .ok (.istore 5, 2) := by decide +kernel
theorem d_Pt_init_106 : decode b_Pt_init 106 = .ok (.goto 34, 3) := by decide +kernel
theorem d_Pt_init_109 : decode b_Pt_init 109 = .ok (.iload 6, 2) := by decide +kernel
theorem d_Pt_init_111 : decode b_Pt_init 111 = .ok (.bipush 31, 2) := by decide +kernel
theorem d_Pt_init_113 : decode b_Pt_init 113 = .ok (.getstatic 18, 3) := by decide +kernel
theorem d_Pt_init_116 : decode b_Pt_init 116 = .ok (.iload 8, 2) := by decide +kernel
theorem d_Pt_init_118 : decode b_Pt_init 118 = .ok (.iaload, 1) := by decide +kernel
theorem d_Pt_init_119 : decode b_Pt_init 119 = .ok (.ishl, 1) := by decide +kernel
theorem d_Pt_init_120 : decode b_Pt_init 120 = .ok (.ior, 1) := by decide +kernel
theorem d_Pt_init_121 : decode b_Pt_init 121 = .ok (.istore 6, 2) := by decide +kernel
theorem d_Pt_init_123 : decode b_Pt_init 123 = .ok (.iload 7, 2) := by decide +kernel
theorem d_Pt_init_125 : decode b_Pt_init 125 = .ok (.aload 4, 2) := by decide +kernel
theorem d_Pt_init_127 : decode b_Pt_init 127 = .ok (.iload 8, 2) := by decide +kernel
theorem d_Pt_init_129 : decode b_Pt_init 129 = .ok (.iaload, 1) := by decide +kernel
theorem d_Pt_init_130 : decode b_Pt_init 130 = .ok (.getstatic 18, 3) := by decide +kernel
theorem d_Pt_init_133 : decode b_Pt_init 133 = .ok (.iload 8, 2) := by decide +kernel
theorem d_Pt_init_135 : decode b_Pt_init 135 = .ok (.iaload, 1) := by decide +kernel
theorem d_Pt_init_136 : decode b_Pt_init 136 = .ok (.ishl, 1) := by decide +kernel
theorem d_Pt_init_137 : decode b_Pt_init 137 = .ok (.ior, 1) := by decide +kernel
theorem d_Pt_init_138 : decode b_Pt_init 138 = .ok (.istore 7, 2) := by decide +kernel
theorem d_Pt_init_140 : decode b_Pt_init 140 = .ok (.iinc 8 1, 3) := by decide +kernel
theorem d_Pt_init_143 : decode b_Pt_init 143 = .ok (.goto (-96), 3) := by decide +kernel
theorem d_Pt_init_146 : decode b_Pt_init 146 = .ok (.aload_n 0, 1) := by decide +kernel
theorem d_Pt_init_147 : decode b_Pt_init 147 = .ok (.iload 5, 2) := by decide +kernel
theorem d_Pt_init_149 : decode b_Pt_init 149 = .ok (.putfield 21, 3) := by decide +kernel
theorem d_Pt_init_152 : decode b_Pt_init 152 = .ok (.aload_n 0, 1) := by decide +kernel
theorem d_Pt_init_153 : decode b_Pt_init 153 = .ok (.iload 6, 2) := by decide +kernel
theorem d_Pt_init_155 : decode b_Pt_init 155 = .ok (.putfield 25, 3) := by decide +kernel
theorem d_Pt_init_158 : decode b_Pt_init 158 = .ok (.aload_n 0, 1) := by decide +kernel
theorem d_Pt_init_159 : decode b_Pt_init 159 = .ok (.iload 7, 2) := by decide +kernel
theorem d_Pt_init_161 : decode b_Pt_init 161 = .ok (.putfield 28, 3) := by decide +kernel
theorem d_Pt_init_164 : decode b_Pt_init 164 = .ok (.aload_n 0, 1) := by decide +kernel
theorem d_Pt_init_165 : decode b_Pt_init 165 = .ok (.iload_n 1, 1) := by decide +kernel
theorem d_Pt_init_166 : decode b_Pt_init 166 = .ok (.iload_n 2, 1) := by decide +kernel
theorem d_Pt_init_167 : decode b_Pt_init 167 = .ok (.if_icmp .ne 7, 3) := by decide +kernel
theorem d_Pt_init_170 : decode b_Pt_init 170 = .ok (.iconst 1, 1) := by decide +kernel
theorem d_Pt_init_171 : decode b_Pt_init 171 = .ok (.goto 4, 3) := by decide +kernel
theorem d_Pt_init_174 : decode b_Pt_init 174 = .ok (.iconst 0, 1) := by decide +kernel
theorem d_Pt_init_175 : decode b_Pt_init 175 = .ok (.putfield 31, 3) := by decide +kernel
theorem d_Pt_init_178 : decode b_Pt_init 178 = .ok (.aload_n 0, 1) := by decide +kernel
theorem d_Pt_init_179 : decode b_Pt_init 179 = .ok (.iload_n 1, 1) := by decide +kernel
theorem d_Pt_init_180 : decode b_Pt_init 180 = .ok (.iload_n 3, 1) := by decide +kernel
theorem d_Pt_init_181 : decode b_Pt_init 181 = .ok (.if_icmp .ne 7, 3) := by decide +kernel
theorem d_Pt_init_184 : decode b_Pt_init 184 = .ok (.iconst 1, 1) := by decide +kernel
theorem d_Pt_init_185 : decode b_Pt_init 185 = .ok (.goto 4, 3) := by decide +kernel
theorem d_Pt_init_188 : decode b_Pt_init 188 = .ok (.iconst 0, 1) := by decide +kernel
theorem d_Pt_init_189 : decode b_Pt_init 189 = .ok (.putfield 35, 3) := by decide +kernel
theorem d_Pt_init_192 : decode b_Pt_init 192 = .ok (.aload_n 0, 1) := by decide +kernel
theorem d_Pt_init_193 : decode b_Pt_init 193 = .ok (.iload_n 2, 1) := by decide +kernel
theorem d_Pt_init_194 : decode b_Pt_init 194 = .ok (.iload_n 3, 1) := by decide +kernel
theorem d_Pt_init_195 : decode b_Pt_init 195 = .ok (.if_icmp .ne 7, 3) := by decide +kernel
theorem d_Pt_init_198 : decode b_Pt_init 198 = .ok (.iconst 1, 1) := by decide +kernel
theorem d_Pt_init_199 : decode b_Pt_init 199 = .ok (.goto 4, 3) := by decide +kernel
theorem d_Pt_init_202 : decode b_Pt_init 202 = .ok (.iconst 0, 1) := by decide +kernel
theorem d_Pt_init_203 : decode b_Pt_init 203 = .ok (.putfield 38, 3) := by decide +kernel
theorem d_Pt_init_206 : decode b_Pt_init 206 = .ok (.return_, 1) := by decide +kernel
theorem d_Pt_fits_0 : decode b_Pt_fits 0 = .ok (.iload_n 1, 1) := by decide +kernel
theorem d_Pt_fits_1 : decode b_Pt_fits 1 = .ok (.aload_n 0, 1) := by decide +kernel
theorem d_Pt_fits_2 : decode b_Pt_fits 2 = .ok (.getfield 25, 3) := by decide +kernel
theorem d_Pt_fits_5 : decode b_Pt_fits 5 = .ok (.iand, 1) := by decide +kernel
theorem d_Pt_fits_6 : decode b_Pt_fits 6 = .ok (.aload_n 0, 1) := by decide +kernel
theorem d_Pt_fits_7 : decode b_Pt_fits 7 = .ok (.getfield 28, 3) := by decide +kernel
theorem d_Pt_fits_10 : decode b_Pt_fits 10 = .ok (.if_icmp .ne 15, 3) := by decide +kernel
theorem d_Pt_fits_13 : decode b_Pt_fits 13 = .ok (.aload_n 0, 1) := by decide +kernel
theorem d_Pt_fits_14 : decode b_Pt_fits 14 = .ok (.iload_n 1, 1) := by decide +kernel
theorem d_Pt_fits_15 : decode b_Pt_fits 15 = .ok (.invokevirtual 41, 3) := by decide +kernel
theorem d_Pt_fits_18 : decode b_Pt_fits 18 = .ok (.ifCond .eq 7, 3) := by decide +kernel
theorem d_Pt_fits_21 : decode b_Pt_fits 21 = .ok (.iconst 1, 1) := by decide +kernel
theorem d_Pt_fits_22 : decode b_Pt_fits 22 = .ok (.goto 4, 3) := by decide +kernel
theorem d_Pt_fits_25 : decode b_Pt_fits 25 = .ok (.iconst 0, 1) := by decide +kernel
theorem d_Pt_fits_26 : decode b_Pt_fits 26 = .ok (.ireturn, 1) := by decide +kernel
theorem d_Pt_agrees_0 : decode b_Pt_agrees 0 = .ok (.iload_n 1, 1) := by decide +kernel
theorem d_Pt_agrees_1 : decode b_Pt_agrees 1 = .ok (.bipush 10, 2) := by decide +kernel
theorem d_Pt_agrees_3 : decode b_Pt_agrees 3 = .ok (.ishr, 1) := by decide +kernel
theorem d_Pt_agrees_4 : decode b_Pt_agrees 4 = .ok (.istore_n 2, 1) := by decide +kernel
theorem d_Pt_agrees_5 : decode b_Pt_agrees 5 = .ok (.iload_n 1, 1) := by decide +kernel
theorem d_Pt_agrees_6 : decode b_Pt_agrees 6 = .ok (.iconst 5, 1) := by decide +kernel
theorem d_Pt_agrees_7 : decode b_Pt_agrees 7 = .ok (.ishr, 1) := by decide +kernel
theorem d_Pt_agrees_8 : decode b_Pt_agrees 8 = .ok (.bipush 31, 2) := by decide +kernel
theorem d_Pt_agrees_10 : decode b_Pt_agrees 10 = .ok (.iand, 1) := by decide +kernel
theorem d_Pt_agrees_11 : decode b_Pt_agrees 11 = .ok (.istore_n 3, 1) := by decide +kernel
theorem d_Pt_agrees_12 : decode b_Pt_agrees 12 = .ok (.iload_n 1, 1) := by decide +kernel
theorem d_Pt_agrees_13 : decode b_Pt_agrees 13 = .ok (.bipush 31, 2) := by decide +kernel
theorem d_Pt_agrees_15 : decode b_Pt_agrees 15 = .ok (.iand, 1) := by decide +kernel
theorem d_Pt_agrees_16 : decode b_Pt_agrees 16 = .ok (.istore 4, 2) := by decide +kernel
theorem d_Pt_agrees_18 : decode b_Pt_agrees 18 = .ok (.aload_n 0, 1) := by decide +kernel
theorem d_Pt_agrees_19 : decode b_Pt_agrees 19 = .ok (.getfield 31, 3) := by decide +kernel
theorem d_Pt_agrees_22 : decode b_Pt_agrees 22 = .ok (.ifCond .eq 8, 3) := by decide +kernel
theorem d_Pt_agrees_25 : decode b_Pt_agrees 25 = .ok (.iload_n 2, 1) := by decide +kernel
theorem d_Pt_agrees_26 : decode b_Pt_agrees 26 = .ok (.iload_n 3, 1) := by decide +kernel
theorem d_Pt_agrees_27 : decode b_Pt_agrees 27 = .ok (.if_icmp .ne 33, 3) := by decide +kernel
theorem d_Pt_agrees_30 : decode b_Pt_agrees 30 = .ok (.aload_n 0, 1) := by decide +kernel
theorem d_Pt_agrees_31 : decode b_Pt_agrees 31 = .ok (.getfield 35, 3) := by decide +kernel
theorem d_Pt_agrees_34 : decode b_Pt_agrees 34 = .ok (.ifCond .eq 9, 3) := by decide +kernel
theorem d_Pt_agrees_37 : decode b_Pt_agrees 37 = .ok (.iload_n 2, 1) := by decide +kernel
theorem d_Pt_agrees_38 : decode b_Pt_agrees 38 = .ok (.iload 4, 2) := by decide +kernel
theorem d_Pt_agrees_40 : decode b_Pt_agrees 40 = .ok (.if_icmp .ne 20, 3) := by decide +kernel
theorem d_Pt_agrees_43 : decode b_Pt_agrees 43 = .ok (.aload_n 0, 1) := by decide +kernel
theorem d_Pt_agrees_44 : decode b_Pt_agrees 44 = .ok (.getfield 38, 3) := by decide +kernel
theorem d_Pt_agrees_47 : decode b_Pt_agrees 47 = .ok (.ifCond .eq 9, 3) := by decide +kernel
theorem d_Pt_agrees_50 : decode b_Pt_agrees 50 = .ok (.iload_n 3, 1) := by decide +kernel
theorem d_Pt_agrees_51 : decode b_Pt_agrees 51 = .ok (.iload 4, 2) := by decide +kernel
theorem d_Pt_agrees_53 : decode b_Pt_agrees 53 = .ok (.if_icmp .ne 7, 3) := by decide +kernel
theorem d_Pt_agrees_56 : decode b_Pt_agrees 56 = .ok (.iconst 1, 1) := by decide +kernel
theorem d_Pt_agrees_57 : decode b_Pt_agrees 57 = .ok (.goto 4, 3) := by decide +kernel
theorem d_Pt_agrees_60 : decode b_Pt_agrees 60 = .ok (.iconst 0, 1) := by decide +kernel
theorem d_Pt_agrees_61 : decode b_Pt_agrees 61 = .ok (.ireturn, 1) := by decide +kernel
theorem d_Pt_maskOf_0 : decode b_Pt_maskOf 0 = .ok (.iconst 0, 1) := by decide +kernel
theorem d_Pt_maskOf_1 : decode b_Pt_maskOf 1 = .ok (.istore_n 2, 1) := by decide +kernel
theorem d_Pt_maskOf_2 : decode b_Pt_maskOf 2 = .ok (.iconst 0, 1) := by decide +kernel
theorem d_Pt_maskOf_3 : decode b_Pt_maskOf 3 = .ok (.istore_n 3, 1) := by decide +kernel
theorem d_Pt_maskOf_4 : decode b_Pt_maskOf 4 = .ok (.iload_n 3, 1) := by decide +kernel
theorem d_Pt_maskOf_5 : decode b_Pt_maskOf 5 = .ok (.iconst 3, 1) := by decide +kernel
theorem d_Pt_maskOf_6 : decode b_Pt_maskOf 6 = .ok (.if_icmp .ge 31, 3) := by decide +kernel
theorem d_Pt_maskOf_9 : decode b_Pt_maskOf 9 = .ok (.aload_n 0, 1) := by decide +kernel
theorem d_Pt_maskOf_10 : decode b_Pt_maskOf 10 = .ok (.getfield 9, 3) := by decide +kernel
theorem d_Pt_maskOf_13 : decode b_Pt_maskOf 13 = .ok (.iload_n 3, 1) := by decide +kernel
theorem d_Pt_maskOf_14 : decode b_Pt_maskOf 14 = .ok (.iaload, 1) := by decide +kernel
theorem d_Pt_maskOf_15 : decode b_Pt_maskOf 15 = .ok (.iload_n 1, 1) := by decide +kernel
theorem d_Pt_maskOf_16 : decode b_Pt_maskOf 16 = .ok (.iand, 1) := by decide +kernel
theorem d_Pt_maskOf_17 : decode b_Pt_maskOf 17 = .ok (.ifCond .eq 14, 3) := by decide +kernel
theorem d_Pt_maskOf_20 : decode b_Pt_maskOf 20 = .ok (.iload_n 2, 1) := by decide +kernel
theorem d_Pt_maskOf_21 : decode b_Pt_maskOf 21 = .ok (.bipush 31, 2) := by decide +kernel
theorem d_Pt_maskOf_23 : decode b_Pt_maskOf 23 = .ok (.getstatic 18, 3) := by decide +kernel
theorem d_Pt_maskOf_26 : decode b_Pt_maskOf 26 = .ok (.iload_n 3, 1) := by decide +kernel
theorem d_Pt_maskOf_27 : decode b_Pt_maskOf 27 = .ok (.iaload, 1) := by decide +kernel
theorem d_Pt_maskOf_28 : decode b_Pt_maskOf 28 = .ok (.ishl, 1) := by decide +kernel
theorem d_Pt_maskOf_29 : decode b_Pt_maskOf 29 = .ok (.ior, 1) := by decide +kernel
theorem d_Pt_maskOf_30 : decode b_Pt_maskOf 30 = .ok (.istore_n 2, 1) := by decide +kernel
theorem d_Pt_maskOf_31 : decode b_Pt_maskOf 31 = .ok (.iinc 3 1, 3) := by decide +kernel
theorem d_Pt_maskOf_34 : decode b_Pt_maskOf 34 = .ok (.goto (-30), 3) := by decide +kernel
theorem d_Pt_maskOf_37 : decode b_Pt_maskOf 37 = .ok (.iload_n 2, 1) := by decide +kernel
theorem d_Pt_maskOf_38 : decode b_Pt_maskOf 38 = .ok (.ireturn, 1) := by decide +kernel
theorem d_Pt_filled_0 : decode b_Pt_filled 0 = .ok (.iconst 0, 1) := by decide +kernel
theorem d_Pt_filled_1 : decode b_Pt_filled 1 = .ok (.istore_n 3, 1) := by decide +kernel
theorem d_Pt_filled_2 : decode b_Pt_filled 2 = .ok (.iconst 0, 1) := by decide +kernel
theorem d_Pt_filled_3 : decode b_Pt_filled 3 = .ok (.istore 4, 2) := by decide +kernel
theorem d_Pt_filled_5 : decode b_Pt_filled 5 = .ok (.iload 4, 2) := by decide +kernel
theorem d_Pt_filled_7 : decode b_Pt_filled 7 = .ok (.iconst 3, 1) := by decide +kernel
theorem d_Pt_filled_8 : decode b_Pt_filled 8 = .ok (.if_icmp .ge 40, 3) := by decide +kernel
theorem d_Pt_filled_11 : decode b_Pt_filled 11 = .ok (.aload_n 0, 1) := by decide +kernel
theorem d_Pt_filled_12 : decode b_Pt_filled 12 = .ok (.getfield 9, 3) := by decide +kernel
theorem d_Pt_filled_15 : decode b_Pt_filled 15 = .ok (.iload 4, 2) := by decide +kernel
theorem d_Pt_filled_17 : decode b_Pt_filled 17 = .ok (.iaload, 1) := by decide +kernel
theorem d_Pt_filled_18 : decode b_Pt_filled 18 = .ok (.iload_n 1, 1) := by decide +kernel
theorem d_Pt_filled_19 : decode b_Pt_filled 19 = .ok (.iand, 1) := by decide +kernel
theorem d_Pt_filled_20 : decode b_Pt_filled 20 = .ok (.ifCond .eq 22, 3) := by decide +kernel
theorem d_Pt_filled_23 : decode b_Pt_filled 23 = .ok (.iload_n 3, 1) := by decide +kernel
theorem d_Pt_filled_24 : decode b_Pt_filled 24 = .ok (.aload_n 2, 1) := by decide +kernel
theorem d_Pt_filled_25 : decode b_Pt_filled 25 = .ok (.aload_n 0, 1) := by decide +kernel
theorem d_Pt_filled_26 : decode b_Pt_filled 26 = .ok (.getfield 15, 3) := by decide +kernel
theorem d_Pt_filled_29 : decode b_Pt_filled 29 = .ok (.iload 4, 2) := by decide +kernel
theorem d_Pt_filled_31 : decode b_Pt_filled 31 = .ok (.iaload, 1) := by decide +kernel
theorem d_Pt_filled_32 : decode b_Pt_filled 32 = .ok (.iaload, 1) := by decide +kernel
theorem d_Pt_filled_33 : decode b_Pt_filled 33 = .ok (.getstatic 18, 3) := by decide +kernel
theorem d_Pt_filled_36 : decode b_Pt_filled 36 = .ok (.iload 4, 2) := by decide +kernel
theorem d_Pt_filled_38 : decode b_Pt_filled 38 = .ok (.iaload, 1) := by decide +kernel
theorem d_Pt_filled_39 : decode b_Pt_filled 39 = .ok (.ishl, 1) := by decide +kernel
theorem d_Pt_filled_40 : decode b_Pt_filled 40 = .ok (.ior, 1) := by decide +kernel
theorem d_Pt_filled_41 : decode b_Pt_filled 41 = .ok (.istore_n 3, 1) := by decide +kernel
theorem d_Pt_filled_42 : decode b_Pt_filled 42 = .ok (.iinc 4 1, 3) := by decide +kernel
theorem d_Pt_filled_45 : decode b_Pt_filled 45 = .ok (.goto (-40), 3) := by decide +kernel
theorem d_Pt_filled_48 : decode b_Pt_filled 48 = .ok (.iload_n 3, 1) := by decide +kernel
theorem d_Pt_filled_49 : decode b_Pt_filled 49 = .ok (.ireturn, 1) := by decide +kernel
theorem d_Pt_bind_0 : decode b_Pt_bind 0 = .ok (.iconst 0, 1) := by decide +kernel
theorem d_Pt_bind_1 : decode b_Pt_bind 1 = .ok (.istore 4, 2) := by decide +kernel
theorem d_Pt_bind_3 : decode b_Pt_bind 3 = .ok (.iload 4, 2) := by decide +kernel
theorem d_Pt_bind_5 : decode b_Pt_bind 5 = .ok (.iconst 3, 1) := by decide +kernel
theorem d_Pt_bind_6 : decode b_Pt_bind 6 = .ok (.if_icmp .ge 41, 3) := by decide +kernel
theorem d_Pt_bind_9 : decode b_Pt_bind 9 = .ok (.aload_n 0, 1) := by decide +kernel
theorem d_Pt_bind_10 : decode b_Pt_bind 10 = .ok (.getfield 9, 3) := by decide +kernel
theorem d_Pt_bind_13 : decode b_Pt_bind 13 = .ok (.iload 4, 2) := by decide +kernel
theorem d_Pt_bind_15 : decode b_Pt_bind 15 = .ok (.iaload, 1) := by decide +kernel
theorem d_Pt_bind_16 : decode b_Pt_bind 16 = .ok (.iload_n 2, 1) := by decide +kernel
theorem d_Pt_bind_17 : decode b_Pt_bind 17 = .ok (.iand, 1) := by decide +kernel
theorem d_Pt_bind_18 : decode b_Pt_bind 18 = .ok (.ifCond .eq 23, 3) := by decide +kernel
theorem d_Pt_bind_21 : decode b_Pt_bind 21 = .ok (.aload_n 3, 1) := by decide +kernel
theorem d_Pt_bind_22 : decode b_Pt_bind 22 = .ok (.aload_n 0, 1) := by decide +kernel
theorem d_Pt_bind_23 : decode b_Pt_bind 23 = .ok (.getfield 15, 3) := by decide +kernel
theorem d_Pt_bind_26 : decode b_Pt_bind 26 = .ok (.iload 4, 2) := by decide +kernel
theorem d_Pt_bind_28 : decode b_Pt_bind 28 = .ok (.iaload, 1) := by decide +kernel
theorem d_Pt_bind_29 : decode b_Pt_bind 29 = .ok (.iload_n 1, 1) := by decide +kernel
theorem d_Pt_bind_30 : decode b_Pt_bind 30 = .ok (.getstatic 18, 3) := by decide +kernel
theorem d_Pt_bind_33 : decode b_Pt_bind 33 = .ok (.iload 4, 2) := by decide +kernel
theorem d_Pt_bind_35 : decode b_Pt_bind 35 = .ok (.iaload, 1) := by decide +kernel
theorem d_Pt_bind_36 : decode b_Pt_bind 36 = .ok (.ishr, 1) := by decide +kernel
theorem d_Pt_bind_37 : decode b_Pt_bind 37 = .ok (.bipush 31, 2) := by decide +kernel
theorem d_Pt_bind_39 : decode b_Pt_bind 39 = .ok (.iand, 1) := by decide +kernel
theorem d_Pt_bind_40 : decode b_Pt_bind 40 = .ok (.iastore, 1) := by decide +kernel
theorem d_Pt_bind_41 : decode b_Pt_bind 41 = .ok (.iinc 4 1, 3) := by decide +kernel
theorem d_Pt_bind_44 : decode b_Pt_bind 44 = .ok (.goto (-41), 3) := by decide +kernel
theorem d_Pt_bind_47 : decode b_Pt_bind 47 = .ok (.return_, 1) := by decide +kernel
theorem d_Ru_init_0 : decode b_Ru_init 0 = .ok (.aload_n 0, 1) := by decide +kernel
theorem d_Ru_init_1 : decode b_Ru_init 1 = .ok (.invokespecial 1, 3) := by decide +kernel
theorem d_Ru_init_4 : decode b_Ru_init 4 = .ok (.aload_n 0, 1) := by decide +kernel
theorem d_Ru_init_5 : decode b_Ru_init 5 = .ok (.aload_n 1, 1) := by decide +kernel
theorem d_Ru_init_6 : decode b_Ru_init 6 = .ok (.putfield 7, 3) := by decide +kernel
theorem d_Ru_init_9 : decode b_Ru_init 9 = .ok (.aload_n 0, 1) := by decide +kernel
theorem d_Ru_init_10 : decode b_Ru_init 10 = .ok (.aload_n 2, 1) := by decide +kernel
theorem d_Ru_init_11 : decode b_Ru_init 11 = .ok (.putfield 13, 3) := by decide +kernel
theorem d_Ru_init_14 : decode b_Ru_init 14 = .ok (.aload_n 0, 1) := by decide +kernel
theorem d_Ru_init_15 : decode b_Ru_init 15 = .ok (.aload_n 1, 1) := by decide +kernel
theorem d_Ru_init_16 : decode b_Ru_init 16 = .ok (.arraylength, 1) := by decide +kernel
theorem d_Ru_init_17 : decode b_Ru_init 17 = .ok (.newarray .int, 2) := by decide +kernel
theorem d_Ru_init_19 : decode b_Ru_init 19 = .ok (.putfield 17, 3) := by decide +kernel
theorem d_Ru_init_22 : decode b_Ru_init 22 = .ok (.iconst 0, 1) := by decide +kernel
theorem d_Ru_init_23 : decode b_Ru_init 23 = .ok (.istore_n 3, 1) := by decide +kernel
theorem d_Ru_init_24 : decode b_Ru_init 24 = .ok (.iload_n 3, 1) := by decide +kernel
theorem d_Ru_init_25 : decode b_Ru_init 25 = .ok (.aload_n 1, 1) := by decide +kernel
theorem d_Ru_init_26 : decode b_Ru_init 26 = .ok (.arraylength, 1) := by decide +kernel
theorem d_Ru_init_27 : decode b_Ru_init 27 = .ok (.if_icmp .ge 68, 3) := by decide +kernel
theorem d_Ru_init_30 : decode b_Ru_init 30 = .ok (.aload_n 2, 1) := by decide +kernel
theorem d_Ru_init_31 : decode b_Ru_init 31 = .ok (.getfield 21, 3) := by decide +kernel
theorem d_Ru_init_34 : decode b_Ru_init 34 = .ok (.istore 4, 2) := by decide +kernel
theorem d_Ru_init_36 : decode b_Ru_init 36 = .ok (.iconst 0, 1) := by decide +kernel
theorem d_Ru_init_37 : decode b_Ru_init 37 = .ok (.istore 5, 2) := by decide +kernel
theorem d_Ru_init_39 : decode b_Ru_init 39 = .ok (.iload 5, 2) := by decide +kernel
theorem d_Ru_init_41 : decode b_Ru_init 41 = .ok (.aload_n 1, 1) := by decide +kernel
theorem d_Ru_init_42 : decode b_Ru_init 42 = .ok (.arraylength, 1) := by decide +kernel
theorem d_Ru_init_43 : decode b_Ru_init 43 = .ok (.if_icmp .ge 31, 3) := by decide +kernel
theorem d_Ru_init_46 : decode b_Ru_init 46 = .ok (.iload 4, 2) := by decide +kernel
theorem d_Ru_init_48 : decode b_Ru_init 48 = .ok (.iload 5, 2) := by decide +kernel
theorem d_Ru_init_50 : decode b_Ru_init 50 = .ok (.iload_n 3, 1) := by decide +kernel
theorem d_Ru_init_51 : decode b_Ru_init 51 = .ok (.if_icmp .ne 7, 3) := by decide +kernel
theorem d_Ru_init_54 : decode b_Ru_init 54 = .ok (.iconst 0, 1) := by decide +kernel
theorem d_Ru_init_55 : decode b_Ru_init 55 = .ok (.goto 10, 3) := by decide +kernel
theorem d_Ru_init_58 : decode b_Ru_init 58 = .ok (.aload_n 1, 1) := by decide +kernel
theorem d_Ru_init_59 : decode b_Ru_init 59 = .ok (.iload 5, 2) := by decide +kernel
theorem d_Ru_init_61 : decode b_Ru_init 61 = .ok (.aaload, 1) := by decide +kernel
theorem d_Ru_init_62 : decode b_Ru_init 62 = .ok (.getfield 21, 3) := by decide +kernel
theorem d_Ru_init_65 : decode b_Ru_init 65 = .ok (.ior, 1) := by decide +kernel
theorem d_Ru_init_66 : decode b_Ru_init 66 = .ok (.istore 4, 2) := by decide +kernel
theorem d_Ru_init_68 : decode b_Ru_init 68 = .ok (.iinc 5 1, 3) := by decide +kernel
theorem d_Ru_init_71 : decode b_Ru_init 71 = .ok (.goto (-32), 3) := by decide +kernel
theorem d_Ru_init_74 : decode b_Ru_init 74 = .ok (.aload_n 0, 1) := by decide +kernel
theorem d_Ru_init_75 : decode b_Ru_init 75 = .ok (.getfield 17, 3) := by decide +kernel
theorem d_Ru_init_78 : decode b_Ru_init 78 = .ok (.iload_n 3, 1) := by decide +kernel
theorem d_Ru_init_79 : decode b_Ru_init 79 = .ok (.aload_n 1, 1) := by decide +kernel
theorem d_Ru_init_80 : decode b_Ru_init 80 = .ok (.iload_n 3, 1) := by decide +kernel
theorem d_Ru_init_81 : decode b_Ru_init 81 = .ok (.aaload, 1) := by decide +kernel
theorem d_Ru_init_82 : decode b_Ru_init 82 = .ok (.getfield 21, 3) := by decide +kernel
theorem d_Ru_init_85 : decode b_Ru_init 85 = .ok (.iload 4, 2) := by decide +kernel
theorem d_Ru_init_87 : decode b_Ru_init 87 = .ok (.iand, 1) := by decide +kernel
theorem d_Ru_init_88 : decode b_Ru_init 88 = .ok (.iastore, 1) := by decide +kernel
theorem d_Ru_init_89 : decode b_Ru_init 89 = .ok (.iinc 3 1, 3) := by decide +kernel
theorem d_Ru_init_92 : decode b_Ru_init 92 = .ok (.goto (-68), 3) := by decide +kernel
theorem d_Ru_init_95 : decode b_Ru_init 95 = .ok (.return_, 1) := by decide +kernel
theorem d_Co_init_0 : decode b_Co_init 0 = .ok (.aload_n 0, 1) := by decide +kernel
theorem d_Co_init_1 : decode b_Co_init 1 = .ok (.invokespecial 3, 3) := by decide +kernel
theorem d_Co_init_4 : decode b_Co_init 4 = .ok (.aload_n 0, 1) := by decide +kernel
theorem d_Co_init_5 : decode b_Co_init 5 = .ok (.sipush 300, 3) := by decide +kernel
theorem d_Co_init_8 : decode b_Co_init 8 = .ok (.newarray .int, 2) := by decide +kernel
theorem d_Co_init_10 : decode b_Co_init 10 = .ok (.putfield 9, 3) := by decide +kernel
theorem d_Co_init_13 : decode b_Co_init 13 = .ok (.aload_n 0, 1) := by decide +kernel
theorem d_Co_init_14 : decode b_Co_init 14 = .ok (.sipush 300, 3) := by decide +kernel
theorem d_Co_init_17 : decode b_Co_init 17 = .ok (.newarray .int, 2) := by decide +kernel
theorem d_Co_init_19 : decode b_Co_init 19 = .ok (.putfield 15, 3) := by decide +kernel
theorem d_Co_init_22 : decode b_Co_init 22 = .ok (.aload_n 0, 1) := by decide +kernel
theorem d_Co_init_23 : decode b_Co_init 23 = .ok (.sipush 1024, 3) := by decide +kernel
theorem d_Co_init_26 : decode b_Co_init 26 = .ok (.newarray .int, 2) := by decide +kernel
theorem d_Co_init_28 : decode b_Co_init 28 = .ok (.putfield 18, 3) := by decide +kernel
theorem d_Co_init_31 : decode b_Co_init 31 = .ok (.aload_n 0, 1) := by decide +kernel
theorem d_Co_init_32 : decode b_Co_init 32 = .ok (.new 21, 3) := by decide +kernel
theorem d_Co_init_35 : decode b_Co_init 35 = .ok (.dup, 1) := by decide +kernel
theorem d_Co_init_36 : decode b_Co_init 36 = .ok (.iconst 0, 1) := by decide +kernel
theorem d_Co_init_37 : decode b_Co_init 37 = .ok (.iconst 0, 1) := by decide +kernel
theorem d_Co_init_38 : decode b_Co_init 38 = .ok (.iconst 0, 1) := by decide +kernel
theorem d_Co_init_39 : decode b_Co_init 39 = .ok (.invokespecial 23, 3) := by decide +kernel
theorem d_Co_init_42 : decode b_Co_init 42 = .ok (.putfield 26, 3) := by decide +kernel
theorem d_Co_init_45 : decode b_Co_init 45 = .ok (.aload_n 0, 1) := by decide +kernel
theorem d_Co_init_46 : decode b_Co_init 46 = .ok (.iconst 0, 1) := by decide +kernel
theorem d_Co_init_47 : decode b_Co_init 47 = .ok (.putfield 30, 3) := by decide +kernel
theorem d_Co_init_50 : decode b_Co_init 50 = .ok (.aload_n 0, 1) := by decide +kernel
theorem d_Co_init_51 : decode b_Co_init 51 = .ok (.iconst 0, 1) := by decide +kernel
theorem d_Co_init_52 : decode b_Co_init 52 = .ok (.putfield 34, 3) := by decide +kernel
theorem d_Co_init_55 : decode b_Co_init 55 = .ok (.return_, 1) := by decide +kernel
theorem d_Co_fill_0 : decode b_Co_fill 0 = .ok (.aload_n 0, 1) := by decide +kernel
theorem d_Co_fill_1 : decode b_Co_fill 1 = .ok (.getfield 26, 3) := by decide +kernel
theorem d_Co_fill_4 : decode b_Co_fill 4 = .ok (.getfield 37, 3) := by decide +kernel
theorem d_Co_fill_7 : decode b_Co_fill 7 = .ok (.aload_n 0, 1) := by decide +kernel
theorem d_Co_fill_8 : decode b_Co_fill 8 = .ok (.getfield 26, 3) := by decide +kernel
theorem d_Co_fill_11 : decode b_Co_fill 11 = .ok (.iload_n 3, 1) := by decide +kernel
theorem d_Co_fill_12 : decode b_Co_fill 12 = .ok (.invokevirtual 40, 3) := by decide +kernel
theorem d_Co_fill_15 : decode b_Co_fill 15 = .ok (.ior, 1) := by decide +kernel
theorem d_Co_fill_16 : decode b_Co_fill 16 = .ok (.istore 5, 2) := by decide +kernel
theorem d_Co_fill_18 : decode b_Co_fill 18 = .ok (.aload_n 0, 1) := by decide +kernel
theorem d_Co_fill_19 : decode b_Co_fill 19 = .ok (.getfield 26, 3) := by decide +kernel
theorem d_Co_fill_22 : decode b_Co_fill 22 = .ok (.getfield 44, 3) := by decide +kernel
theorem d_Co_fill_25 : decode b_Co_fill 25 = .ok (.aload_n 0, 1) := by decide +kernel
theorem d_Co_fill_26 : decode b_Co_fill 26 = .ok (.getfield 26, 3) := by decide +kernel
theorem d_Co_fill_29 : decode b_Co_fill 29 = .ok (.iload_n 3, 1) := by decide +kernel
theorem d_Co_fill_30 : decode b_Co_fill 30 = .ok (.aload 4, 2) := by decide +kernel
theorem d_Co_fill_32 : decode b_Co_fill 32 = .ok (.invokevirtual 47, 3) := by decide +kernel
theorem d_Co_fill_35 : decode b_Co_fill 35 = .ok (.ior, 1) := by decide +kernel
theorem d_Co_fill_36 : decode b_Co_fill 36 = .ok (.istore 6, 2) := by decide +kernel
theorem d_Co_fill_38 : decode b_Co_fill 38 = .ok (.aload_n 0, 1) := by decide +kernel
theorem d_Co_fill_39 : decode b_Co_fill 39 = .ok (.getfield 26, 3) := by decide +kernel
theorem d_Co_fill_42 : decode b_Co_fill 42 = .ok (.aload_n 0, 1) := by decide +kernel
theorem d_Co_fill_43 : decode b_Co_fill 43 = .ok (.getfield 30, 3) := by decide +kernel
theorem d_Co_fill_46 : decode b_Co_fill 46 = .ok (.invokevirtual 40, 3) := by decide +kernel
theorem d_Co_fill_49 : decode b_Co_fill 49 = .ok (.istore 7, 2) := by decide +kernel
theorem d_Co_fill_51 : decode b_Co_fill 51 = .ok (.aload_n 0, 1) := by decide +kernel
theorem d_Co_fill_52 : decode b_Co_fill 52 = .ok (.iconst 0, 1) := by decide +kernel
theorem d_Co_fill_53 : decode b_Co_fill 53 = .ok (.putfield 34, 3) := by decide +kernel
theorem d_Co_fill_56 : decode b_Co_fill 56 = .ok (.iconst 0, 1) := by decide +kernel
theorem d_Co_fill_57 : decode b_Co_fill 57 = .ok (.istore 8, 2) := by decide +kernel
theorem d_Co_fill_59 : decode b_Co_fill 59 = .ok (.iload 8, 2) := by decide +kernel
theorem d_Co_fill_61 : decode b_Co_fill 61 = .ok (.iload_n 2, 1) := by decide +kernel
theorem d_Co_fill_62 : decode b_Co_fill 62 = .ok (.if_icmp .ge 70, 3) := by decide +kernel
theorem d_Co_fill_65 : decode b_Co_fill 65 = .ok (.iload 8, 2) := by decide +kernel
theorem d_Co_fill_67 : decode b_Co_fill 67 = .ok (.aload_n 1, 1) := by decide +kernel
theorem d_Co_fill_68 : decode b_Co_fill 68 = .ok (.getfield 51, 3) := by decide +kernel
theorem d_Co_fill_71 : decode b_Co_fill 71 = .ok (.if_icmp .ge 61, 3) := by decide +kernel
theorem d_Co_fill_74 : decode b_Co_fill 74 = .ok (.aload_n 1, 1) := by decide +kernel
theorem d_Co_fill_75 : decode b_Co_fill 75 = .ok (.getfield 54, 3) := by decide +kernel
theorem d_Co_fill_78 : decode b_Co_fill 78 = .ok (.iload 8, 2) := by decide +kernel
theorem d_Co_fill_80 : decode b_Co_fill 80 = .ok (.iaload, 1) := by decide +kernel
theorem d_Co_fill_81 : decode b_Co_fill 81 = .ok (.istore 9, 2) := by decide +kernel
theorem d_Co_fill_83 : decode b_Co_fill 83 = .ok (.iload 9, 2) := by decide +kernel
theorem d_Co_fill_85 : decode b_Co_fill 85 = .ok (.iload 5, 2) := by decide +kernel
theorem d_Co_fill_87 : decode b_Co_fill 87 = .ok (.iand, 1) := by decide +kernel
theorem d_Co_fill_88 : decode b_Co_fill 88 = .ok (.iload 6, 2) := by decide +kernel
theorem d_Co_fill_90 : decode b_Co_fill 90 = .ok (.if_icmp .ne 36, 3) := by decide +kernel
theorem d_Co_fill_93 : decode b_Co_fill 93 = .ok (.aload_n 0, 1) := by decide +kernel
theorem d_Co_fill_94 : decode b_Co_fill 94 = .ok (.getfield 26, 3) := by decide +kernel
theorem d_Co_fill_97 : decode b_Co_fill 97 = .ok (.iload 9, 2) := by decide +kernel
theorem d_Co_fill_99 : decode b_Co_fill 99 = .ok (.invokevirtual 57, 3) := by decide +kernel
theorem d_Co_fill_102 : decode b_Co_fill 102 = .ok (.ifCond .eq 24, 3) := by decide +kernel
theorem d_Co_fill_105 : decode b_Co_fill 105 = .ok (.aload_n 0, 1) := by decide +kernel
theorem d_Co_fill_106 : decode b_Co_fill 106 = .ok (.iload 9, 2) := by decide +kernel
theorem d_Co_fill_108 : decode b_Co_fill 108 = .ok (.iload 7, 2) := by decide +kernel
theorem d_Co_fill_110 : decode b_Co_fill 110 = .ok (.iand, 1) := by decide +kernel
theorem d_Co_fill_111 : decode b_Co_fill 111 = .ok (.iload 9, 2) := by decide +kernel
theorem d_Co_fill_113 : decode b_Co_fill 113 = .ok (.iload 7, 2) := by decide +kernel
theorem d_Co_fill_115 : decode b_Co_fill 115 = .ok (.iand, 1) := by decide +kernel
theorem d_Co_fill_116 : decode b_Co_fill 116 = .ok (.iload 7, 2) := by decide +kernel
theorem d_Co_fill_118 : decode b_Co_fill 118 = .ok (.invokestatic 61, 3) := by decide +kernel
theorem d_Co_fill_121 : decode b_Co_fill 121 = .ok (.iload 7, 2) := by decide +kernel
theorem d_Co_fill_123 : decode b_Co_fill 123 = .ok (.invokevirtual 65, 3) := by decide +kernel
theorem d_Co_fill_126 : decode b_Co_fill 126 = .ok (.iinc 8 1, 3) := by decide +kernel
theorem d_Co_fill_129 : decode b_Co_fill 129 = .ok (.goto (-70), 3) := by decide +kernel
theorem d_Co_fill_132 : decode b_Co_fill 132 = .ok (.iconst 0, 1) := by decide +kernel
theorem d_Co_fill_133 : decode b_Co_fill 133 = .ok (.istore 8, 2) := by decide +kernel
theorem d_Co_fill_135 : decode b_Co_fill 135 = .ok (.iload 8, 2) := by decide +kernel
theorem d_Co_fill_137 : decode b_Co_fill 137 = .ok (.aload_n 0, 1) := by decide +kernel
theorem d_Co_fill_138 : decode b_Co_fill 138 = .ok (.getfield 34, 3) := by decide +kernel
theorem d_Co_fill_141 : decode b_Co_fill 141 = .ok (.if_icmp .ge 27, 3) := by decide +kernel
theorem d_Co_fill_144 : decode b_Co_fill 144 = .ok (.aload_n 0, 1) := by decide +kernel
theorem d_Co_fill_145 : decode b_Co_fill 145 = .ok (.getfield 18, 3) := by decide +kernel
theorem d_Co_fill_148 : decode b_Co_fill 148 = .ok (.aload_n 0, 1) := by decide +kernel
theorem d_Co_fill_149 : decode b_Co_fill 149 = .ok (.getfield 9, 3) := by decide +kernel
theorem d_Co_fill_152 : decode b_Co_fill 152 = .ok (.iload 8, 2) := by decide +kernel
theorem d_Co_fill_154 : decode b_Co_fill 154 = .ok (.iaload, 1) := by decide +kernel
theorem d_Co_fill_155 : decode b_Co_fill 155 = .ok (.iload 7, 2) := by decide +kernel
theorem d_Co_fill_157 : decode b_Co_fill 157 = .ok (.invokestatic 61, 3) := by decide +kernel
theorem d_Co_fill_160 : decode b_Co_fill 160 = .ok (.iconst 0, 1) := by decide +kernel
theorem d_Co_fill_161 : decode b_Co_fill 161 = .ok (.iastore, 1) := by decide +kernel
theorem d_Co_fill_162 : decode b_Co_fill 162 = .ok (.iinc 8 1, 3) := by decide +kernel
theorem d_Co_fill_165 : decode b_Co_fill 165 = .ok (.goto (-30), 3) := by decide +kernel
theorem d_Co_fill_168 : decode b_Co_fill 168 = .ok (.return_, 1) := by decide +kernel
theorem d_Co_take_0 : decode b_Co_take 0 = .ok (.iload_n 3, 1) := by decide +kernel
theorem d_Co_take_1 : decode b_Co_take 1 = .ok (.sipush 32767, 3) := by decide +kernel
theorem d_Co_take_4 : decode b_Co_take 4 = .ok (.if_icmp .ne 7, 3) := by decide +kernel
theorem d_Co_take_7 : decode b_Co_take 7 = .ok (.iconst 0, 1) := by decide +kernel
theorem d_Co_take_8 : decode b_Co_take 8 = .ok (.goto 9, 3) := by decide +kernel
theorem d_Co_take_11 : decode b_Co_take 11 = .ok (.aload_n 0, 1) := by decide +kernel
theorem d_Co_take_12 : decode b_Co_take 12 = .ok (.getfield 18, 3) := by decide +kernel
theorem d_Co_take_15 : decode b_Co_take 15 = .ok (.iload_n 2, 1) := by decide +kernel
theorem d_Co_take_16 : decode b_Co_take 16 = .ok (.iaload, 1) := by decide +kernel
theorem d_Co_take_17 : decode b_Co_take 17 = .ok (.istore 4, 2) := by decide +kernel
theorem d_Co_take_19 : decode b_Co_take 19 = .ok (.iload 4, 2) := by decide +kernel
theorem d_Co_take_21 : decode b_Co_take 21 = .ok (.ifCond .le 28, 3) := by decide +kernel
theorem d_Co_take_24 : decode b_Co_take 24 = .ok (.iload 4, 2) := by decide +kernel
theorem d_Co_take_26 : decode b_Co_take 26 = .ok (.aload_n 0, 1) := by decide +kernel
theorem d_Co_take_27 : decode b_Co_take 27 = .ok (.getfield 34, 3) := by decide +kernel
theorem d_Co_take_30 : decode b_Co_take 30 = .ok (.if_icmp .gt 19, 3) := by decide +kernel
theorem d_Co_take_33 : decode b_Co_take 33 = .ok (.aload_n 0, 1) := by decide +kernel
theorem d_Co_take_34 : decode b_Co_take 34 = .ok (.getfield 15, 3) := by decide +kernel
theorem d_Co_take_37 : decode b_Co_take 37 = .ok (.iload 4, 2) := by decide +kernel
theorem d_Co_take_39 : decode b_Co_take 39 = .ok (.iconst 1, 1) := by decide +kernel
theorem d_Co_take_40 : decode b_Co_take 40 = .ok (.isub, 1) := by decide +kernel
theorem d_Co_take_41 : decode b_Co_take 41 = .ok (.dup2, 1) := by decide +kernel
theorem d_Co_take_42 : decode b_Co_take 42 = .ok (.iaload, 1) := by decide +kernel
theorem d_Co_take_43 : decode b_Co_take 43 = .ok (.iconst 1, 1) := by decide +kernel
theorem d_Co_take_44 : decode b_Co_take 44 = .ok (.iadd, 1) := by decide +kernel
theorem d_Co_take_45 : decode b_Co_take 45 = .ok (.iastore, 1) := by decide +kernel
theorem d_Co_take_46 : decode b_Co_take 46 = .ok (.goto 53, 3) := by decide +kernel
theorem d_Co_take_49 : decode b_Co_take 49 = .ok (.aload_n 0, 1) := by decide +kernel
theorem d_Co_take_50 : decode b_Co_take 50 = .ok (.getfield 34, 3) := by decide +kernel
theorem d_Co_take_53 : decode b_Co_take 53 = .ok (.sipush 300, 3) := by decide +kernel
theorem d_Co_take_56 : decode b_Co_take 56 = .ok (.if_icmp .ge 43, 3) := by decide +kernel
theorem d_Co_take_59 : decode b_Co_take 59 = .ok (.aload_n 0, 1) := by decide +kernel
theorem d_Co_take_60 : decode b_Co_take 60 = .ok (.getfield 9, 3) := by decide +kernel
theorem d_Co_take_63 : decode b_Co_take 63 = .ok (.aload_n 0, 1) := by decide +kernel
theorem d_Co_take_64 : decode b_Co_take 64 = .ok (.getfield 34, 3) := by decide +kernel
theorem d_Co_take_67 : decode b_Co_take 67 = .ok (.iload_n 1, 1) := by decide +kernel
theorem d_Co_take_68 : decode b_Co_take 68 = .ok (.iastore, 1) := by decide +kernel
theorem d_Co_take_69 : decode b_Co_take 69 = .ok (.aload_n 0, 1) := by decide +kernel
theorem d_Co_take_70 : decode b_Co_take 70 = .ok (.getfield 15, 3) := by decide +kernel
theorem d_Co_take_73 : decode b_Co_take 73 = .ok (.aload_n 0, 1) := by decide +kernel
theorem d_Co_take_74 : decode b_Co_take 74 = .ok (.getfield 34, 3) := by decide +kernel
theorem d_Co_take_77 : decode b_Co_take 77 = .ok (.iconst 1, 1) := by decide +kernel
theorem d_Co_take_78 : decode b_Co_take 78 = .ok (.iastore, 1) := by decide +kernel
theorem d_Co_take_79 : decode b_Co_take 79 = .ok (.aload_n 0, 1) := by decide +kernel
theorem d_Co_take_80 : decode b_Co_take 80 = .ok (.dup, 1) := by decide +kernel
theorem d_Co_take_81 : decode b_Co_take 81 = .ok (.getfield 34, 3) := by decide +kernel
theorem d_Co_take_84 : decode b_Co_take 84 = .ok (.iconst 1, 1) := by decide +kernel
theorem d_Co_take_85 : decode b_Co_take 85 = .ok (.iadd, 1) := by decide +kernel
theorem d_Co_take_86 : decode b_Co_take 86 = .ok (.putfield 34, 3) := by decide +kernel
theorem d_Co_take_89 : decode b_Co_take 89 = .ok (.aload_n 0, 1) := by decide +kernel
theorem d_Co_take_90 : decode b_Co_take 90 = .ok (.getfield 18, 3) := by decide +kernel
theorem d_Co_take_93 : decode b_Co_take 93 = .ok (.iload_n 2, 1) := by decide +kernel
theorem d_Co_take_94 : decode b_Co_take 94 = .ok (.aload_n 0, 1) := by decide +kernel
theorem d_Co_take_95 : decode b_Co_take 95 = .ok (.getfield 34, 3) := by decide +kernel
theorem d_Co_take_98 : decode b_Co_take 98 = .ok (.iastore, 1) := by decide +kernel
theorem d_Co_take_99 : decode b_Co_take 99 = .ok (.return_, 1) := by decide +kernel
theorem d_Co_placeOf_0 : decode b_Co_placeOf 0 = .ok (.iload_n 1, 1) := by decide +kernel
theorem d_Co_placeOf_1 : decode b_Co_placeOf 1 = .ok (.bipush 10, 2) := by decide +kernel
theorem d_Co_placeOf_3 : decode b_Co_placeOf 3 = .ok (.ishr, 1) := by decide +kernel
theorem d_Co_placeOf_4 : decode b_Co_placeOf 4 = .ok (.ifCond .eq 7, 3) := by decide +kernel
theorem d_Co_placeOf_7 : decode b_Co_placeOf 7 = .ok (.iconst 1, 1) := by decide +kernel
theorem d_Co_placeOf_8 : decode b_Co_placeOf 8 = .ok (.goto 4, 3) := by decide +kernel
theorem d_Co_placeOf_11 : decode b_Co_placeOf 11 = .ok (.iconst 0, 1) := by decide +kernel
theorem d_Co_placeOf_12 : decode b_Co_placeOf 12 = .ok (.istore_n 2, 1) := by decide +kernel
theorem d_Co_placeOf_13 : decode b_Co_placeOf 13 = .ok (.iload_n 2, 1) := by decide +kernel
theorem d_Co_placeOf_14 : decode b_Co_placeOf 14 = .ok (.ifCond .eq 14, 3) := by decide +kernel
theorem d_Co_placeOf_17 : decode b_Co_placeOf 17 = .ok (.iload_n 0, 1) := by decide +kernel
theorem d_Co_placeOf_18 : decode b_Co_placeOf 18 = .ok (.iconst 5, 1) := by decide +kernel
theorem d_Co_placeOf_19 : decode b_Co_placeOf 19 = .ok (.ishr, 1) := by decide +kernel
theorem d_Co_placeOf_20 : decode b_Co_placeOf 20 = .ok (.iload_n 0, 1) := by decide +kernel
theorem d_Co_placeOf_21 : decode b_Co_placeOf 21 = .ok (.bipush 31, 2) := by decide +kernel
theorem d_Co_placeOf_23 : decode b_Co_placeOf 23 = .ok (.iand, 1) := by decide +kernel
theorem d_Co_placeOf_24 : decode b_Co_placeOf 24 = .ok (.ior, 1) := by decide +kernel
theorem d_Co_placeOf_25 : decode b_Co_placeOf 25 = .ok (.goto 4, 3) := by decide +kernel
theorem d_Co_placeOf_28 : decode b_Co_placeOf 28 = .ok (.iload_n 0, 1) := by decide +kernel
theorem d_Co_placeOf_29 : decode b_Co_placeOf 29 = .ok (.istore_n 3, 1) := by decide +kernel
theorem d_Co_placeOf_30 : decode b_Co_placeOf 30 = .ok (.iload_n 3, 1) := by decide +kernel
theorem d_Co_placeOf_31 : decode b_Co_placeOf 31 = .ok (.sipush 1023, 3) := by decide +kernel
theorem d_Co_placeOf_34 : decode b_Co_placeOf 34 = .ok (.iand, 1) := by decide +kernel
theorem d_Co_placeOf_35 : decode b_Co_placeOf 35 = .ok (.ireturn, 1) := by decide +kernel
