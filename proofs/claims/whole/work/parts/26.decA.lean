theorem d_Ra_init_0 : decode prog_1_method_1_code 0 = .ok (.aload_n 0, 1) := by decide +kernel
theorem d_Ra_init_1 : decode prog_1_method_1_code 1 = .ok (.invokespecial 3, 3) := by decide +kernel
theorem d_Ra_init_4 : decode prog_1_method_1_code 4 = .ok (.aload_n 0, 1) := by decide +kernel
theorem d_Ra_init_5 : decode prog_1_method_1_code 5 = .ok (.new 9, 3) := by decide +kernel
theorem d_Ra_init_8 : decode prog_1_method_1_code 8 = .ok (.dup, 1) := by decide +kernel
theorem d_Ra_init_9 : decode prog_1_method_1_code 9 = .ok (.invokespecial 11, 3) := by decide +kernel
theorem d_Ra_init_12 : decode prog_1_method_1_code 12 = .ok (.putfield 12, 3) := by decide +kernel
theorem d_Ra_init_15 : decode prog_1_method_1_code 15 = .ok (.aload_n 0, 1) := by decide +kernel
theorem d_Ra_init_16 : decode prog_1_method_1_code 16 = .ok (.new 16, 3) := by decide +kernel
theorem d_Ra_init_19 : decode prog_1_method_1_code 19 = .ok (.dup, 1) := by decide +kernel
theorem d_Ra_init_20 : decode prog_1_method_1_code 20 = .ok (.aload_n 0, 1) := by decide +kernel
theorem d_Ra_init_21 : decode prog_1_method_1_code 21 = .ok (.getfield 12, 3) := by decide +kernel
theorem d_Ra_init_24 : decode prog_1_method_1_code 24 = .ok (.invokespecial 18, 3) := by decide +kernel
theorem d_Ra_init_27 : decode prog_1_method_1_code 27 = .ok (.putfield 21, 3) := by decide +kernel
theorem d_Ra_init_30 : decode prog_1_method_1_code 30 = .ok (.aload_n 0, 1) := by decide +kernel
theorem d_Ra_init_31 : decode prog_1_method_1_code 31 = .ok (.new 25, 3) := by decide +kernel
theorem d_Ra_init_34 : decode prog_1_method_1_code 34 = .ok (.dup, 1) := by decide +kernel
theorem d_Ra_init_35 : decode prog_1_method_1_code 35 = .ok (.invokespecial 27, 3) := by decide +kernel
theorem d_Ra_init_38 : decode prog_1_method_1_code 38 = .ok (.putfield 28, 3) := by decide +kernel
theorem d_Ra_init_41 : decode prog_1_method_1_code 41 = .ok (.aload_n 0, 1) := by decide +kernel
theorem d_Ra_init_42 : decode prog_1_method_1_code 42 = .ok (.new 32, 3) := by decide +kernel
theorem d_Ra_init_45 : decode prog_1_method_1_code 45 = .ok (.dup, 1) := by decide +kernel
theorem d_Ra_init_46 : decode prog_1_method_1_code 46 = .ok (.invokespecial 34, 3) := by decide +kernel
theorem d_Ra_init_49 : decode prog_1_method_1_code 49 = .ok (.putfield 35, 3) := by decide +kernel
theorem d_Ra_init_52 : decode prog_1_method_1_code 52 = .ok (.aload_n 0, 1) := by decide +kernel
theorem d_Ra_init_53 : decode prog_1_method_1_code 53 = .ok (.new 39, 3) := by decide +kernel
theorem d_Ra_init_56 : decode prog_1_method_1_code 56 = .ok (.dup, 1) := by decide +kernel
theorem d_Ra_init_57 : decode prog_1_method_1_code 57 = .ok (.invokespecial 41, 3) := by decide +kernel
theorem d_Ra_init_60 : decode prog_1_method_1_code 60 = .ok (.putfield 42, 3) := by decide +kernel
theorem d_Ra_init_63 : decode prog_1_method_1_code 63 = .ok (.aload_n 0, 1) := by decide +kernel
theorem d_Ra_init_64 : decode prog_1_method_1_code 64 = .ok (.new 46, 3) := by decide +kernel
theorem d_Ra_init_67 : decode prog_1_method_1_code 67 = .ok (.dup, 1) := by decide +kernel
theorem d_Ra_init_68 : decode prog_1_method_1_code 68 = .ok (.invokespecial 48, 3) := by decide +kernel
theorem d_Ra_init_71 : decode prog_1_method_1_code 71 = .ok (.putfield 49, 3) := by decide +kernel
theorem d_Ra_init_74 : decode prog_1_method_1_code 74 = .ok (.return_, 1) := by decide +kernel
theorem d_Gr_init_0 : decode prog_4_method_1_code 0 = .ok (.aload_n 0, 1) := by decide +kernel
theorem d_Gr_init_1 : decode prog_4_method_1_code 1 = .ok (.invokespecial 3, 3) := by decide +kernel
theorem d_Gr_init_4 : decode prog_4_method_1_code 4 = .ok (.aload_n 0, 1) := by decide +kernel
theorem d_Gr_init_5 : decode prog_4_method_1_code 5 = .ok (.new 9, 3) := by decide +kernel
theorem d_Gr_init_8 : decode prog_4_method_1_code 8 = .ok (.dup, 1) := by decide +kernel
theorem d_Gr_init_9 : decode prog_4_method_1_code 9 = .ok (.invokespecial 11, 3) := by decide +kernel
theorem d_Gr_init_12 : decode prog_4_method_1_code 12 = .ok (.putfield 12, 3) := by decide +kernel
theorem d_Gr_init_15 : decode prog_4_method_1_code 15 = .ok (.aload_n 0, 1) := by decide +kernel
theorem d_Gr_init_16 : decode prog_4_method_1_code 16 = .ok (.new 9, 3) := by decide +kernel
theorem d_Gr_init_19 : decode prog_4_method_1_code 19 = .ok (.dup, 1) := by decide +kernel
theorem d_Gr_init_20 : decode prog_4_method_1_code 20 = .ok (.invokespecial 11, 3) := by decide +kernel
theorem d_Gr_init_23 : decode prog_4_method_1_code 23 = .ok (.putfield 18, 3) := by decide +kernel
theorem d_Gr_init_26 : decode prog_4_method_1_code 26 = .ok (.aload_n 0, 1) := by decide +kernel
theorem d_Gr_init_27 : decode prog_4_method_1_code 27 = .ok (.new 21, 3) := by decide +kernel
theorem d_Gr_init_30 : decode prog_4_method_1_code 30 = .ok (.dup, 1) := by decide +kernel
theorem d_Gr_init_31 : decode prog_4_method_1_code 31 = .ok (.invokespecial 23, 3) := by decide +kernel
theorem d_Gr_init_34 : decode prog_4_method_1_code 34 = .ok (.putfield 24, 3) := by decide +kernel
theorem d_Gr_init_37 : decode prog_4_method_1_code 37 = .ok (.return_, 1) := by decide +kernel
theorem d_Ro_init_0 : decode prog_8_method_1_code 0 = .ok (.aload_n 0, 1) := by decide +kernel
theorem d_Ro_init_1 : decode prog_8_method_1_code 1 = .ok (.invokespecial 3, 3) := by decide +kernel
theorem d_Ro_init_4 : decode prog_8_method_1_code 4 = .ok (.aload_n 0, 1) := by decide +kernel
theorem d_Ro_init_5 : decode prog_8_method_1_code 5 = .ok (.bipush 96, 2) := by decide +kernel
theorem d_Ro_init_7 : decode prog_8_method_1_code 7 = .ok (.newarray .int, 2) := by decide +kernel
theorem d_Ro_init_9 : decode prog_8_method_1_code 9 = .ok (.putfield 9, 3) := by decide +kernel
theorem d_Ro_init_12 : decode prog_8_method_1_code 12 = .ok (.return_, 1) := by decide +kernel
theorem d_Pr_init_0 : decode prog_7_method_1_code 0 = .ok (.aload_n 0, 1) := by decide +kernel
theorem d_Pr_init_1 : decode prog_7_method_1_code 1 = .ok (.invokespecial 3, 3) := by decide +kernel
theorem d_Pr_init_4 : decode prog_7_method_1_code 4 = .ok (.aload_n 0, 1) := by decide +kernel
theorem d_Pr_init_5 : decode prog_7_method_1_code 5 = .ok (.sipush 676, 3) := by decide +kernel
theorem d_Pr_init_8 : decode prog_7_method_1_code 8 = .ok (.newarray .int, 2) := by decide +kernel
theorem d_Pr_init_10 : decode prog_7_method_1_code 10 = .ok (.putfield 9, 3) := by decide +kernel
theorem d_Pr_init_13 : decode prog_7_method_1_code 13 = .ok (.aload_n 0, 1) := by decide +kernel
theorem d_Pr_init_14 : decode prog_7_method_1_code 14 = .ok (.iconst 3, 1) := by decide +kernel
theorem d_Pr_init_15 : decode prog_7_method_1_code 15 = .ok (.putfield 15, 3) := by decide +kernel
theorem d_Pr_init_18 : decode prog_7_method_1_code 18 = .ok (.aload_n 0, 1) := by decide +kernel
theorem d_Pr_init_19 : decode prog_7_method_1_code 19 = .ok (.iconst 1, 1) := by decide +kernel
theorem d_Pr_init_20 : decode prog_7_method_1_code 20 = .ok (.putfield 19, 3) := by decide +kernel
theorem d_Pr_init_23 : decode prog_7_method_1_code 23 = .ok (.aload_n 0, 1) := by decide +kernel
theorem d_Pr_init_24 : decode prog_7_method_1_code 24 = .ok (.iconst 1, 1) := by decide +kernel
theorem d_Pr_init_25 : decode prog_7_method_1_code 25 = .ok (.iconst (-1), 1) := by decide +kernel
theorem d_Pr_init_26 : decode prog_7_method_1_code 26 = .ok (.invokevirtual 22, 3) := by decide +kernel
theorem d_Pr_init_29 : decode prog_7_method_1_code 29 = .ok (.return_, 1) := by decide +kernel
theorem d_Pr_setAllPairs_0 : decode prog_7_method_2_code 0 = .ok (.iconst 0, 1) := by decide +kernel
theorem d_Pr_setAllPairs_1 : decode prog_7_method_2_code 1 = .ok (.istore_n 3, 1) := by decide +kernel
theorem d_Pr_setAllPairs_2 : decode prog_7_method_2_code 2 = .ok (.iload_n 3, 1) := by decide +kernel
theorem d_Pr_setAllPairs_3 : decode prog_7_method_2_code 3 = .ok (.bipush 26, 2) := by decide +kernel
theorem d_Pr_setAllPairs_5 : decode prog_7_method_2_code 5 = .ok (.if_icmp .ge 43, 3) := by decide +kernel
theorem d_Pr_setAllPairs_8 : decode prog_7_method_2_code 8 = .ok (.iconst 0, 1) := by decide +kernel
theorem d_Pr_setAllPairs_9 : decode prog_7_method_2_code 9 = .ok (.istore 4, 2) := by decide +kernel
theorem d_Pr_setAllPairs_11 : decode prog_7_method_2_code 11 = .ok (.iload 4, 2) := by decide +kernel
theorem d_Pr_setAllPairs_13 : decode prog_7_method_2_code 13 = .ok (.bipush 26, 2) := by decide +kernel
theorem d_Pr_setAllPairs_15 : decode prog_7_method_2_code 15 = .ok (.if_icmp .ge 27, 3) := by decide +kernel
theorem d_Pr_setAllPairs_18 : decode prog_7_method_2_code 18 = .ok (.aload_n 0, 1) := by decide +kernel
theorem d_Pr_setAllPairs_19 : decode prog_7_method_2_code 19 = .ok (.iload_n 3, 1) := by decide +kernel
theorem d_Pr_setAllPairs_20 : decode prog_7_method_2_code 20 = .ok (.iload 4, 2) := by decide +kernel
theorem d_Pr_setAllPairs_22 : decode prog_7_method_2_code 22 = .ok (.iload_n 3, 1) := by decide +kernel
theorem d_Pr_setAllPairs_23 : decode prog_7_method_2_code 23 = .ok (.iload 4, 2) := by decide +kernel
theorem d_Pr_setAllPairs_25 : decode prog_7_method_2_code 25 = .ok (.if_icmp .ne 7, 3) := by decide +kernel
theorem d_Pr_setAllPairs_28 : decode prog_7_method_2_code 28 = .ok (.iload_n 1, 1) := by decide +kernel
theorem d_Pr_setAllPairs_29 : decode prog_7_method_2_code 29 = .ok (.goto 4, 3) := by decide +kernel
theorem d_Pr_setAllPairs_32 : decode prog_7_method_2_code 32 = .ok (.iload_n 2, 1) := by decide +kernel
theorem d_Pr_setAllPairs_33 : decode prog_7_method_2_code 33 = .ok (.invokevirtual 26, 3) := by decide +kernel
theorem d_Pr_setAllPairs_36 : decode prog_7_method_2_code 36 = .ok (.iinc 4 1, 3) := by decide +kernel
theorem d_Pr_setAllPairs_39 : decode prog_7_method_2_code 39 = .ok (.goto (-28), 3) := by decide +kernel
theorem d_Pr_setAllPairs_42 : decode prog_7_method_2_code 42 = .ok (.iinc 3 1, 3) := by decide +kernel
theorem d_Pr_setAllPairs_45 : decode prog_7_method_2_code 45 = .ok (.goto (-43), 3) := by decide +kernel
theorem d_Pr_setAllPairs_48 : decode prog_7_method_2_code 48 = .ok (.return_, 1) := by decide +kernel
theorem d_Pr_setPair_0 : decode prog_7_method_3_code 0 = .ok (.aload_n 0, 1) := by decide +kernel
theorem d_Pr_setPair_1 : decode prog_7_method_3_code 1 = .ok (.getfield 9, 3) := by decide +kernel
theorem d_Pr_setPair_4 : decode prog_7_method_3_code 4 = .ok (.iload_n 1, 1) := by decide +kernel
theorem d_Pr_setPair_5 : decode prog_7_method_3_code 5 = .ok (.bipush 26, 2) := by decide +kernel
theorem d_Pr_setPair_7 : decode prog_7_method_3_code 7 = .ok (.imul, 1) := by decide +kernel
theorem d_Pr_setPair_8 : decode prog_7_method_3_code 8 = .ok (.iload_n 2, 1) := by decide +kernel
theorem d_Pr_setPair_9 : decode prog_7_method_3_code 9 = .ok (.iadd, 1) := by decide +kernel
theorem d_Pr_setPair_10 : decode prog_7_method_3_code 10 = .ok (.iload_n 3, 1) := by decide +kernel
theorem d_Pr_setPair_11 : decode prog_7_method_3_code 11 = .ok (.iastore, 1) := by decide +kernel
theorem d_Pr_setPair_12 : decode prog_7_method_3_code 12 = .ok (.return_, 1) := by decide +kernel
theorem d_Se_init_0 : decode prog_9_method_1_code 0 = .ok (.aload_n 0, 1) := by decide +kernel
theorem d_Se_init_1 : decode prog_9_method_1_code 1 = .ok (.invokespecial 3, 3) := by decide +kernel
theorem d_Se_init_4 : decode prog_9_method_1_code 4 = .ok (.aload_n 0, 1) := by decide +kernel
theorem d_Se_init_5 : decode prog_9_method_1_code 5 = .ok (.new 9, 3) := by decide +kernel
theorem d_Se_init_8 : decode prog_9_method_1_code 8 = .ok (.dup, 1) := by decide +kernel
theorem d_Se_init_9 : decode prog_9_method_1_code 9 = .ok (.invokespecial 11, 3) := by decide +kernel
theorem d_Se_init_12 : decode prog_9_method_1_code 12 = .ok (.putfield 12, 3) := by decide +kernel
theorem d_Se_init_15 : decode prog_9_method_1_code 15 = .ok (.aload_n 0, 1) := by decide +kernel
theorem d_Se_init_16 : decode prog_9_method_1_code 16 = .ok (.sipush 28227, 3) := by decide +kernel
theorem d_Se_init_19 : decode prog_9_method_1_code 19 = .ok (.newarray .int, 2) := by decide +kernel
theorem d_Se_init_21 : decode prog_9_method_1_code 21 = .ok (.putfield 18, 3) := by decide +kernel
theorem d_Se_init_24 : decode prog_9_method_1_code 24 = .ok (.aload_n 0, 1) := by decide +kernel
theorem d_Se_init_25 : decode prog_9_method_1_code 25 = .ok (.aload_n 1, 1) := by decide +kernel
theorem d_Se_init_26 : decode prog_9_method_1_code 26 = .ok (.putfield 22, 3) := by decide +kernel
theorem d_Se_init_29 : decode prog_9_method_1_code 29 = .ok (.return_, 1) := by decide +kernel
theorem d_Ou_init_0 : decode prog_6_method_1_code 0 = .ok (.aload_n 0, 1) := by decide +kernel
theorem d_Ou_init_1 : decode prog_6_method_1_code 1 = .ok (.invokespecial 3, 3) := by decide +kernel
theorem d_Ou_init_4 : decode prog_6_method_1_code 4 = .ok (.return_, 1) := by decide +kernel
theorem d_La_init_0 : decode prog_5_method_1_code 0 = .ok (.aload_n 0, 1) := by decide +kernel
theorem d_La_init_1 : decode prog_5_method_1_code 1 = .ok (.invokespecial 3, 3) := by decide +kernel
theorem d_La_init_4 : decode prog_5_method_1_code 4 = .ok (.aload_n 0, 1) := by decide +kernel
theorem d_La_init_5 : decode prog_5_method_1_code 5 = .ok (.sipush 192, 3) := by decide +kernel
theorem d_La_init_8 : decode prog_5_method_1_code 8 = .ok (.newarray .int, 2) := by decide +kernel
theorem d_La_init_10 : decode prog_5_method_1_code 10 = .ok (.putfield 9, 3) := by decide +kernel
theorem d_La_init_13 : decode prog_5_method_1_code 13 = .ok (.return_, 1) := by decide +kernel
theorem d_Wc_init_0 : decode prog_10_method_1_code 0 = .ok (.aload_n 0, 1) := by decide +kernel
theorem d_Wc_init_1 : decode prog_10_method_1_code 1 = .ok (.invokespecial 3, 3) := by decide +kernel
theorem d_Wc_init_4 : decode prog_10_method_1_code 4 = .ok (.aload_n 0, 1) := by decide +kernel
theorem d_Wc_init_5 : decode prog_10_method_1_code 5 = .ok (.sipush 582, 3) := by decide +kernel
theorem d_Wc_init_8 : decode prog_10_method_1_code 8 = .ok (.newarray .long, 2) := by decide +kernel
theorem d_Wc_init_10 : decode prog_10_method_1_code 10 = .ok (.putfield 9, 3) := by decide +kernel
theorem d_Wc_init_13 : decode prog_10_method_1_code 13 = .ok (.return_, 1) := by decide +kernel
theorem d_Cf_init_0 : decode prog_2_method_1_code 0 = .ok (.aload_n 0, 1) := by decide +kernel
theorem d_Cf_init_1 : decode prog_2_method_1_code 1 = .ok (.invokespecial 3, 3) := by decide +kernel
theorem d_Cf_init_4 : decode prog_2_method_1_code 4 = .ok (.aload_n 0, 1) := by decide +kernel
theorem d_Cf_init_5 : decode prog_2_method_1_code 5 = .ok (.bipush 97, 2) := by decide +kernel
theorem d_Cf_init_7 : decode prog_2_method_1_code 7 = .ok (.newarray .int, 2) := by decide +kernel
theorem d_Cf_init_9 : decode prog_2_method_1_code 9 = .ok (.putfield 9, 3) := by decide +kernel
theorem d_Cf_init_12 : decode prog_2_method_1_code 12 = .ok (.aload_n 0, 1) := by decide +kernel
theorem d_Cf_init_13 : decode prog_2_method_1_code 13 = .ok (.sipush 582, 3) := by decide +kernel
theorem d_Cf_init_16 : decode prog_2_method_1_code 16 = .ok (.newarray .boolean, 2) := by decide +kernel
theorem d_Cf_init_18 : decode prog_2_method_1_code 18 = .ok (.putfield 15, 3) := by decide +kernel
theorem d_Cf_init_21 : decode prog_2_method_1_code 21 = .ok (.return_, 1) := by decide +kernel
theorem d_Dr_init_0 : decode prog_3_method_1_code 0 = .ok (.aload_n 0, 1) := by decide +kernel
theorem d_Dr_init_1 : decode prog_3_method_1_code 1 = .ok (.invokespecial 3, 3) := by decide +kernel
theorem d_Dr_init_4 : decode prog_3_method_1_code 4 = .ok (.aload_n 0, 1) := by decide +kernel
theorem d_Dr_init_5 : decode prog_3_method_1_code 5 = .ok (.sipush 200, 3) := by decide +kernel
theorem d_Dr_init_8 : decode prog_3_method_1_code 8 = .ok (.newarray .int, 2) := by decide +kernel
theorem d_Dr_init_10 : decode prog_3_method_1_code 10 = .ok (.putfield 9, 3) := by decide +kernel
theorem d_Dr_init_13 : decode prog_3_method_1_code 13 = .ok (.return_, 1) := by decide +kernel
theorem d_Ra_parts_0 : decode prog_1_method_11_code 0 = .ok (.aload_n 0, 1) := by decide +kernel
theorem d_Ra_parts_1 : decode prog_1_method_11_code 1 = .ok (.getfield 21, 3) := by decide +kernel
theorem d_Ra_parts_4 : decode prog_1_method_11_code 4 = .ok (.invokevirtual 128, 3) := by decide +kernel
theorem d_Ra_parts_7 : decode prog_1_method_11_code 7 = .ok (.aload_n 0, 1) := by decide +kernel
theorem d_Ra_parts_8 : decode prog_1_method_11_code 8 = .ok (.invokevirtual 124, 3) := by decide +kernel
theorem d_Ra_parts_11 : decode prog_1_method_11_code 11 = .ok (.ireturn, 1) := by decide +kernel
theorem d_Se_searchParts_0 : decode prog_9_method_3_code 0 = .ok (.aload_n 0, 1) := by decide +kernel
theorem d_Se_searchParts_1 : decode prog_9_method_3_code 1 = .ok (.iconst 0, 1) := by decide +kernel
theorem d_Se_searchParts_2 : decode prog_9_method_3_code 2 = .ok (.putfield 26, 3) := by decide +kernel
theorem d_Se_searchParts_5 : decode prog_9_method_3_code 5 = .ok (.aload_n 0, 1) := by decide +kernel
theorem d_Se_searchParts_6 : decode prog_9_method_3_code 6 = .ok (.iconst 1, 1) := by decide +kernel
theorem d_Se_searchParts_7 : decode prog_9_method_3_code 7 = .ok (.putfield 30, 3) := by decide +kernel
theorem d_Se_searchParts_10 : decode prog_9_method_3_code 10 = .ok (.aload_n 0, 1) := by decide +kernel
theorem d_Se_searchParts_11 : decode prog_9_method_3_code 11 = .ok (.invokevirtual 34, 3) := by decide +kernel
theorem d_Se_searchParts_14 : decode prog_9_method_3_code 14 = .ok (.aload_n 0, 1) := by decide +kernel
theorem d_Se_searchParts_15 : decode prog_9_method_3_code 15 = .ok (.invokevirtual 41, 3) := by decide +kernel
theorem d_Se_searchParts_18 : decode prog_9_method_3_code 18 = .ok (.return_, 1) := by decide +kernel
theorem d_Se_fill_0 : decode prog_9_method_4_code 0 = .ok (.aload_n 0, 1) := by decide +kernel
theorem d_Se_fill_1 : decode prog_9_method_4_code 1 = .ok (.getfield 22, 3) := by decide +kernel
theorem d_Se_fill_4 : decode prog_9_method_4_code 4 = .ok (.getfield 44, 3) := by decide +kernel
theorem d_Se_fill_7 : decode prog_9_method_4_code 7 = .ok (.getfield 50, 3) := by decide +kernel
theorem d_Se_fill_10 : decode prog_9_method_4_code 10 = .ok (.istore_n 1, 1) := by decide +kernel
theorem d_Se_fill_11 : decode prog_9_method_4_code 11 = .ok (.iload_n 1, 1) := by decide +kernel
theorem d_Se_fill_12 : decode prog_9_method_4_code 12 = .ok (.ifCond .lt 93, 3) := by decide +kernel
theorem d_Se_fill_15 : decode prog_9_method_4_code 15 = .ok (.aload_n 0, 1) := by decide +kernel
theorem d_Se_fill_16 : decode prog_9_method_4_code 16 = .ok (.getfield 22, 3) := by decide +kernel
theorem d_Se_fill_19 : decode prog_9_method_4_code 19 = .ok (.getfield 55, 3) := by decide +kernel
theorem d_Se_fill_22 : decode prog_9_method_4_code 22 = .ok (.getfield 50, 3) := by decide +kernel
theorem d_Se_fill_25 : decode prog_9_method_4_code 25 = .ok (.istore_n 2, 1) := by decide +kernel
theorem d_Se_fill_26 : decode prog_9_method_4_code 26 = .ok (.iload_n 2, 1) := by decide +kernel
theorem d_Se_fill_27 : decode prog_9_method_4_code 27 = .ok (.ifCond .lt 72, 3) := by decide +kernel
theorem d_Se_fill_30 : decode prog_9_method_4_code 30 = .ok (.aload_n 0, 1) := by decide +kernel
theorem d_Se_fill_31 : decode prog_9_method_4_code 31 = .ok (.iload_n 1, 1) := by decide +kernel
theorem d_Se_fill_32 : decode prog_9_method_4_code 32 = .ok (.iload_n 2, 1) := by decide +kernel
theorem d_Se_fill_33 : decode prog_9_method_4_code 33 = .ok (.invokevirtual 58, 3) := by decide +kernel
theorem d_Se_fill_36 : decode prog_9_method_4_code 36 = .ok (.aload_n 0, 1) := by decide +kernel
theorem d_Se_fill_37 : decode prog_9_method_4_code 37 = .ok (.getfield 18, 3) := by decide +kernel
theorem d_Se_fill_40 : decode prog_9_method_4_code 40 = .ok (.iconst 0, 1) := by decide +kernel
theorem d_Se_fill_41 : decode prog_9_method_4_code 41 = .ok (.iload_n 1, 1) := by decide +kernel
theorem d_Se_fill_42 : decode prog_9_method_4_code 42 = .ok (.iload_n 2, 1) := by decide +kernel
theorem d_Se_fill_43 : decode prog_9_method_4_code 43 = .ok (.invokestatic 61, 3) := by decide +kernel
theorem d_Se_fill_46 : decode prog_9_method_4_code 46 = .ok (.aload_n 0, 1) := by decide +kernel
theorem d_Se_fill_47 : decode prog_9_method_4_code 47 = .ok (.getfield 12, 3) := by decide +kernel
theorem d_Se_fill_50 : decode prog_9_method_4_code 50 = .ok (.iconst 0, 1) := by decide +kernel
theorem d_Se_fill_51 : decode prog_9_method_4_code 51 = .ok (.invokevirtual 65, 3) := by decide +kernel
theorem d_Se_fill_54 : decode prog_9_method_4_code 54 = .ok (.iastore, 1) := by decide +kernel
theorem d_Se_fill_55 : decode prog_9_method_4_code 55 = .ok (.aload_n 0, 1) := by decide +kernel
theorem d_Se_fill_56 : decode prog_9_method_4_code 56 = .ok (.getfield 18, 3) := by decide +kernel
theorem d_Se_fill_59 : decode prog_9_method_4_code 59 = .ok (.iconst 1, 1) := by decide +kernel
theorem d_Se_fill_60 : decode prog_9_method_4_code 60 = .ok (.iload_n 1, 1) := by decide +kernel
theorem d_Se_fill_61 : decode prog_9_method_4_code 61 = .ok (.iload_n 2, 1) := by decide +kernel
theorem d_Se_fill_62 : decode prog_9_method_4_code 62 = .ok (.invokestatic 61, 3) := by decide +kernel
theorem d_Se_fill_65 : decode prog_9_method_4_code 65 = .ok (.aload_n 0, 1) := by decide +kernel
theorem d_Se_fill_66 : decode prog_9_method_4_code 66 = .ok (.getfield 12, 3) := by decide +kernel
theorem d_Se_fill_69 : decode prog_9_method_4_code 69 = .ok (.iconst 1, 1) := by decide +kernel
theorem d_Se_fill_70 : decode prog_9_method_4_code 70 = .ok (.invokevirtual 65, 3) := by decide +kernel
theorem d_Se_fill_73 : decode prog_9_method_4_code 73 = .ok (.iastore, 1) := by decide +kernel
theorem d_Se_fill_74 : decode prog_9_method_4_code 74 = .ok (.aload_n 0, 1) := by decide +kernel
theorem d_Se_fill_75 : decode prog_9_method_4_code 75 = .ok (.getfield 18, 3) := by decide +kernel
theorem d_Se_fill_78 : decode prog_9_method_4_code 78 = .ok (.iconst 2, 1) := by decide +kernel
theorem d_Se_fill_79 : decode prog_9_method_4_code 79 = .ok (.iload_n 1, 1) := by decide +kernel
theorem d_Se_fill_80 : decode prog_9_method_4_code 80 = .ok (.iload_n 2, 1) := by decide +kernel
theorem d_Se_fill_81 : decode prog_9_method_4_code 81 = .ok (.invokestatic 61, 3) := by decide +kernel
theorem d_Se_fill_84 : decode prog_9_method_4_code 84 = .ok (.aload_n 0, 1) := by decide +kernel
theorem d_Se_fill_85 : decode prog_9_method_4_code 85 = .ok (.getfield 12, 3) := by decide +kernel
theorem d_Se_fill_88 : decode prog_9_method_4_code 88 = .ok (.iconst 2, 1) := by decide +kernel
theorem d_Se_fill_89 : decode prog_9_method_4_code 89 = .ok (.invokevirtual 65, 3) := by decide +kernel
theorem d_Se_fill_92 : decode prog_9_method_4_code 92 = .ok (.iastore, 1) := by decide +kernel
theorem d_Se_fill_93 : decode prog_9_method_4_code 93 = .ok (.iinc 2 (-1), 3) := by decide +kernel
theorem d_Se_fill_96 : decode prog_9_method_4_code 96 = .ok (.goto (-70), 3) := by decide +kernel
theorem d_Se_fill_99 : decode prog_9_method_4_code 99 = .ok (.iinc 1 (-1), 3) := by decide +kernel
theorem d_Se_fill_102 : decode prog_9_method_4_code 102 = .ok (.goto (-91), 3) := by decide +kernel
theorem d_Se_fill_105 : decode prog_9_method_4_code 105 = .ok (.return_, 1) := by decide +kernel
theorem d_Se_lookFrom_0 : decode prog_9_method_5_code 0 = .ok (.iload_n 1, 1) := by decide +kernel
theorem d_Se_lookFrom_1 : decode prog_9_method_5_code 1 = .ok (.aload_n 0, 1) := by decide +kernel
theorem d_Se_lookFrom_2 : decode prog_9_method_5_code 2 = .ok (.getfield 22, 3) := by decide +kernel
theorem d_Se_lookFrom_5 : decode prog_9_method_5_code 5 = .ok (.getfield 44, 3) := by decide +kernel
theorem d_Se_lookFrom_8 : decode prog_9_method_5_code 8 = .ok (.getfield 50, 3) := by decide +kernel
theorem d_Se_lookFrom_11 : decode prog_9_method_5_code 11 = .ok (.if_icmp .ge 7, 3) := by decide +kernel
theorem d_Se_lookFrom_14 : decode prog_9_method_5_code 14 = .ok (.iconst 1, 1) := by decide +kernel
theorem d_Se_lookFrom_15 : decode prog_9_method_5_code 15 = .ok (.goto 4, 3) := by decide +kernel
theorem d_Se_lookFrom_18 : decode prog_9_method_5_code 18 = .ok (.iconst 0, 1) := by decide +kernel
theorem d_Se_lookFrom_19 : decode prog_9_method_5_code 19 = .ok (.istore_n 3, 1) := by decide +kernel
theorem d_Se_lookFrom_20 : decode prog_9_method_5_code 20 = .ok (.iload_n 2, 1) := by decide +kernel
theorem d_Se_lookFrom_21 : decode prog_9_method_5_code 21 = .ok (.aload_n 0, 1) := by decide +kernel
theorem d_Se_lookFrom_22 : decode prog_9_method_5_code 22 = .ok (.getfield 22, 3) := by decide +kernel
theorem d_Se_lookFrom_25 : decode prog_9_method_5_code 25 = .ok (.getfield 55, 3) := by decide +kernel
theorem d_Se_lookFrom_28 : decode prog_9_method_5_code 28 = .ok (.getfield 50, 3) := by decide +kernel
theorem d_Se_lookFrom_31 : decode prog_9_method_5_code 31 = .ok (.if_icmp .ge 7, 3) := by decide +kernel
theorem d_Se_lookFrom_34 : decode prog_9_method_5_code 34 = .ok (.iconst 1, 1) := by decide +kernel
theorem d_Se_lookFrom_35 : decode prog_9_method_5_code 35 = .ok (.goto 4, 3) := by decide +kernel
theorem d_Se_lookFrom_38 : decode prog_9_method_5_code 38 = .ok (.iconst 0, 1) := by decide +kernel
theorem d_Se_lookFrom_39 : decode prog_9_method_5_code 39 = .ok (.istore 4, 2) := by decide +kernel
theorem d_Se_lookFrom_41 : decode prog_9_method_5_code 41 = .ok (.aload_n 0, 1) := by decide +kernel
theorem d_Se_lookFrom_42 : decode prog_9_method_5_code 42 = .ok (.getfield 12, 3) := by decide +kernel
theorem d_Se_lookFrom_45 : decode prog_9_method_5_code 45 = .ok (.aload_n 0, 1) := by decide +kernel
theorem d_Se_lookFrom_46 : decode prog_9_method_5_code 46 = .ok (.getfield 30, 3) := by decide +kernel
theorem d_Se_lookFrom_49 : decode prog_9_method_5_code 49 = .ok (.ifCond .ne 12, 3) := by decide +kernel
theorem d_Se_lookFrom_52 : decode prog_9_method_5_code 52 = .ok (.iload_n 3, 1) := by decide +kernel
theorem d_Se_lookFrom_53 : decode prog_9_method_5_code 53 = .ok (.ifCond .ne 12, 3) := by decide +kernel
theorem d_Se_lookFrom_56 : decode prog_9_method_5_code 56 = .ok (.iload 4, 2) := by decide +kernel
theorem d_Se_lookFrom_58 : decode prog_9_method_5_code 58 = .ok (.ifCond .ne 7, 3) := by decide +kernel
theorem d_Se_lookFrom_61 : decode prog_9_method_5_code 61 = .ok (.iconst 0, 1) := by decide +kernel
theorem d_Se_lookFrom_62 : decode prog_9_method_5_code 62 = .ok (.goto 5, 3) := by decide +kernel
theorem d_Se_lookFrom_65 : decode prog_9_method_5_code 65 = .ok (.ldc 69, 2) := by decide +kernel
theorem d_Se_lookFrom_67 : decode prog_9_method_5_code 67 = .ok (.putfield 70, 3) := by decide +kernel
theorem d_Se_lookFrom_70 : decode prog_9_method_5_code 70 = .ok (.aload_n 0, 1) := by decide +kernel
theorem d_Se_lookFrom_71 : decode prog_9_method_5_code 71 = .ok (.getfield 12, 3) := by decide +kernel
theorem d_Se_lookFrom_74 : decode prog_9_method_5_code 74 = .ok (.iload_n 3, 1) := by decide +kernel
theorem d_Se_lookFrom_75 : decode prog_9_method_5_code 75 = .ok (.ifCond .eq 36, 3) := by decide +kernel
theorem d_Se_lookFrom_78 : decode prog_9_method_5_code 78 = .ok (.iload 4, 2) := by decide +kernel
theorem d_Se_lookFrom_80 : decode prog_9_method_5_code 80 = .ok (.ifCond .eq 31, 3) := by decide +kernel
theorem d_Se_lookFrom_83 : decode prog_9_method_5_code 83 = .ok (.aload_n 0, 1) := by decide +kernel
theorem d_Se_lookFrom_84 : decode prog_9_method_5_code 84 = .ok (.getfield 22, 3) := by decide +kernel
theorem d_Se_lookFrom_87 : decode prog_9_method_5_code 87 = .ok (.iload_n 1, 1) := by decide +kernel
theorem d_Se_lookFrom_88 : decode prog_9_method_5_code 88 = .ok (.iload_n 2, 1) := by decide +kernel
theorem d_Se_lookFrom_89 : decode prog_9_method_5_code 89 = .ok (.invokevirtual 73, 3) := by decide +kernel
theorem d_Se_lookFrom_92 : decode prog_9_method_5_code 92 = .ok (.aload_n 0, 1) := by decide +kernel
theorem d_Se_lookFrom_93 : decode prog_9_method_5_code 93 = .ok (.getfield 18, 3) := by decide +kernel
theorem d_Se_lookFrom_96 : decode prog_9_method_5_code 96 = .ok (.iconst 0, 1) := by decide +kernel
theorem d_Se_lookFrom_97 : decode prog_9_method_5_code 97 = .ok (.iload_n 1, 1) := by decide +kernel
theorem d_Se_lookFrom_98 : decode prog_9_method_5_code 98 = .ok (.iconst 1, 1) := by decide +kernel
theorem d_Se_lookFrom_99 : decode prog_9_method_5_code 99 = .ok (.iadd, 1) := by decide +kernel
theorem d_Se_lookFrom_100 : decode prog_9_method_5_code 100 = .ok (.iload_n 2, 1) := by decide +kernel
theorem d_Se_lookFrom_101 : decode prog_9_method_5_code 101 = .ok (.iconst 1, 1) := by decide +kernel
theorem d_Se_lookFrom_102 : decode prog_9_method_5_code 102 = .ok (.iadd, 1) := by decide +kernel
theorem d_Se_lookFrom_103 : decode prog_9_method_5_code 103 = .ok (.invokestatic 61, 3) := by decide +kernel
theorem d_Se_lookFrom_106 : decode prog_9_method_5_code 106 = .ok (.iaload, 1) := by decide +kernel
theorem d_Se_lookFrom_107 : decode prog_9_method_5_code 107 = .ok (.iadd, 1) := by decide +kernel
theorem d_Se_lookFrom_108 : decode prog_9_method_5_code 108 = .ok (.goto 5, 3) := by decide +kernel
theorem d_Se_lookFrom_111 : decode prog_9_method_5_code 111 = .ok (.ldc 69, 2) := by decide +kernel
theorem d_Se_lookFrom_113 : decode prog_9_method_5_code 113 = .ok (.putfield 77, 3) := by decide +kernel
theorem d_Se_lookFrom_116 : decode prog_9_method_5_code 116 = .ok (.aload_n 0, 1) := by decide +kernel
theorem d_Se_lookFrom_117 : decode prog_9_method_5_code 117 = .ok (.getfield 22, 3) := by decide +kernel
theorem d_Se_lookFrom_120 : decode prog_9_method_5_code 120 = .ok (.iload_n 2, 1) := by decide +kernel
theorem d_Se_lookFrom_121 : decode prog_9_method_5_code 121 = .ok (.aload_n 0, 1) := by decide +kernel
theorem d_Se_lookFrom_122 : decode prog_9_method_5_code 122 = .ok (.getfield 26, 3) := by decide +kernel
theorem d_Se_lookFrom_125 : decode prog_9_method_5_code 125 = .ok (.invokevirtual 80, 3) := by decide +kernel
theorem d_Se_lookFrom_128 : decode prog_9_method_5_code 128 = .ok (.istore 5, 2) := by decide +kernel
theorem d_Se_lookFrom_130 : decode prog_9_method_5_code 130 = .ok (.aload_n 0, 1) := by decide +kernel
theorem d_Se_lookFrom_131 : decode prog_9_method_5_code 131 = .ok (.getfield 12, 3) := by decide +kernel
theorem d_Se_lookFrom_134 : decode prog_9_method_5_code 134 = .ok (.iload 5, 2) := by decide +kernel
theorem d_Se_lookFrom_136 : decode prog_9_method_5_code 136 = .ok (.ifCond .eq 7, 3) := by decide +kernel
theorem d_Se_lookFrom_139 : decode prog_9_method_5_code 139 = .ok (.iconst 0, 1) := by decide +kernel
theorem d_Se_lookFrom_140 : decode prog_9_method_5_code 140 = .ok (.goto 13, 3) := by decide +kernel
theorem d_Se_lookFrom_143 : decode prog_9_method_5_code 143 = .ok (.aload_n 0, 1) := by decide +kernel
theorem d_Se_lookFrom_144 : decode prog_9_method_5_code 144 = .ok (.getfield 22, 3) := by decide +kernel
theorem d_Se_lookFrom_147 : decode prog_9_method_5_code 147 = .ok (.getfield 84, 3) := by decide +kernel
theorem d_Se_lookFrom_150 : decode prog_9_method_5_code 150 = .ok (.getfield 88, 3) := by decide +kernel
theorem d_Se_lookFrom_153 : decode prog_9_method_5_code 153 = .ok (.putfield 93, 3) := by decide +kernel
theorem d_Se_lookFrom_156 : decode prog_9_method_5_code 156 = .ok (.aload_n 0, 1) := by decide +kernel
theorem d_Se_lookFrom_157 : decode prog_9_method_5_code 157 = .ok (.getfield 12, 3) := by decide +kernel
theorem d_Se_lookFrom_160 : decode prog_9_method_5_code 160 = .ok (.iload_n 3, 1) := by decide +kernel
theorem d_Se_lookFrom_161 : decode prog_9_method_5_code 161 = .ok (.ifCond .eq 39, 3) := by decide +kernel
theorem d_Se_lookFrom_164 : decode prog_9_method_5_code 164 = .ok (.aload_n 0, 1) := by decide +kernel
theorem d_Se_lookFrom_165 : decode prog_9_method_5_code 165 = .ok (.getfield 18, 3) := by decide +kernel
theorem d_Se_lookFrom_168 : decode prog_9_method_5_code 168 = .ok (.iconst 1, 1) := by decide +kernel
theorem d_Se_lookFrom_169 : decode prog_9_method_5_code 169 = .ok (.iload_n 1, 1) := by decide +kernel
theorem d_Se_lookFrom_170 : decode prog_9_method_5_code 170 = .ok (.iconst 1, 1) := by decide +kernel
theorem d_Se_lookFrom_171 : decode prog_9_method_5_code 171 = .ok (.iadd, 1) := by decide +kernel
theorem d_Se_lookFrom_172 : decode prog_9_method_5_code 172 = .ok (.iload_n 2, 1) := by decide +kernel
theorem d_Se_lookFrom_173 : decode prog_9_method_5_code 173 = .ok (.invokestatic 61, 3) := by decide +kernel
theorem d_Se_lookFrom_176 : decode prog_9_method_5_code 176 = .ok (.iaload, 1) := by decide +kernel
theorem d_Se_lookFrom_177 : decode prog_9_method_5_code 177 = .ok (.iload 5, 2) := by decide +kernel
theorem d_Se_lookFrom_179 : decode prog_9_method_5_code 179 = .ok (.ifCond .eq 7, 3) := by decide +kernel
theorem d_Se_lookFrom_182 : decode prog_9_method_5_code 182 = .ok (.iconst 0, 1) := by decide +kernel
theorem d_Se_lookFrom_183 : decode prog_9_method_5_code 183 = .ok (.goto 13, 3) := by decide +kernel
theorem d_Se_lookFrom_186 : decode prog_9_method_5_code 186 = .ok (.aload_n 0, 1) := by decide +kernel
theorem d_Se_lookFrom_187 : decode prog_9_method_5_code 187 = .ok (.getfield 22, 3) := by decide +kernel
theorem d_Se_lookFrom_190 : decode prog_9_method_5_code 190 = .ok (.getfield 84, 3) := by decide +kernel
theorem d_Se_lookFrom_193 : decode prog_9_method_5_code 193 = .ok (.getfield 96, 3) := by decide +kernel
theorem d_Se_lookFrom_196 : decode prog_9_method_5_code 196 = .ok (.isub, 1) := by decide +kernel
theorem d_Se_lookFrom_197 : decode prog_9_method_5_code 197 = .ok (.goto 5, 3) := by decide +kernel
theorem d_Se_lookFrom_200 : decode prog_9_method_5_code 200 = .ok (.ldc 69, 2) := by decide +kernel
theorem d_Se_lookFrom_202 : decode prog_9_method_5_code 202 = .ok (.putfield 99, 3) := by decide +kernel
theorem d_Se_lookFrom_205 : decode prog_9_method_5_code 205 = .ok (.aload_n 0, 1) := by decide +kernel
theorem d_Se_lookFrom_206 : decode prog_9_method_5_code 206 = .ok (.getfield 22, 3) := by decide +kernel
theorem d_Se_lookFrom_209 : decode prog_9_method_5_code 209 = .ok (.iload_n 1, 1) := by decide +kernel
theorem d_Se_lookFrom_210 : decode prog_9_method_5_code 210 = .ok (.aload_n 0, 1) := by decide +kernel
theorem d_Se_lookFrom_211 : decode prog_9_method_5_code 211 = .ok (.getfield 26, 3) := by decide +kernel
theorem d_Se_lookFrom_214 : decode prog_9_method_5_code 214 = .ok (.invokevirtual 102, 3) := by decide +kernel
theorem d_Se_lookFrom_217 : decode prog_9_method_5_code 217 = .ok (.istore 6, 2) := by decide +kernel
theorem d_Se_lookFrom_219 : decode prog_9_method_5_code 219 = .ok (.aload_n 0, 1) := by decide +kernel
theorem d_Se_lookFrom_220 : decode prog_9_method_5_code 220 = .ok (.getfield 12, 3) := by decide +kernel
theorem d_Se_lookFrom_223 : decode prog_9_method_5_code 223 = .ok (.iload 6, 2) := by decide +kernel
theorem d_Se_lookFrom_225 : decode prog_9_method_5_code 225 = .ok (.ifCond .eq 7, 3) := by decide +kernel
theorem d_Se_lookFrom_228 : decode prog_9_method_5_code 228 = .ok (.iconst 0, 1) := by decide +kernel
theorem d_Se_lookFrom_229 : decode prog_9_method_5_code 229 = .ok (.goto 13, 3) := by decide +kernel
theorem d_Se_lookFrom_232 : decode prog_9_method_5_code 232 = .ok (.aload_n 0, 1) := by decide +kernel
theorem d_Se_lookFrom_233 : decode prog_9_method_5_code 233 = .ok (.getfield 22, 3) := by decide +kernel
theorem d_Se_lookFrom_236 : decode prog_9_method_5_code 236 = .ok (.getfield 84, 3) := by decide +kernel
theorem d_Se_lookFrom_239 : decode prog_9_method_5_code 239 = .ok (.getfield 88, 3) := by decide +kernel
theorem d_Se_lookFrom_242 : decode prog_9_method_5_code 242 = .ok (.putfield 105, 3) := by decide +kernel
theorem d_Se_lookFrom_245 : decode prog_9_method_5_code 245 = .ok (.aload_n 0, 1) := by decide +kernel
theorem d_Se_lookFrom_246 : decode prog_9_method_5_code 246 = .ok (.getfield 12, 3) := by decide +kernel
theorem d_Se_lookFrom_249 : decode prog_9_method_5_code 249 = .ok (.iload 4, 2) := by decide +kernel
theorem d_Se_lookFrom_251 : decode prog_9_method_5_code 251 = .ok (.ifCond .eq 39, 3) := by decide +kernel
theorem d_Se_lookFrom_254 : decode prog_9_method_5_code 254 = .ok (.aload_n 0, 1) := by decide +kernel
theorem d_Se_lookFrom_255 : decode prog_9_method_5_code 255 = .ok (.getfield 18, 3) := by decide +kernel
theorem d_Se_lookFrom_258 : decode prog_9_method_5_code 258 = .ok (.iconst 2, 1) := by decide +kernel
theorem d_Se_lookFrom_259 : decode prog_9_method_5_code 259 = .ok (.iload_n 1, 1) := by decide +kernel
theorem d_Se_lookFrom_260 : decode prog_9_method_5_code 260 = .ok (.iload_n 2, 1) := by decide +kernel
theorem d_Se_lookFrom_261 : decode prog_9_method_5_code 261 = .ok (.iconst 1, 1) := by decide +kernel
theorem d_Se_lookFrom_262 : decode prog_9_method_5_code 262 = .ok (.iadd, 1) := by decide +kernel
theorem d_Se_lookFrom_263 : decode prog_9_method_5_code 263 = .ok (.invokestatic 61, 3) := by decide +kernel
theorem d_Se_lookFrom_266 : decode prog_9_method_5_code 266 = .ok (.iaload, 1) := by decide +kernel
theorem d_Se_lookFrom_267 : decode prog_9_method_5_code 267 = .ok (.iload 6, 2) := by decide +kernel
theorem d_Se_lookFrom_269 : decode prog_9_method_5_code 269 = .ok (.ifCond .eq 7, 3) := by decide +kernel
theorem d_Se_lookFrom_272 : decode prog_9_method_5_code 272 = .ok (.iconst 0, 1) := by decide +kernel
theorem d_Se_lookFrom_273 : decode prog_9_method_5_code 273 = .ok (.goto 13, 3) := by decide +kernel
theorem d_Se_lookFrom_276 : decode prog_9_method_5_code 276 = .ok (.aload_n 0, 1) := by decide +kernel
theorem d_Se_lookFrom_277 : decode prog_9_method_5_code 277 = .ok (.getfield 22, 3) := by decide +kernel
theorem d_Se_lookFrom_280 : decode prog_9_method_5_code 280 = .ok (.getfield 84, 3) := by decide +kernel
theorem d_Se_lookFrom_283 : decode prog_9_method_5_code 283 = .ok (.getfield 96, 3) := by decide +kernel
theorem d_Se_lookFrom_286 : decode prog_9_method_5_code 286 = .ok (.isub, 1) := by decide +kernel
theorem d_Se_lookFrom_287 : decode prog_9_method_5_code 287 = .ok (.goto 5, 3) := by decide +kernel
theorem d_Se_lookFrom_290 : decode prog_9_method_5_code 290 = .ok (.ldc 69, 2) := by decide +kernel
theorem d_Se_lookFrom_292 : decode prog_9_method_5_code 292 = .ok (.putfield 108, 3) := by decide +kernel
theorem d_Se_lookFrom_295 : decode prog_9_method_5_code 295 = .ok (.return_, 1) := by decide +kernel
theorem d_Gr_pairScore_0 : decode prog_4_method_2_code 0 = .ok (.aload_n 0, 1) := by decide +kernel
theorem d_Gr_pairScore_1 : decode prog_4_method_2_code 1 = .ok (.getfield 24, 3) := by decide +kernel
theorem d_Gr_pairScore_4 : decode prog_4_method_2_code 4 = .ok (.aload_n 0, 1) := by decide +kernel
theorem d_Gr_pairScore_5 : decode prog_4_method_2_code 5 = .ok (.getfield 12, 3) := by decide +kernel
theorem d_Gr_pairScore_8 : decode prog_4_method_2_code 8 = .ok (.getfield 28, 3) := by decide +kernel
theorem d_Gr_pairScore_11 : decode prog_4_method_2_code 11 = .ok (.iload_n 1, 1) := by decide +kernel
theorem d_Gr_pairScore_12 : decode prog_4_method_2_code 12 = .ok (.iaload, 1) := by decide +kernel
theorem d_Gr_pairScore_13 : decode prog_4_method_2_code 13 = .ok (.aload_n 0, 1) := by decide +kernel
theorem d_Gr_pairScore_14 : decode prog_4_method_2_code 14 = .ok (.getfield 18, 3) := by decide +kernel
theorem d_Gr_pairScore_17 : decode prog_4_method_2_code 17 = .ok (.getfield 28, 3) := by decide +kernel
theorem d_Gr_pairScore_20 : decode prog_4_method_2_code 20 = .ok (.iload_n 2, 1) := by decide +kernel
theorem d_Gr_pairScore_21 : decode prog_4_method_2_code 21 = .ok (.iaload, 1) := by decide +kernel
theorem d_Gr_pairScore_22 : decode prog_4_method_2_code 22 = .ok (.invokevirtual 32, 3) := by decide +kernel
theorem d_Gr_pairScore_25 : decode prog_4_method_2_code 25 = .ok (.ireturn, 1) := by decide +kernel
theorem d_Pr_ofPair_0 : decode prog_7_method_4_code 0 = .ok (.aload_n 0, 1) := by decide +kernel
theorem d_Pr_ofPair_1 : decode prog_7_method_4_code 1 = .ok (.getfield 9, 3) := by decide +kernel
theorem d_Pr_ofPair_4 : decode prog_7_method_4_code 4 = .ok (.iload_n 1, 1) := by decide +kernel
theorem d_Pr_ofPair_5 : decode prog_7_method_4_code 5 = .ok (.bipush 26, 2) := by decide +kernel
theorem d_Pr_ofPair_7 : decode prog_7_method_4_code 7 = .ok (.imul, 1) := by decide +kernel
theorem d_Pr_ofPair_8 : decode prog_7_method_4_code 8 = .ok (.iload_n 2, 1) := by decide +kernel
theorem d_Pr_ofPair_9 : decode prog_7_method_4_code 9 = .ok (.iadd, 1) := by decide +kernel
theorem d_Pr_ofPair_10 : decode prog_7_method_4_code 10 = .ok (.iaload, 1) := by decide +kernel
theorem d_Pr_ofPair_11 : decode prog_7_method_4_code 11 = .ok (.ireturn, 1) := by decide +kernel
theorem d_Ra_cell_0 : decode prog_1_method_32_code 0 = .ok (.iload_n 1, 1) := by decide +kernel
theorem d_Ra_cell_1 : decode prog_1_method_32_code 1 = .ok (.iconst 3, 1) := by decide +kernel
theorem d_Ra_cell_2 : decode prog_1_method_32_code 2 = .ok (.imul, 1) := by decide +kernel
theorem d_Ra_cell_3 : decode prog_1_method_32_code 3 = .ok (.iload_n 0, 1) := by decide +kernel
theorem d_Ra_cell_4 : decode prog_1_method_32_code 4 = .ok (.iadd, 1) := by decide +kernel
theorem d_Ra_cell_5 : decode prog_1_method_32_code 5 = .ok (.bipush 97, 2) := by decide +kernel
theorem d_Ra_cell_7 : decode prog_1_method_32_code 7 = .ok (.imul, 1) := by decide +kernel
theorem d_Ra_cell_8 : decode prog_1_method_32_code 8 = .ok (.iload_n 2, 1) := by decide +kernel
theorem d_Ra_cell_9 : decode prog_1_method_32_code 9 = .ok (.iadd, 1) := by decide +kernel
theorem d_Ra_cell_10 : decode prog_1_method_32_code 10 = .ok (.ireturn, 1) := by decide +kernel
theorem d_Gr_isOneFree_0 : decode prog_4_method_3_code 0 = .ok (.iload_n 1, 1) := by decide +kernel
theorem d_Gr_isOneFree_1 : decode prog_4_method_3_code 1 = .ok (.ifCond .ne 9, 3) := by decide +kernel
theorem d_Gr_isOneFree_4 : decode prog_4_method_3_code 4 = .ok (.iload_n 2, 1) := by decide +kernel
theorem d_Gr_isOneFree_5 : decode prog_4_method_3_code 5 = .ok (.iconst 1, 1) := by decide +kernel
theorem d_Gr_isOneFree_6 : decode prog_4_method_3_code 6 = .ok (.iand, 1) := by decide +kernel
theorem d_Gr_isOneFree_7 : decode prog_4_method_3_code 7 = .ok (.ifCond .ne 20, 3) := by decide +kernel
theorem d_Gr_isOneFree_10 : decode prog_4_method_3_code 10 = .ok (.iload_n 1, 1) := by decide +kernel
theorem d_Gr_isOneFree_11 : decode prog_4_method_3_code 11 = .ok (.aload_n 0, 1) := by decide +kernel
theorem d_Gr_isOneFree_12 : decode prog_4_method_3_code 12 = .ok (.getfield 18, 3) := by decide +kernel
theorem d_Gr_isOneFree_15 : decode prog_4_method_3_code 15 = .ok (.getfield 36, 3) := by decide +kernel
theorem d_Gr_isOneFree_18 : decode prog_4_method_3_code 18 = .ok (.if_icmp .ne 13, 3) := by decide +kernel
theorem d_Gr_isOneFree_21 : decode prog_4_method_3_code 21 = .ok (.iload_n 2, 1) := by decide +kernel
theorem d_Gr_isOneFree_22 : decode prog_4_method_3_code 22 = .ok (.iconst 4, 1) := by decide +kernel
theorem d_Gr_isOneFree_23 : decode prog_4_method_3_code 23 = .ok (.iand, 1) := by decide +kernel
theorem d_Gr_isOneFree_24 : decode prog_4_method_3_code 24 = .ok (.ifCond .eq 7, 3) := by decide +kernel
theorem d_Gr_isOneFree_27 : decode prog_4_method_3_code 27 = .ok (.iconst 1, 1) := by decide +kernel
theorem d_Gr_isOneFree_28 : decode prog_4_method_3_code 28 = .ok (.goto 4, 3) := by decide +kernel
theorem d_Gr_isOneFree_31 : decode prog_4_method_3_code 31 = .ok (.iconst 0, 1) := by decide +kernel
theorem d_Gr_isOneFree_32 : decode prog_4_method_3_code 32 = .ok (.ireturn, 1) := by decide +kernel
theorem d_Gr_isOtherFree_0 : decode prog_4_method_4_code 0 = .ok (.iload_n 1, 1) := by decide +kernel
theorem d_Gr_isOtherFree_1 : decode prog_4_method_4_code 1 = .ok (.ifCond .ne 9, 3) := by decide +kernel
theorem d_Gr_isOtherFree_4 : decode prog_4_method_4_code 4 = .ok (.iload_n 2, 1) := by decide +kernel
theorem d_Gr_isOtherFree_5 : decode prog_4_method_4_code 5 = .ok (.iconst 2, 1) := by decide +kernel
theorem d_Gr_isOtherFree_6 : decode prog_4_method_4_code 6 = .ok (.iand, 1) := by decide +kernel
theorem d_Gr_isOtherFree_7 : decode prog_4_method_4_code 7 = .ok (.ifCond .ne 21, 3) := by decide +kernel
theorem d_Gr_isOtherFree_10 : decode prog_4_method_4_code 10 = .ok (.iload_n 1, 1) := by decide +kernel
theorem d_Gr_isOtherFree_11 : decode prog_4_method_4_code 11 = .ok (.aload_n 0, 1) := by decide +kernel
theorem d_Gr_isOtherFree_12 : decode prog_4_method_4_code 12 = .ok (.getfield 12, 3) := by decide +kernel
theorem d_Gr_isOtherFree_15 : decode prog_4_method_4_code 15 = .ok (.getfield 36, 3) := by decide +kernel
theorem d_Gr_isOtherFree_18 : decode prog_4_method_4_code 18 = .ok (.if_icmp .ne 14, 3) := by decide +kernel
theorem d_Gr_isOtherFree_21 : decode prog_4_method_4_code 21 = .ok (.iload_n 2, 1) := by decide +kernel
theorem d_Gr_isOtherFree_22 : decode prog_4_method_4_code 22 = .ok (.bipush 8, 2) := by decide +kernel
theorem d_Gr_isOtherFree_24 : decode prog_4_method_4_code 24 = .ok (.iand, 1) := by decide +kernel
theorem d_Gr_isOtherFree_25 : decode prog_4_method_4_code 25 = .ok (.ifCond .eq 7, 3) := by decide +kernel
theorem d_Gr_isOtherFree_28 : decode prog_4_method_4_code 28 = .ok (.iconst 1, 1) := by decide +kernel
theorem d_Gr_isOtherFree_29 : decode prog_4_method_4_code 29 = .ok (.goto 4, 3) := by decide +kernel
theorem d_Gr_isOtherFree_32 : decode prog_4_method_4_code 32 = .ok (.iconst 0, 1) := by decide +kernel
theorem d_Gr_isOtherFree_33 : decode prog_4_method_4_code 33 = .ok (.ireturn, 1) := by decide +kernel
theorem d_Ou_greatestWorth_0 : decode prog_6_method_3_code 0 = .ok (.aload_n 0, 1) := by decide +kernel
theorem d_Ou_greatestWorth_1 : decode prog_6_method_3_code 1 = .ok (.getfield 27, 3) := by decide +kernel
theorem d_Ou_greatestWorth_4 : decode prog_6_method_3_code 4 = .ok (.aload_n 0, 1) := by decide +kernel
theorem d_Ou_greatestWorth_5 : decode prog_6_method_3_code 5 = .ok (.getfield 9, 3) := by decide +kernel
theorem d_Ou_greatestWorth_8 : decode prog_6_method_3_code 8 = .ok (.if_icmp .le 10, 3) := by decide +kernel
theorem d_Ou_greatestWorth_11 : decode prog_6_method_3_code 11 = .ok (.aload_n 0, 1) := by decide +kernel
theorem d_Ou_greatestWorth_12 : decode prog_6_method_3_code 12 = .ok (.getfield 27, 3) := by decide +kernel
theorem d_Ou_greatestWorth_15 : decode prog_6_method_3_code 15 = .ok (.goto 7, 3) := by decide +kernel
theorem d_Ou_greatestWorth_18 : decode prog_6_method_3_code 18 = .ok (.aload_n 0, 1) := by decide +kernel
theorem d_Ou_greatestWorth_19 : decode prog_6_method_3_code 19 = .ok (.getfield 9, 3) := by decide +kernel
theorem d_Ou_greatestWorth_22 : decode prog_6_method_3_code 22 = .ok (.istore_n 2, 1) := by decide +kernel
theorem d_Ou_greatestWorth_23 : decode prog_6_method_3_code 23 = .ok (.iload_n 1, 1) := by decide +kernel
theorem d_Ou_greatestWorth_24 : decode prog_6_method_3_code 24 = .ok (.iconst 1, 1) := by decide +kernel
theorem d_Ou_greatestWorth_25 : decode prog_6_method_3_code 25 = .ok (.if_icmp .ne 10, 3) := by decide +kernel
theorem d_Ou_greatestWorth_28 : decode prog_6_method_3_code 28 = .ok (.aload_n 0, 1) := by decide +kernel
theorem d_Ou_greatestWorth_29 : decode prog_6_method_3_code 29 = .ok (.getfield 15, 3) := by decide +kernel
theorem d_Ou_greatestWorth_32 : decode prog_6_method_3_code 32 = .ok (.goto 12, 3) := by decide +kernel
theorem d_Ou_greatestWorth_35 : decode prog_6_method_3_code 35 = .ok (.aload_n 0, 1) := by decide +kernel
theorem d_Ou_greatestWorth_36 : decode prog_6_method_3_code 36 = .ok (.getfield 15, 3) := by decide +kernel
theorem d_Ou_greatestWorth_39 : decode prog_6_method_3_code 39 = .ok (.aload_n 0, 1) := by decide +kernel
theorem d_Ou_greatestWorth_40 : decode prog_6_method_3_code 40 = .ok (.getfield 18, 3) := by decide +kernel
theorem d_Ou_greatestWorth_43 : decode prog_6_method_3_code 43 = .ok (.isub, 1) := by decide +kernel
theorem d_Ou_greatestWorth_44 : decode prog_6_method_3_code 44 = .ok (.istore_n 3, 1) := by decide +kernel
theorem d_Ou_greatestWorth_45 : decode prog_6_method_3_code 45 = .ok (.iload_n 1, 1) := by decide +kernel
theorem d_Ou_greatestWorth_46 : decode prog_6_method_3_code 46 = .ok (.iconst 2, 1) := by decide +kernel
theorem d_Ou_greatestWorth_47 : decode prog_6_method_3_code 47 = .ok (.if_icmp .ne 10, 3) := by decide +kernel
theorem d_Ou_greatestWorth_50 : decode prog_6_method_3_code 50 = .ok (.aload_n 0, 1) := by decide +kernel
theorem d_Ou_greatestWorth_51 : decode prog_6_method_3_code 51 = .ok (.getfield 21, 3) := by decide +kernel
theorem d_Ou_greatestWorth_54 : decode prog_6_method_3_code 54 = .ok (.goto 12, 3) := by decide +kernel
theorem d_Ou_greatestWorth_57 : decode prog_6_method_3_code 57 = .ok (.aload_n 0, 1) := by decide +kernel
theorem d_Ou_greatestWorth_58 : decode prog_6_method_3_code 58 = .ok (.getfield 21, 3) := by decide +kernel
theorem d_Ou_greatestWorth_61 : decode prog_6_method_3_code 61 = .ok (.aload_n 0, 1) := by decide +kernel
theorem d_Ou_greatestWorth_62 : decode prog_6_method_3_code 62 = .ok (.getfield 24, 3) := by decide +kernel
theorem d_Ou_greatestWorth_65 : decode prog_6_method_3_code 65 = .ok (.isub, 1) := by decide +kernel
theorem d_Ou_greatestWorth_66 : decode prog_6_method_3_code 66 = .ok (.istore 4, 2) := by decide +kernel
theorem d_Ou_greatestWorth_68 : decode prog_6_method_3_code 68 = .ok (.iload_n 3, 1) := by decide +kernel
theorem d_Ou_greatestWorth_69 : decode prog_6_method_3_code 69 = .ok (.iload_n 2, 1) := by decide +kernel
theorem d_Ou_greatestWorth_70 : decode prog_6_method_3_code 70 = .ok (.if_icmp .le 7, 3) := by decide +kernel
theorem d_Ou_greatestWorth_73 : decode prog_6_method_3_code 73 = .ok (.iload_n 3, 1) := by decide +kernel
theorem d_Ou_greatestWorth_74 : decode prog_6_method_3_code 74 = .ok (.goto 4, 3) := by decide +kernel
theorem d_Ou_greatestWorth_77 : decode prog_6_method_3_code 77 = .ok (.iload_n 2, 1) := by decide +kernel
theorem d_Ou_greatestWorth_78 : decode prog_6_method_3_code 78 = .ok (.istore_n 2, 1) := by decide +kernel
theorem d_Ou_greatestWorth_79 : decode prog_6_method_3_code 79 = .ok (.iload 4, 2) := by decide +kernel
theorem d_Ou_greatestWorth_81 : decode prog_6_method_3_code 81 = .ok (.iload_n 2, 1) := by decide +kernel
theorem d_Ou_greatestWorth_82 : decode prog_6_method_3_code 82 = .ok (.if_icmp .le 8, 3) := by decide +kernel
theorem d_Ou_greatestWorth_85 : decode prog_6_method_3_code 85 = .ok (.iload 4, 2) := by decide +kernel
theorem d_Ou_greatestWorth_87 : decode prog_6_method_3_code 87 = .ok (.goto 4, 3) := by decide +kernel
theorem d_Ou_greatestWorth_90 : decode prog_6_method_3_code 90 = .ok (.iload_n 2, 1) := by decide +kernel
theorem d_Ou_greatestWorth_91 : decode prog_6_method_3_code 91 = .ok (.ireturn, 1) := by decide +kernel
theorem d_Se_startAtFirstBest_0 : decode prog_9_method_8_code 0 = .ok (.aload_n 0, 1) := by decide +kernel
theorem d_Se_startAtFirstBest_1 : decode prog_9_method_8_code 1 = .ok (.iconst 0, 1) := by decide +kernel
theorem d_Se_startAtFirstBest_2 : decode prog_9_method_8_code 2 = .ok (.iconst 0, 1) := by decide +kernel
theorem d_Se_startAtFirstBest_3 : decode prog_9_method_8_code 3 = .ok (.invokevirtual 37, 3) := by decide +kernel
theorem d_Se_startAtFirstBest_6 : decode prog_9_method_8_code 6 = .ok (.iconst 0, 1) := by decide +kernel
theorem d_Se_startAtFirstBest_7 : decode prog_9_method_8_code 7 = .ok (.istore_n 1, 1) := by decide +kernel
theorem d_Se_startAtFirstBest_8 : decode prog_9_method_8_code 8 = .ok (.iload_n 1, 1) := by decide +kernel
theorem d_Se_startAtFirstBest_9 : decode prog_9_method_8_code 9 = .ok (.aload_n 0, 1) := by decide +kernel
theorem d_Se_startAtFirstBest_10 : decode prog_9_method_8_code 10 = .ok (.getfield 22, 3) := by decide +kernel
theorem d_Se_startAtFirstBest_13 : decode prog_9_method_8_code 13 = .ok (.getfield 44, 3) := by decide +kernel
theorem d_Se_startAtFirstBest_16 : decode prog_9_method_8_code 16 = .ok (.getfield 50, 3) := by decide +kernel
theorem d_Se_startAtFirstBest_19 : decode prog_9_method_8_code 19 = .ok (.if_icmp .gt 50, 3) := by decide +kernel
theorem d_Se_startAtFirstBest_22 : decode prog_9_method_8_code 22 = .ok (.iconst 0, 1) := by decide +kernel
theorem d_Se_startAtFirstBest_23 : decode prog_9_method_8_code 23 = .ok (.istore_n 2, 1) := by decide +kernel
theorem d_Se_startAtFirstBest_24 : decode prog_9_method_8_code 24 = .ok (.iload_n 2, 1) := by decide +kernel
theorem d_Se_startAtFirstBest_25 : decode prog_9_method_8_code 25 = .ok (.aload_n 0, 1) := by decide +kernel
theorem d_Se_startAtFirstBest_26 : decode prog_9_method_8_code 26 = .ok (.getfield 22, 3) := by decide +kernel
theorem d_Se_startAtFirstBest_29 : decode prog_9_method_8_code 29 = .ok (.getfield 55, 3) := by decide +kernel
theorem d_Se_startAtFirstBest_32 : decode prog_9_method_8_code 32 = .ok (.getfield 50, 3) := by decide +kernel
theorem d_Se_startAtFirstBest_35 : decode prog_9_method_8_code 35 = .ok (.if_icmp .gt 28, 3) := by decide +kernel
theorem d_Se_startAtFirstBest_38 : decode prog_9_method_8_code 38 = .ok (.aload_n 0, 1) := by decide +kernel
theorem d_Se_startAtFirstBest_39 : decode prog_9_method_8_code 39 = .ok (.iload_n 1, 1) := by decide +kernel
theorem d_Se_startAtFirstBest_40 : decode prog_9_method_8_code 40 = .ok (.iload_n 2, 1) := by decide +kernel
theorem d_Se_startAtFirstBest_41 : decode prog_9_method_8_code 41 = .ok (.invokevirtual 117, 3) := by decide +kernel
theorem d_Se_startAtFirstBest_44 : decode prog_9_method_8_code 44 = .ok (.aload_n 0, 1) := by decide +kernel
theorem d_Se_startAtFirstBest_45 : decode prog_9_method_8_code 45 = .ok (.getfield 120, 3) := by decide +kernel
theorem d_Se_startAtFirstBest_48 : decode prog_9_method_8_code 48 = .ok (.if_icmp .le 9, 3) := by decide +kernel
theorem d_Se_startAtFirstBest_51 : decode prog_9_method_8_code 51 = .ok (.aload_n 0, 1) := by decide +kernel
theorem d_Se_startAtFirstBest_52 : decode prog_9_method_8_code 52 = .ok (.iload_n 1, 1) := by decide +kernel
theorem d_Se_startAtFirstBest_53 : decode prog_9_method_8_code 53 = .ok (.iload_n 2, 1) := by decide +kernel
theorem d_Se_startAtFirstBest_54 : decode prog_9_method_8_code 54 = .ok (.invokevirtual 37, 3) := by decide +kernel
theorem d_Se_startAtFirstBest_57 : decode prog_9_method_8_code 57 = .ok (.iinc 2 1, 3) := by decide +kernel
theorem d_Se_startAtFirstBest_60 : decode prog_9_method_8_code 60 = .ok (.goto (-36), 3) := by decide +kernel
theorem d_Se_startAtFirstBest_63 : decode prog_9_method_8_code 63 = .ok (.iinc 1 1, 3) := by decide +kernel
theorem d_Se_startAtFirstBest_66 : decode prog_9_method_8_code 66 = .ok (.goto (-58), 3) := by decide +kernel
theorem d_Se_startAtFirstBest_69 : decode prog_9_method_8_code 69 = .ok (.return_, 1) := by decide +kernel
theorem d_Se_startAt_0 : decode prog_9_method_7_code 0 = .ok (.aload_n 0, 1) := by decide +kernel
theorem d_Se_startAt_1 : decode prog_9_method_7_code 1 = .ok (.iload_n 1, 1) := by decide +kernel
theorem d_Se_startAt_2 : decode prog_9_method_7_code 2 = .ok (.putfield 111, 3) := by decide +kernel
theorem d_Se_startAt_5 : decode prog_9_method_7_code 5 = .ok (.aload_n 0, 1) := by decide +kernel
theorem d_Se_startAt_6 : decode prog_9_method_7_code 6 = .ok (.iload_n 2, 1) := by decide +kernel
theorem d_Se_startAt_7 : decode prog_9_method_7_code 7 = .ok (.putfield 114, 3) := by decide +kernel
theorem d_Se_startAt_10 : decode prog_9_method_7_code 10 = .ok (.aload_n 0, 1) := by decide +kernel
theorem d_Se_startAt_11 : decode prog_9_method_7_code 11 = .ok (.aload_n 0, 1) := by decide +kernel
theorem d_Se_startAt_12 : decode prog_9_method_7_code 12 = .ok (.iload_n 1, 1) := by decide +kernel
theorem d_Se_startAt_13 : decode prog_9_method_7_code 13 = .ok (.iload_n 2, 1) := by decide +kernel
theorem d_Se_startAt_14 : decode prog_9_method_7_code 14 = .ok (.invokevirtual 117, 3) := by decide +kernel
theorem d_Se_startAt_17 : decode prog_9_method_7_code 17 = .ok (.putfield 120, 3) := by decide +kernel
theorem d_Se_startAt_20 : decode prog_9_method_7_code 20 = .ok (.return_, 1) := by decide +kernel
theorem d_Se_worthFrom_0 : decode prog_9_method_6_code 0 = .ok (.aload_n 0, 1) := by decide +kernel
theorem d_Se_worthFrom_1 : decode prog_9_method_6_code 1 = .ok (.getfield 18, 3) := by decide +kernel
theorem d_Se_worthFrom_4 : decode prog_9_method_6_code 4 = .ok (.iconst 0, 1) := by decide +kernel
theorem d_Se_worthFrom_5 : decode prog_9_method_6_code 5 = .ok (.iload_n 1, 1) := by decide +kernel
theorem d_Se_worthFrom_6 : decode prog_9_method_6_code 6 = .ok (.iload_n 2, 1) := by decide +kernel
theorem d_Se_worthFrom_7 : decode prog_9_method_6_code 7 = .ok (.invokestatic 61, 3) := by decide +kernel
theorem d_Se_worthFrom_10 : decode prog_9_method_6_code 10 = .ok (.iaload, 1) := by decide +kernel
theorem d_Se_worthFrom_11 : decode prog_9_method_6_code 11 = .ok (.ireturn, 1) := by decide +kernel
theorem d_Ra_keepBest_0 : decode prog_1_method_22_code 0 = .ok (.aload_n 0, 1) := by decide +kernel
theorem d_Ra_keepBest_1 : decode prog_1_method_22_code 1 = .ok (.getfield 28, 3) := by decide +kernel
theorem d_Ra_keepBest_4 : decode prog_1_method_22_code 4 = .ok (.aload_n 0, 1) := by decide +kernel
theorem d_Ra_keepBest_5 : decode prog_1_method_22_code 5 = .ok (.getfield 21, 3) := by decide +kernel
theorem d_Ra_keepBest_8 : decode prog_1_method_22_code 8 = .ok (.invokevirtual 212, 3) := by decide +kernel
theorem d_Ra_keepBest_11 : decode prog_1_method_22_code 11 = .ok (.aload_n 0, 1) := by decide +kernel
theorem d_Ra_keepBest_12 : decode prog_1_method_22_code 12 = .ok (.iconst 1, 1) := by decide +kernel
theorem d_Ra_keepBest_13 : decode prog_1_method_22_code 13 = .ok (.putfield 81, 3) := by decide +kernel
theorem d_Ra_keepBest_16 : decode prog_1_method_22_code 16 = .ok (.aload_n 0, 1) := by decide +kernel
theorem d_Ra_keepBest_17 : decode prog_1_method_22_code 17 = .ok (.iconst 0, 1) := by decide +kernel
theorem d_Ra_keepBest_18 : decode prog_1_method_22_code 18 = .ok (.putfield 173, 3) := by decide +kernel
theorem d_Ra_keepBest_21 : decode prog_1_method_22_code 21 = .ok (.aload_n 0, 1) := by decide +kernel
theorem d_Ra_keepBest_22 : decode prog_1_method_22_code 22 = .ok (.iconst 0, 1) := by decide +kernel
theorem d_Ra_keepBest_23 : decode prog_1_method_22_code 23 = .ok (.putfield 191, 3) := by decide +kernel
theorem d_Ra_keepBest_26 : decode prog_1_method_22_code 26 = .ok (.aload_n 0, 1) := by decide +kernel
theorem d_Ra_keepBest_27 : decode prog_1_method_22_code 27 = .ok (.getfield 21, 3) := by decide +kernel
theorem d_Ra_keepBest_30 : decode prog_1_method_22_code 30 = .ok (.getfield 215, 3) := by decide +kernel
theorem d_Ra_keepBest_33 : decode prog_1_method_22_code 33 = .ok (.ireturn, 1) := by decide +kernel
theorem d_La_follow_0 : decode prog_5_method_2_code 0 = .ok (.aload_n 0, 1) := by decide +kernel
theorem d_La_follow_1 : decode prog_5_method_2_code 1 = .ok (.aload_n 1, 1) := by decide +kernel
theorem d_La_follow_2 : decode prog_5_method_2_code 2 = .ok (.getfield 15, 3) := by decide +kernel
theorem d_La_follow_5 : decode prog_5_method_2_code 5 = .ok (.putfield 21, 3) := by decide +kernel
theorem d_La_follow_8 : decode prog_5_method_2_code 8 = .ok (.aload_n 0, 1) := by decide +kernel
theorem d_La_follow_9 : decode prog_5_method_2_code 9 = .ok (.aload_n 1, 1) := by decide +kernel
theorem d_La_follow_10 : decode prog_5_method_2_code 10 = .ok (.getfield 22, 3) := by decide +kernel
theorem d_La_follow_13 : decode prog_5_method_2_code 13 = .ok (.putfield 25, 3) := by decide +kernel
theorem d_La_follow_16 : decode prog_5_method_2_code 16 = .ok (.aload_n 0, 1) := by decide +kernel
theorem d_La_follow_17 : decode prog_5_method_2_code 17 = .ok (.aload_n 0, 1) := by decide +kernel
theorem d_La_follow_18 : decode prog_5_method_2_code 18 = .ok (.getfield 21, 3) := by decide +kernel
theorem d_La_follow_21 : decode prog_5_method_2_code 21 = .ok (.putfield 26, 3) := by decide +kernel
theorem d_La_follow_24 : decode prog_5_method_2_code 24 = .ok (.aload_n 0, 1) := by decide +kernel
theorem d_La_follow_25 : decode prog_5_method_2_code 25 = .ok (.aload_n 0, 1) := by decide +kernel
theorem d_La_follow_26 : decode prog_5_method_2_code 26 = .ok (.getfield 25, 3) := by decide +kernel
theorem d_La_follow_29 : decode prog_5_method_2_code 29 = .ok (.putfield 29, 3) := by decide +kernel
theorem d_La_follow_32 : decode prog_5_method_2_code 32 = .ok (.iconst 0, 1) := by decide +kernel
theorem d_La_follow_33 : decode prog_5_method_2_code 33 = .ok (.istore_n 2, 1) := by decide +kernel
theorem d_La_follow_34 : decode prog_5_method_2_code 34 = .ok (.aload_n 0, 1) := by decide +kernel
theorem d_La_follow_35 : decode prog_5_method_2_code 35 = .ok (.iconst 0, 1) := by decide +kernel
theorem d_La_follow_36 : decode prog_5_method_2_code 36 = .ok (.putfield 32, 3) := by decide +kernel
theorem d_La_follow_39 : decode prog_5_method_2_code 39 = .ok (.aload_n 0, 1) := by decide +kernel
theorem d_La_follow_40 : decode prog_5_method_2_code 40 = .ok (.getfield 32, 3) := by decide +kernel
theorem d_La_follow_43 : decode prog_5_method_2_code 43 = .ok (.aload_n 0, 1) := by decide +kernel
theorem d_La_follow_44 : decode prog_5_method_2_code 44 = .ok (.getfield 9, 3) := by decide +kernel
theorem d_La_follow_47 : decode prog_5_method_2_code 47 = .ok (.arraylength, 1) := by decide +kernel
theorem d_La_follow_48 : decode prog_5_method_2_code 48 = .ok (.if_icmp .ge 83, 3) := by decide +kernel
theorem d_La_follow_51 : decode prog_5_method_2_code 51 = .ok (.aload_n 1, 1) := by decide +kernel
theorem d_La_follow_52 : decode prog_5_method_2_code 52 = .ok (.aload_n 0, 1) := by decide +kernel
theorem d_La_follow_53 : decode prog_5_method_2_code 53 = .ok (.getfield 26, 3) := by decide +kernel
theorem d_La_follow_56 : decode prog_5_method_2_code 56 = .ok (.aload_n 0, 1) := by decide +kernel
theorem d_La_follow_57 : decode prog_5_method_2_code 57 = .ok (.getfield 29, 3) := by decide +kernel
theorem d_La_follow_60 : decode prog_5_method_2_code 60 = .ok (.invokevirtual 35, 3) := by decide +kernel
theorem d_La_follow_63 : decode prog_5_method_2_code 63 = .ok (.aload_n 1, 1) := by decide +kernel
theorem d_La_follow_64 : decode prog_5_method_2_code 64 = .ok (.getfield 39, 3) := by decide +kernel
theorem d_La_follow_67 : decode prog_5_method_2_code 67 = .ok (.iload_n 2, 1) := by decide +kernel
theorem d_La_follow_68 : decode prog_5_method_2_code 68 = .ok (.invokevirtual 43, 3) := by decide +kernel
theorem d_La_follow_71 : decode prog_5_method_2_code 71 = .ok (.istore_n 3, 1) := by decide +kernel
theorem d_La_follow_72 : decode prog_5_method_2_code 72 = .ok (.iload_n 3, 1) := by decide +kernel
theorem d_La_follow_73 : decode prog_5_method_2_code 73 = .ok (.iconst (-1), 1) := by decide +kernel
theorem d_La_follow_74 : decode prog_5_method_2_code 74 = .ok (.if_icmp .ne 6, 3) := by decide +kernel
theorem d_La_follow_77 : decode prog_5_method_2_code 77 = .ok (.goto 54, 3) := by decide +kernel
theorem d_La_follow_80 : decode prog_5_method_2_code 80 = .ok (.aload_n 0, 1) := by decide +kernel
theorem d_La_follow_81 : decode prog_5_method_2_code 81 = .ok (.getfield 9, 3) := by decide +kernel
theorem d_La_follow_84 : decode prog_5_method_2_code 84 = .ok (.aload_n 0, 1) := by decide +kernel
theorem d_La_follow_85 : decode prog_5_method_2_code 85 = .ok (.getfield 32, 3) := by decide +kernel
theorem d_La_follow_88 : decode prog_5_method_2_code 88 = .ok (.iload_n 3, 1) := by decide +kernel
theorem d_La_follow_89 : decode prog_5_method_2_code 89 = .ok (.iastore, 1) := by decide +kernel
theorem d_La_follow_90 : decode prog_5_method_2_code 90 = .ok (.aload_n 0, 1) := by decide +kernel
theorem d_La_follow_91 : decode prog_5_method_2_code 91 = .ok (.dup, 1) := by decide +kernel
theorem d_La_follow_92 : decode prog_5_method_2_code 92 = .ok (.getfield 26, 3) := by decide +kernel
theorem d_La_follow_95 : decode prog_5_method_2_code 95 = .ok (.iload_n 3, 1) := by decide +kernel
theorem d_La_follow_96 : decode prog_5_method_2_code 96 = .ok (.invokestatic 49, 3) := by decide +kernel
theorem d_La_follow_99 : decode prog_5_method_2_code 99 = .ok (.iadd, 1) := by decide +kernel
theorem d_La_follow_100 : decode prog_5_method_2_code 100 = .ok (.putfield 26, 3) := by decide +kernel
theorem d_La_follow_103 : decode prog_5_method_2_code 103 = .ok (.aload_n 0, 1) := by decide +kernel
theorem d_La_follow_104 : decode prog_5_method_2_code 104 = .ok (.dup, 1) := by decide +kernel
theorem d_La_follow_105 : decode prog_5_method_2_code 105 = .ok (.getfield 29, 3) := by decide +kernel
theorem d_La_follow_108 : decode prog_5_method_2_code 108 = .ok (.iload_n 3, 1) := by decide +kernel
theorem d_La_follow_109 : decode prog_5_method_2_code 109 = .ok (.invokestatic 52, 3) := by decide +kernel
theorem d_La_follow_112 : decode prog_5_method_2_code 112 = .ok (.iadd, 1) := by decide +kernel
theorem d_La_follow_113 : decode prog_5_method_2_code 113 = .ok (.putfield 29, 3) := by decide +kernel
theorem d_La_follow_116 : decode prog_5_method_2_code 116 = .ok (.iload_n 3, 1) := by decide +kernel
theorem d_La_follow_117 : decode prog_5_method_2_code 117 = .ok (.istore_n 2, 1) := by decide +kernel
theorem d_La_follow_118 : decode prog_5_method_2_code 118 = .ok (.aload_n 0, 1) := by decide +kernel
theorem d_La_follow_119 : decode prog_5_method_2_code 119 = .ok (.dup, 1) := by decide +kernel
theorem d_La_follow_120 : decode prog_5_method_2_code 120 = .ok (.getfield 32, 3) := by decide +kernel
theorem d_La_follow_123 : decode prog_5_method_2_code 123 = .ok (.iconst 1, 1) := by decide +kernel
theorem d_La_follow_124 : decode prog_5_method_2_code 124 = .ok (.iadd, 1) := by decide +kernel
theorem d_La_follow_125 : decode prog_5_method_2_code 125 = .ok (.putfield 32, 3) := by decide +kernel
theorem d_La_follow_128 : decode prog_5_method_2_code 128 = .ok (.goto (-89), 3) := by decide +kernel
theorem d_La_follow_131 : decode prog_5_method_2_code 131 = .ok (.return_, 1) := by decide +kernel
theorem d_Ou_firstBestStep_0 : decode prog_6_method_4_code 0 = .ok (.aload_n 0, 1) := by decide +kernel
theorem d_Ou_firstBestStep_1 : decode prog_6_method_4_code 1 = .ok (.iload_n 1, 1) := by decide +kernel
theorem d_Ou_firstBestStep_2 : decode prog_6_method_4_code 2 = .ok (.invokevirtual 30, 3) := by decide +kernel
theorem d_Ou_firstBestStep_5 : decode prog_6_method_4_code 5 = .ok (.istore_n 2, 1) := by decide +kernel
theorem d_Ou_firstBestStep_6 : decode prog_6_method_4_code 6 = .ok (.aload_n 0, 1) := by decide +kernel
theorem d_Ou_firstBestStep_7 : decode prog_6_method_4_code 7 = .ok (.getfield 27, 3) := by decide +kernel
theorem d_Ou_firstBestStep_10 : decode prog_6_method_4_code 10 = .ok (.iload_n 2, 1) := by decide +kernel
theorem d_Ou_firstBestStep_11 : decode prog_6_method_4_code 11 = .ok (.if_icmp .ne 5, 3) := by decide +kernel
theorem d_Ou_firstBestStep_14 : decode prog_6_method_4_code 14 = .ok (.iconst (-1), 1) := by decide +kernel
theorem d_Ou_firstBestStep_15 : decode prog_6_method_4_code 15 = .ok (.ireturn, 1) := by decide +kernel
theorem d_Ou_firstBestStep_16 : decode prog_6_method_4_code 16 = .ok (.iconst 0, 1) := by decide +kernel
theorem d_Ou_firstBestStep_17 : decode prog_6_method_4_code 17 = .ok (.istore_n 3, 1) := by decide +kernel
theorem d_Ou_firstBestStep_18 : decode prog_6_method_4_code 18 = .ok (.iload_n 3, 1) := by decide +kernel
theorem d_Ou_firstBestStep_19 : decode prog_6_method_4_code 19 = .ok (.iconst 2, 1) := by decide +kernel
theorem d_Ou_firstBestStep_20 : decode prog_6_method_4_code 20 = .ok (.if_icmp .ge 21, 3) := by decide +kernel
theorem d_Ou_firstBestStep_23 : decode prog_6_method_4_code 23 = .ok (.aload_n 0, 1) := by decide +kernel
theorem d_Ou_firstBestStep_24 : decode prog_6_method_4_code 24 = .ok (.iload_n 1, 1) := by decide +kernel
theorem d_Ou_firstBestStep_25 : decode prog_6_method_4_code 25 = .ok (.iload_n 3, 1) := by decide +kernel
theorem d_Ou_firstBestStep_26 : decode prog_6_method_4_code 26 = .ok (.invokevirtual 34, 3) := by decide +kernel
theorem d_Ou_firstBestStep_29 : decode prog_6_method_4_code 29 = .ok (.iload_n 2, 1) := by decide +kernel
theorem d_Ou_firstBestStep_30 : decode prog_6_method_4_code 30 = .ok (.if_icmp .ne 5, 3) := by decide +kernel
theorem d_Ou_firstBestStep_33 : decode prog_6_method_4_code 33 = .ok (.iload_n 3, 1) := by decide +kernel
theorem d_Ou_firstBestStep_34 : decode prog_6_method_4_code 34 = .ok (.ireturn, 1) := by decide +kernel
theorem d_Ou_firstBestStep_35 : decode prog_6_method_4_code 35 = .ok (.iinc 3 1, 3) := by decide +kernel
theorem d_Ou_firstBestStep_38 : decode prog_6_method_4_code 38 = .ok (.goto (-20), 3) := by decide +kernel
theorem d_Ou_firstBestStep_41 : decode prog_6_method_4_code 41 = .ok (.iconst 2, 1) := by decide +kernel
theorem d_Ou_firstBestStep_42 : decode prog_6_method_4_code 42 = .ok (.ireturn, 1) := by decide +kernel
theorem d_Ou_worthThrough_0 : decode prog_6_method_2_code 0 = .ok (.iload_n 2, 1) := by decide +kernel
theorem d_Ou_worthThrough_1 : decode prog_6_method_2_code 1 = .ok (.ifCond .ne 8, 3) := by decide +kernel
theorem d_Ou_worthThrough_4 : decode prog_6_method_2_code 4 = .ok (.aload_n 0, 1) := by decide +kernel
theorem d_Ou_worthThrough_5 : decode prog_6_method_2_code 5 = .ok (.getfield 9, 3) := by decide +kernel
theorem d_Ou_worthThrough_8 : decode prog_6_method_2_code 8 = .ok (.ireturn, 1) := by decide +kernel
theorem d_Ou_worthThrough_9 : decode prog_6_method_2_code 9 = .ok (.iload_n 2, 1) := by decide +kernel
theorem d_Ou_worthThrough_10 : decode prog_6_method_2_code 10 = .ok (.iconst 1, 1) := by decide +kernel
theorem d_Ou_worthThrough_11 : decode prog_6_method_2_code 11 = .ok (.if_icmp .ne 25, 3) := by decide +kernel
theorem d_Ou_worthThrough_14 : decode prog_6_method_2_code 14 = .ok (.iload_n 1, 1) := by decide +kernel
theorem d_Ou_worthThrough_15 : decode prog_6_method_2_code 15 = .ok (.iconst 1, 1) := by decide +kernel
theorem d_Ou_worthThrough_16 : decode prog_6_method_2_code 16 = .ok (.if_icmp .ne 10, 3) := by decide +kernel
theorem d_Ou_worthThrough_19 : decode prog_6_method_2_code 19 = .ok (.aload_n 0, 1) := by decide +kernel
theorem d_Ou_worthThrough_20 : decode prog_6_method_2_code 20 = .ok (.getfield 15, 3) := by decide +kernel
theorem d_Ou_worthThrough_23 : decode prog_6_method_2_code 23 = .ok (.goto 12, 3) := by decide +kernel
theorem d_Ou_worthThrough_26 : decode prog_6_method_2_code 26 = .ok (.aload_n 0, 1) := by decide +kernel
theorem d_Ou_worthThrough_27 : decode prog_6_method_2_code 27 = .ok (.getfield 15, 3) := by decide +kernel
theorem d_Ou_worthThrough_30 : decode prog_6_method_2_code 30 = .ok (.aload_n 0, 1) := by decide +kernel
theorem d_Ou_worthThrough_31 : decode prog_6_method_2_code 31 = .ok (.getfield 18, 3) := by decide +kernel
theorem d_Ou_worthThrough_34 : decode prog_6_method_2_code 34 = .ok (.isub, 1) := by decide +kernel
theorem d_Ou_worthThrough_35 : decode prog_6_method_2_code 35 = .ok (.ireturn, 1) := by decide +kernel
theorem d_Ou_worthThrough_36 : decode prog_6_method_2_code 36 = .ok (.iload_n 1, 1) := by decide +kernel
theorem d_Ou_worthThrough_37 : decode prog_6_method_2_code 37 = .ok (.iconst 2, 1) := by decide +kernel
theorem d_Ou_worthThrough_38 : decode prog_6_method_2_code 38 = .ok (.if_icmp .ne 10, 3) := by decide +kernel
theorem d_Ou_worthThrough_41 : decode prog_6_method_2_code 41 = .ok (.aload_n 0, 1) := by decide +kernel
theorem d_Ou_worthThrough_42 : decode prog_6_method_2_code 42 = .ok (.getfield 21, 3) := by decide +kernel
theorem d_Ou_worthThrough_45 : decode prog_6_method_2_code 45 = .ok (.goto 12, 3) := by decide +kernel
theorem d_Ou_worthThrough_48 : decode prog_6_method_2_code 48 = .ok (.aload_n 0, 1) := by decide +kernel
theorem d_Ou_worthThrough_49 : decode prog_6_method_2_code 49 = .ok (.getfield 21, 3) := by decide +kernel
theorem d_Ou_worthThrough_52 : decode prog_6_method_2_code 52 = .ok (.aload_n 0, 1) := by decide +kernel
theorem d_Ou_worthThrough_53 : decode prog_6_method_2_code 53 = .ok (.getfield 24, 3) := by decide +kernel
theorem d_Ou_worthThrough_56 : decode prog_6_method_2_code 56 = .ok (.isub, 1) := by decide +kernel
theorem d_Ou_worthThrough_57 : decode prog_6_method_2_code 57 = .ok (.ireturn, 1) := by decide +kernel
theorem d_Ra_lettersOfA_0 : decode prog_1_method_30_code 0 = .ok (.iload_n 0, 1) := by decide +kernel
theorem d_Ra_lettersOfA_1 : decode prog_1_method_30_code 1 = .ok (.iconst 2, 1) := by decide +kernel
theorem d_Ra_lettersOfA_2 : decode prog_1_method_30_code 2 = .ok (.if_icmp .ne 7, 3) := by decide +kernel
theorem d_Ra_lettersOfA_5 : decode prog_1_method_30_code 5 = .ok (.iconst 0, 1) := by decide +kernel
theorem d_Ra_lettersOfA_6 : decode prog_1_method_30_code 6 = .ok (.goto 4, 3) := by decide +kernel
theorem d_Ra_lettersOfA_9 : decode prog_1_method_30_code 9 = .ok (.iconst 1, 1) := by decide +kernel
theorem d_Ra_lettersOfA_10 : decode prog_1_method_30_code 10 = .ok (.ireturn, 1) := by decide +kernel
theorem d_Ra_lettersOfB_0 : decode prog_1_method_31_code 0 = .ok (.iload_n 0, 1) := by decide +kernel
theorem d_Ra_lettersOfB_1 : decode prog_1_method_31_code 1 = .ok (.iconst 1, 1) := by decide +kernel
theorem d_Ra_lettersOfB_2 : decode prog_1_method_31_code 2 = .ok (.if_icmp .ne 7, 3) := by decide +kernel
theorem d_Ra_lettersOfB_5 : decode prog_1_method_31_code 5 = .ok (.iconst 0, 1) := by decide +kernel
theorem d_Ra_lettersOfB_6 : decode prog_1_method_31_code 6 = .ok (.goto 4, 3) := by decide +kernel
theorem d_Ra_lettersOfB_9 : decode prog_1_method_31_code 9 = .ok (.iconst 1, 1) := by decide +kernel
theorem d_Ra_lettersOfB_10 : decode prog_1_method_31_code 10 = .ok (.ireturn, 1) := by decide +kernel
theorem d_Ra_wipe_0 : decode prog_1_method_20_code 0 = .ok (.aload_n 0, 1) := by decide +kernel
theorem d_Ra_wipe_1 : decode prog_1_method_20_code 1 = .ok (.getfield 49, 3) := by decide +kernel
theorem d_Ra_wipe_4 : decode prog_1_method_20_code 4 = .ok (.getfield 201, 3) := by decide +kernel
theorem d_Ra_wipe_7 : decode prog_1_method_20_code 7 = .ok (.istore_n 1, 1) := by decide +kernel
theorem d_Ra_wipe_8 : decode prog_1_method_20_code 8 = .ok (.aload_n 0, 1) := by decide +kernel
theorem d_Ra_wipe_9 : decode prog_1_method_20_code 9 = .ok (.getfield 49, 3) := by decide +kernel
theorem d_Ra_wipe_12 : decode prog_1_method_20_code 12 = .ok (.iconst 0, 1) := by decide +kernel
theorem d_Ra_wipe_13 : decode prog_1_method_20_code 13 = .ok (.putfield 201, 3) := by decide +kernel
theorem d_Ra_wipe_16 : decode prog_1_method_20_code 16 = .ok (.iload_n 1, 1) := by decide +kernel
theorem d_Ra_wipe_17 : decode prog_1_method_20_code 17 = .ok (.ireturn, 1) := by decide +kernel
theorem d_Ra_type_0 : decode prog_1_method_2_code 0 = .ok (.aload_n 0, 1) := by decide +kernel
theorem d_Ra_type_1 : decode prog_1_method_2_code 1 = .ok (.iload_n 1, 1) := by decide +kernel
theorem d_Ra_type_2 : decode prog_1_method_2_code 2 = .ok (.invokevirtual 53, 3) := by decide +kernel
theorem d_Ra_type_5 : decode prog_1_method_2_code 5 = .ok (.astore 5, 2) := by decide +kernel
theorem d_Ra_type_7 : decode prog_1_method_2_code 7 = .ok (.iload 4, 2) := by decide +kernel
theorem d_Ra_type_9 : decode prog_1_method_2_code 9 = .ok (.iconst 1, 1) := by decide +kernel
theorem d_Ra_type_10 : decode prog_1_method_2_code 10 = .ok (.if_icmp .lt 19, 3) := by decide +kernel
theorem d_Ra_type_13 : decode prog_1_method_2_code 13 = .ok (.iload 4, 2) := by decide +kernel
theorem d_Ra_type_15 : decode prog_1_method_2_code 15 = .ok (.bipush 8, 2) := by decide +kernel
theorem d_Ra_type_17 : decode prog_1_method_2_code 17 = .ok (.if_icmp .gt 12, 3) := by decide +kernel
theorem d_Ra_type_20 : decode prog_1_method_2_code 20 = .ok (.lload_n 2, 1) := by decide +kernel
theorem d_Ra_type_21 : decode prog_1_method_2_code 21 = .ok (.iload 4, 2) := by decide +kernel
theorem d_Ra_type_23 : decode prog_1_method_2_code 23 = .ok (.invokestatic 57, 3) := by decide +kernel
theorem d_Ra_type_26 : decode prog_1_method_2_code 26 = .ok (.ifCond .ne 11, 3) := by decide +kernel
theorem d_Ra_type_29 : decode prog_1_method_2_code 29 = .ok (.new 61, 3) := by decide +kernel
theorem d_Ra_type_32 : decode prog_1_method_2_code 32 = .ok (.dup, 1) := by decide +kernel
theorem d_Ra_type_33 : decode prog_1_method_2_code 33 = .ok (.invokespecial 63, 3) := by decide +kernel
theorem d_Ra_type_36 : decode prog_1_method_2_code 36 = .ok (.athrow, 1) := by decide +kernel
theorem d_Ra_type_37 : decode prog_1_method_2_code 37 = .ok (.aload 5, 2) := by decide +kernel
theorem d_Ra_type_39 : decode prog_1_method_2_code 39 = .ok (.getfield 64, 3) := by decide +kernel
theorem d_Ra_type_42 : decode prog_1_method_2_code 42 = .ok (.iload 4, 2) := by decide +kernel
theorem d_Ra_type_44 : decode prog_1_method_2_code 44 = .ok (.iadd, 1) := by decide +kernel
theorem d_Ra_type_45 : decode prog_1_method_2_code 45 = .ok (.bipush 96, 2) := by decide +kernel
theorem d_Ra_type_47 : decode prog_1_method_2_code 47 = .ok (.if_icmp .le 11, 3) := by decide +kernel
theorem d_Ra_type_50 : decode prog_1_method_2_code 50 = .ok (.new 70, 3) := by decide +kernel
theorem d_Ra_type_53 : decode prog_1_method_2_code 53 = .ok (.dup, 1) := by decide +kernel
theorem d_Ra_type_54 : decode prog_1_method_2_code 54 = .ok (.invokespecial 72, 3) := by decide +kernel
theorem d_Ra_type_57 : decode prog_1_method_2_code 57 = .ok (.athrow, 1) := by decide +kernel
theorem d_Ra_type_58 : decode prog_1_method_2_code 58 = .ok (.iconst 0, 1) := by decide +kernel
theorem d_Ra_type_59 : decode prog_1_method_2_code 59 = .ok (.istore 6, 2) := by decide +kernel
theorem d_Ra_type_61 : decode prog_1_method_2_code 61 = .ok (.iload 6, 2) := by decide +kernel
theorem d_Ra_type_63 : decode prog_1_method_2_code 63 = .ok (.iload 4, 2) := by decide +kernel
theorem d_Ra_type_65 : decode prog_1_method_2_code 65 = .ok (.if_icmp .ge 23, 3) := by decide +kernel
theorem d_Ra_type_68 : decode prog_1_method_2_code 68 = .ok (.aload 5, 2) := by decide +kernel
theorem d_Ra_type_70 : decode prog_1_method_2_code 70 = .ok (.lload_n 2, 1) := by decide +kernel
theorem d_Ra_type_71 : decode prog_1_method_2_code 71 = .ok (.iload 6, 2) := by decide +kernel
theorem d_Ra_type_73 : decode prog_1_method_2_code 73 = .ok (.invokestatic 73, 3) := by decide +kernel
theorem d_Ra_type_76 : decode prog_1_method_2_code 76 = .ok (.bipush 97, 2) := by decide +kernel
theorem d_Ra_type_78 : decode prog_1_method_2_code 78 = .ok (.isub, 1) := by decide +kernel
theorem d_Ra_type_79 : decode prog_1_method_2_code 79 = .ok (.invokevirtual 77, 3) := by decide +kernel
theorem d_Ra_type_82 : decode prog_1_method_2_code 82 = .ok (.iinc 6 1, 3) := by decide +kernel
theorem d_Ra_type_85 : decode prog_1_method_2_code 85 = .ok (.goto (-24), 3) := by decide +kernel
theorem d_Ra_type_88 : decode prog_1_method_2_code 88 = .ok (.aload_n 0, 1) := by decide +kernel
theorem d_Ra_type_89 : decode prog_1_method_2_code 89 = .ok (.iconst 0, 1) := by decide +kernel
theorem d_Ra_type_90 : decode prog_1_method_2_code 90 = .ok (.putfield 81, 3) := by decide +kernel
theorem d_Ra_type_93 : decode prog_1_method_2_code 93 = .ok (.aload 5, 2) := by decide +kernel
theorem d_Ra_type_95 : decode prog_1_method_2_code 95 = .ok (.getfield 64, 3) := by decide +kernel
theorem d_Ra_type_98 : decode prog_1_method_2_code 98 = .ok (.ireturn, 1) := by decide +kernel
theorem d_Ra_existingRow_0 : decode prog_1_method_23_code 0 = .ok (.iload_n 1, 1) := by decide +kernel
theorem d_Ra_existingRow_1 : decode prog_1_method_23_code 1 = .ok (.invokestatic 138, 3) := by decide +kernel
theorem d_Ra_existingRow_4 : decode prog_1_method_23_code 4 = .ok (.iload_n 1, 1) := by decide +kernel
theorem d_Ra_existingRow_5 : decode prog_1_method_23_code 5 = .ok (.ifCond .ne 13, 3) := by decide +kernel
theorem d_Ra_existingRow_8 : decode prog_1_method_23_code 8 = .ok (.aload_n 0, 1) := by decide +kernel
theorem d_Ra_existingRow_9 : decode prog_1_method_23_code 9 = .ok (.getfield 12, 3) := by decide +kernel
theorem d_Ra_existingRow_12 : decode prog_1_method_23_code 12 = .ok (.getfield 184, 3) := by decide +kernel
theorem d_Ra_existingRow_15 : decode prog_1_method_23_code 15 = .ok (.goto 10, 3) := by decide +kernel
theorem d_Ra_existingRow_18 : decode prog_1_method_23_code 18 = .ok (.aload_n 0, 1) := by decide +kernel
theorem d_Ra_existingRow_19 : decode prog_1_method_23_code 19 = .ok (.getfield 12, 3) := by decide +kernel
theorem d_Ra_existingRow_22 : decode prog_1_method_23_code 22 = .ok (.getfield 218, 3) := by decide +kernel
theorem d_Ra_existingRow_25 : decode prog_1_method_23_code 25 = .ok (.areturn, 1) := by decide +kernel
theorem d_Ra_refuseOtherRows_0 : decode prog_1_method_24_code 0 = .ok (.iload_n 0, 1) := by decide +kernel
theorem d_Ra_refuseOtherRows_1 : decode prog_1_method_24_code 1 = .ok (.ifCond .eq 16, 3) := by decide +kernel
theorem d_Ra_refuseOtherRows_4 : decode prog_1_method_24_code 4 = .ok (.iload_n 0, 1) := by decide +kernel
theorem d_Ra_refuseOtherRows_5 : decode prog_1_method_24_code 5 = .ok (.iconst 1, 1) := by decide +kernel
theorem d_Ra_refuseOtherRows_6 : decode prog_1_method_24_code 6 = .ok (.if_icmp .eq 11, 3) := by decide +kernel
theorem d_Ra_refuseOtherRows_9 : decode prog_1_method_24_code 9 = .ok (.new 88, 3) := by decide +kernel
theorem d_Ra_refuseOtherRows_12 : decode prog_1_method_24_code 12 = .ok (.dup, 1) := by decide +kernel
theorem d_Ra_refuseOtherRows_13 : decode prog_1_method_24_code 13 = .ok (.invokespecial 90, 3) := by decide +kernel
theorem d_Ra_refuseOtherRows_16 : decode prog_1_method_24_code 16 = .ok (.athrow, 1) := by decide +kernel
theorem d_Ra_refuseOtherRows_17 : decode prog_1_method_24_code 17 = .ok (.return_, 1) := by decide +kernel
theorem d_Ra_areCharacters_0 : decode prog_1_method_29_code 0 = .ok (.iconst 0, 1) := by decide +kernel
theorem d_Ra_areCharacters_1 : decode prog_1_method_29_code 1 = .ok (.istore_n 3, 1) := by decide +kernel
theorem d_Ra_areCharacters_2 : decode prog_1_method_29_code 2 = .ok (.iload_n 3, 1) := by decide +kernel
theorem d_Ra_areCharacters_3 : decode prog_1_method_29_code 3 = .ok (.iload_n 2, 1) := by decide +kernel
theorem d_Ra_areCharacters_4 : decode prog_1_method_29_code 4 = .ok (.if_icmp .ge 33, 3) := by decide +kernel
theorem d_Ra_areCharacters_7 : decode prog_1_method_29_code 7 = .ok (.lload_n 0, 1) := by decide +kernel
theorem d_Ra_areCharacters_8 : decode prog_1_method_29_code 8 = .ok (.iload_n 3, 1) := by decide +kernel
theorem d_Ra_areCharacters_9 : decode prog_1_method_29_code 9 = .ok (.invokestatic 73, 3) := by decide +kernel
theorem d_Ra_areCharacters_12 : decode prog_1_method_29_code 12 = .ok (.bipush 97, 2) := by decide +kernel
theorem d_Ra_areCharacters_14 : decode prog_1_method_29_code 14 = .ok (.isub, 1) := by decide +kernel
theorem d_Ra_areCharacters_15 : decode prog_1_method_29_code 15 = .ok (.istore 4, 2) := by decide +kernel
theorem d_Ra_areCharacters_17 : decode prog_1_method_29_code 17 = .ok (.iload 4, 2) := by decide +kernel
theorem d_Ra_areCharacters_19 : decode prog_1_method_29_code 19 = .ok (.ifCond .lt 10, 3) := by decide +kernel
theorem d_Ra_areCharacters_22 : decode prog_1_method_29_code 22 = .ok (.iload 4, 2) := by decide +kernel
theorem d_Ra_areCharacters_24 : decode prog_1_method_29_code 24 = .ok (.bipush 26, 2) := by decide +kernel
theorem d_Ra_areCharacters_26 : decode prog_1_method_29_code 26 = .ok (.if_icmp .lt 5, 3) := by decide +kernel
theorem d_Ra_areCharacters_29 : decode prog_1_method_29_code 29 = .ok (.iconst 0, 1) := by decide +kernel
theorem d_Ra_areCharacters_30 : decode prog_1_method_29_code 30 = .ok (.ireturn, 1) := by decide +kernel
theorem d_Ra_areCharacters_31 : decode prog_1_method_29_code 31 = .ok (.iinc 3 1, 3) := by decide +kernel
theorem d_Ra_areCharacters_34 : decode prog_1_method_29_code 34 = .ok (.goto (-32), 3) := by decide +kernel
theorem d_Ra_areCharacters_37 : decode prog_1_method_29_code 37 = .ok (.iconst 1, 1) := by decide +kernel
theorem d_Ra_areCharacters_38 : decode prog_1_method_29_code 38 = .ok (.ireturn, 1) := by decide +kernel
theorem d_Ra_characterAt_0 : decode prog_1_method_28_code 0 = .ok (.lload_n 0, 1) := by decide +kernel
theorem d_Ra_characterAt_1 : decode prog_1_method_28_code 1 = .ok (.bipush 8, 2) := by decide +kernel
theorem d_Ra_characterAt_3 : decode prog_1_method_28_code 3 = .ok (.iload_n 2, 1) := by decide +kernel
theorem d_Ra_characterAt_4 : decode prog_1_method_28_code 4 = .ok (.imul, 1) := by decide +kernel
theorem d_Ra_characterAt_5 : decode prog_1_method_28_code 5 = .ok (.lushr, 1) := by decide +kernel
theorem d_Ra_characterAt_6 : decode prog_1_method_28_code 6 = .ok (.l2i, 1) := by decide +kernel
theorem d_Ra_characterAt_7 : decode prog_1_method_28_code 7 = .ok (.sipush 255, 3) := by decide +kernel
theorem d_Ra_characterAt_10 : decode prog_1_method_28_code 10 = .ok (.iand, 1) := by decide +kernel
theorem d_Ra_characterAt_11 : decode prog_1_method_28_code 11 = .ok (.ireturn, 1) := by decide +kernel
theorem d_Ro_append_0 : decode prog_8_method_2_code 0 = .ok (.aload_n 0, 1) := by decide +kernel
theorem d_Ro_append_1 : decode prog_8_method_2_code 1 = .ok (.getfield 9, 3) := by decide +kernel
theorem d_Ro_append_4 : decode prog_8_method_2_code 4 = .ok (.aload_n 0, 1) := by decide +kernel
theorem d_Ro_append_5 : decode prog_8_method_2_code 5 = .ok (.getfield 15, 3) := by decide +kernel
theorem d_Ro_append_8 : decode prog_8_method_2_code 8 = .ok (.iload_n 1, 1) := by decide +kernel
theorem d_Ro_append_9 : decode prog_8_method_2_code 9 = .ok (.iastore, 1) := by decide +kernel
theorem d_Ro_append_10 : decode prog_8_method_2_code 10 = .ok (.aload_n 0, 1) := by decide +kernel
theorem d_Ro_append_11 : decode prog_8_method_2_code 11 = .ok (.dup, 1) := by decide +kernel
theorem d_Ro_append_12 : decode prog_8_method_2_code 12 = .ok (.getfield 15, 3) := by decide +kernel
theorem d_Ro_append_15 : decode prog_8_method_2_code 15 = .ok (.iconst 1, 1) := by decide +kernel
theorem d_Ro_append_16 : decode prog_8_method_2_code 16 = .ok (.iadd, 1) := by decide +kernel
theorem d_Ro_append_17 : decode prog_8_method_2_code 17 = .ok (.putfield 15, 3) := by decide +kernel
theorem d_Ro_append_20 : decode prog_8_method_2_code 20 = .ok (.return_, 1) := by decide +kernel
theorem d_Ra_cut_0 : decode prog_1_method_3_code 0 = .ok (.aload_n 0, 1) := by decide +kernel
theorem d_Ra_cut_1 : decode prog_1_method_3_code 1 = .ok (.iload_n 1, 1) := by decide +kernel
theorem d_Ra_cut_2 : decode prog_1_method_3_code 2 = .ok (.invokevirtual 53, 3) := by decide +kernel
theorem d_Ra_cut_5 : decode prog_1_method_3_code 5 = .ok (.astore_n 3, 1) := by decide +kernel
theorem d_Ra_cut_6 : decode prog_1_method_3_code 6 = .ok (.iload_n 2, 1) := by decide +kernel
theorem d_Ra_cut_7 : decode prog_1_method_3_code 7 = .ok (.ifCond .lt 11, 3) := by decide +kernel
theorem d_Ra_cut_10 : decode prog_1_method_3_code 10 = .ok (.iload_n 2, 1) := by decide +kernel
theorem d_Ra_cut_11 : decode prog_1_method_3_code 11 = .ok (.aload_n 3, 1) := by decide +kernel
theorem d_Ra_cut_12 : decode prog_1_method_3_code 12 = .ok (.getfield 64, 3) := by decide +kernel
theorem d_Ra_cut_15 : decode prog_1_method_3_code 15 = .ok (.if_icmp .le 11, 3) := by decide +kernel
theorem d_Ra_cut_18 : decode prog_1_method_3_code 18 = .ok (.new 61, 3) := by decide +kernel
theorem d_Ra_cut_21 : decode prog_1_method_3_code 21 = .ok (.dup, 1) := by decide +kernel
theorem d_Ra_cut_22 : decode prog_1_method_3_code 22 = .ok (.invokespecial 63, 3) := by decide +kernel
theorem d_Ra_cut_25 : decode prog_1_method_3_code 25 = .ok (.athrow, 1) := by decide +kernel
theorem d_Ra_cut_26 : decode prog_1_method_3_code 26 = .ok (.aload_n 3, 1) := by decide +kernel
theorem d_Ra_cut_27 : decode prog_1_method_3_code 27 = .ok (.iload_n 2, 1) := by decide +kernel
theorem d_Ra_cut_28 : decode prog_1_method_3_code 28 = .ok (.putfield 64, 3) := by decide +kernel
theorem d_Ra_cut_31 : decode prog_1_method_3_code 31 = .ok (.aload_n 0, 1) := by decide +kernel
theorem d_Ra_cut_32 : decode prog_1_method_3_code 32 = .ok (.iconst 0, 1) := by decide +kernel
theorem d_Ra_cut_33 : decode prog_1_method_3_code 33 = .ok (.putfield 81, 3) := by decide +kernel
theorem d_Ra_cut_36 : decode prog_1_method_3_code 36 = .ok (.return_, 1) := by decide +kernel
theorem d_Ra_turn_0 : decode prog_1_method_4_code 0 = .ok (.aload_n 0, 1) := by decide +kernel
theorem d_Ra_turn_1 : decode prog_1_method_4_code 1 = .ok (.iload_n 1, 1) := by decide +kernel
theorem d_Ra_turn_2 : decode prog_1_method_4_code 2 = .ok (.invokevirtual 53, 3) := by decide +kernel
theorem d_Ra_turn_5 : decode prog_1_method_4_code 5 = .ok (.invokevirtual 85, 3) := by decide +kernel
theorem d_Ra_turn_8 : decode prog_1_method_4_code 8 = .ok (.aload_n 0, 1) := by decide +kernel
theorem d_Ra_turn_9 : decode prog_1_method_4_code 9 = .ok (.iconst 0, 1) := by decide +kernel
theorem d_Ra_turn_10 : decode prog_1_method_4_code 10 = .ok (.putfield 81, 3) := by decide +kernel
theorem d_Ra_turn_13 : decode prog_1_method_4_code 13 = .ok (.return_, 1) := by decide +kernel
theorem d_Ro_reverse_0 : decode prog_8_method_3_code 0 = .ok (.iconst 0, 1) := by decide +kernel
theorem d_Ro_reverse_1 : decode prog_8_method_3_code 1 = .ok (.istore_n 1, 1) := by decide +kernel
theorem d_Ro_reverse_2 : decode prog_8_method_3_code 2 = .ok (.iload_n 1, 1) := by decide +kernel
theorem d_Ro_reverse_3 : decode prog_8_method_3_code 3 = .ok (.aload_n 0, 1) := by decide +kernel
theorem d_Ro_reverse_4 : decode prog_8_method_3_code 4 = .ok (.getfield 15, 3) := by decide +kernel
theorem d_Ro_reverse_7 : decode prog_8_method_3_code 7 = .ok (.iconst 2, 1) := by decide +kernel
theorem d_Ro_reverse_8 : decode prog_8_method_3_code 8 = .ok (.idiv, 1) := by decide +kernel
theorem d_Ro_reverse_9 : decode prog_8_method_3_code 9 = .ok (.if_icmp .ge 44, 3) := by decide +kernel
theorem d_Ro_reverse_12 : decode prog_8_method_3_code 12 = .ok (.aload_n 0, 1) := by decide +kernel
theorem d_Ro_reverse_13 : decode prog_8_method_3_code 13 = .ok (.getfield 15, 3) := by decide +kernel
theorem d_Ro_reverse_16 : decode prog_8_method_3_code 16 = .ok (.iconst 1, 1) := by decide +kernel
theorem d_Ro_reverse_17 : decode prog_8_method_3_code 17 = .ok (.isub, 1) := by decide +kernel
theorem d_Ro_reverse_18 : decode prog_8_method_3_code 18 = .ok (.iload_n 1, 1) := by decide +kernel
theorem d_Ro_reverse_19 : decode prog_8_method_3_code 19 = .ok (.isub, 1) := by decide +kernel
theorem d_Ro_reverse_20 : decode prog_8_method_3_code 20 = .ok (.istore_n 2, 1) := by decide +kernel
theorem d_Ro_reverse_21 : decode prog_8_method_3_code 21 = .ok (.aload_n 0, 1) := by decide +kernel
theorem d_Ro_reverse_22 : decode prog_8_method_3_code 22 = .ok (.getfield 9, 3) := by decide +kernel
theorem d_Ro_reverse_25 : decode prog_8_method_3_code 25 = .ok (.iload_n 1, 1) := by decide +kernel
theorem d_Ro_reverse_26 : decode prog_8_method_3_code 26 = .ok (.iaload, 1) := by decide +kernel
theorem d_Ro_reverse_27 : decode prog_8_method_3_code 27 = .ok (.istore_n 3, 1) := by decide +kernel
theorem d_Ro_reverse_28 : decode prog_8_method_3_code 28 = .ok (.aload_n 0, 1) := by decide +kernel
theorem d_Ro_reverse_29 : decode prog_8_method_3_code 29 = .ok (.getfield 9, 3) := by decide +kernel
theorem d_Ro_reverse_32 : decode prog_8_method_3_code 32 = .ok (.iload_n 1, 1) := by decide +kernel
theorem d_Ro_reverse_33 : decode prog_8_method_3_code 33 = .ok (.aload_n 0, 1) := by decide +kernel
theorem d_Ro_reverse_34 : decode prog_8_method_3_code 34 = .ok (.getfield 9, 3) := by decide +kernel
theorem d_Ro_reverse_37 : decode prog_8_method_3_code 37 = .ok (.iload_n 2, 1) := by decide +kernel
theorem d_Ro_reverse_38 : decode prog_8_method_3_code 38 = .ok (.iaload, 1) := by decide +kernel
theorem d_Ro_reverse_39 : decode prog_8_method_3_code 39 = .ok (.iastore, 1) := by decide +kernel
theorem d_Ro_reverse_40 : decode prog_8_method_3_code 40 = .ok (.aload_n 0, 1) := by decide +kernel
theorem d_Ro_reverse_41 : decode prog_8_method_3_code 41 = .ok (.getfield 9, 3) := by decide +kernel
theorem d_Ro_reverse_44 : decode prog_8_method_3_code 44 = .ok (.iload_n 2, 1) := by decide +kernel
theorem d_Ro_reverse_45 : decode prog_8_method_3_code 45 = .ok (.iload_n 3, 1) := by decide +kernel
theorem d_Ro_reverse_46 : decode prog_8_method_3_code 46 = .ok (.iastore, 1) := by decide +kernel
theorem d_Ro_reverse_47 : decode prog_8_method_3_code 47 = .ok (.iinc 1 1, 3) := by decide +kernel
theorem d_Ro_reverse_50 : decode prog_8_method_3_code 50 = .ok (.goto (-48), 3) := by decide +kernel
theorem d_Ro_reverse_53 : decode prog_8_method_3_code 53 = .ok (.return_, 1) := by decide +kernel
theorem d_Ra_letter_0 : decode prog_1_method_5_code 0 = .ok (.aload_n 0, 1) := by decide +kernel
theorem d_Ra_letter_1 : decode prog_1_method_5_code 1 = .ok (.iload_n 1, 1) := by decide +kernel
theorem d_Ra_letter_2 : decode prog_1_method_5_code 2 = .ok (.invokevirtual 53, 3) := by decide +kernel
theorem d_Ra_letter_5 : decode prog_1_method_5_code 5 = .ok (.astore_n 3, 1) := by decide +kernel
theorem d_Ra_letter_6 : decode prog_1_method_5_code 6 = .ok (.iload_n 2, 1) := by decide +kernel
theorem d_Ra_letter_7 : decode prog_1_method_5_code 7 = .ok (.ifCond .lt 11, 3) := by decide +kernel
theorem d_Ra_letter_10 : decode prog_1_method_5_code 10 = .ok (.iload_n 2, 1) := by decide +kernel
theorem d_Ra_letter_11 : decode prog_1_method_5_code 11 = .ok (.aload_n 3, 1) := by decide +kernel
theorem d_Ra_letter_12 : decode prog_1_method_5_code 12 = .ok (.getfield 64, 3) := by decide +kernel
theorem d_Ra_letter_15 : decode prog_1_method_5_code 15 = .ok (.if_icmp .lt 11, 3) := by decide +kernel
theorem d_Ra_letter_18 : decode prog_1_method_5_code 18 = .ok (.new 88, 3) := by decide +kernel
theorem d_Ra_letter_21 : decode prog_1_method_5_code 21 = .ok (.dup, 1) := by decide +kernel
theorem d_Ra_letter_22 : decode prog_1_method_5_code 22 = .ok (.invokespecial 90, 3) := by decide +kernel
theorem d_Ra_letter_25 : decode prog_1_method_5_code 25 = .ok (.athrow, 1) := by decide +kernel
theorem d_Ra_letter_26 : decode prog_1_method_5_code 26 = .ok (.aload_n 3, 1) := by decide +kernel
theorem d_Ra_letter_27 : decode prog_1_method_5_code 27 = .ok (.getfield 91, 3) := by decide +kernel
theorem d_Ra_letter_30 : decode prog_1_method_5_code 30 = .ok (.iload_n 2, 1) := by decide +kernel
theorem d_Ra_letter_31 : decode prog_1_method_5_code 31 = .ok (.iaload, 1) := by decide +kernel
theorem d_Ra_letter_32 : decode prog_1_method_5_code 32 = .ok (.ireturn, 1) := by decide +kernel
theorem d_Ra_size_0 : decode prog_1_method_6_code 0 = .ok (.aload_n 0, 1) := by decide +kernel
theorem d_Ra_size_1 : decode prog_1_method_6_code 1 = .ok (.iload_n 1, 1) := by decide +kernel
theorem d_Ra_size_2 : decode prog_1_method_6_code 2 = .ok (.invokevirtual 53, 3) := by decide +kernel
theorem d_Ra_size_5 : decode prog_1_method_6_code 5 = .ok (.getfield 64, 3) := by decide +kernel
theorem d_Ra_size_8 : decode prog_1_method_6_code 8 = .ok (.ireturn, 1) := by decide +kernel
theorem d_Ra_score_0 : decode prog_1_method_7_code 0 = .ok (.iload_n 1, 1) := by decide +kernel
theorem d_Ra_score_1 : decode prog_1_method_7_code 1 = .ok (.ifCond .lt 19, 3) := by decide +kernel
theorem d_Ra_score_4 : decode prog_1_method_7_code 4 = .ok (.iload_n 1, 1) := by decide +kernel
theorem d_Ra_score_5 : decode prog_1_method_7_code 5 = .ok (.bipush 26, 2) := by decide +kernel
theorem d_Ra_score_7 : decode prog_1_method_7_code 7 = .ok (.if_icmp .ge 13, 3) := by decide +kernel
theorem d_Ra_score_10 : decode prog_1_method_7_code 10 = .ok (.iload_n 2, 1) := by decide +kernel
theorem d_Ra_score_11 : decode prog_1_method_7_code 11 = .ok (.ifCond .lt 9, 3) := by decide +kernel
theorem d_Ra_score_14 : decode prog_1_method_7_code 14 = .ok (.iload_n 2, 1) := by decide +kernel
theorem d_Ra_score_15 : decode prog_1_method_7_code 15 = .ok (.bipush 26, 2) := by decide +kernel
theorem d_Ra_score_17 : decode prog_1_method_7_code 17 = .ok (.if_icmp .lt 11, 3) := by decide +kernel
theorem d_Ra_score_20 : decode prog_1_method_7_code 20 = .ok (.new 88, 3) := by decide +kernel
theorem d_Ra_score_23 : decode prog_1_method_7_code 23 = .ok (.dup, 1) := by decide +kernel
theorem d_Ra_score_24 : decode prog_1_method_7_code 24 = .ok (.invokespecial 90, 3) := by decide +kernel
theorem d_Ra_score_27 : decode prog_1_method_7_code 27 = .ok (.athrow, 1) := by decide +kernel
theorem d_Ra_score_28 : decode prog_1_method_7_code 28 = .ok (.sipush (-512), 3) := by decide +kernel
theorem d_Ra_score_31 : decode prog_1_method_7_code 31 = .ok (.iload_n 3, 1) := by decide +kernel
theorem d_Ra_score_32 : decode prog_1_method_7_code 32 = .ok (.invokestatic 95, 3) := by decide +kernel
theorem d_Ra_score_35 : decode prog_1_method_7_code 35 = .ok (.aload_n 0, 1) := by decide +kernel
theorem d_Ra_score_36 : decode prog_1_method_7_code 36 = .ok (.getfield 12, 3) := by decide +kernel
theorem d_Ra_score_39 : decode prog_1_method_7_code 39 = .ok (.getfield 99, 3) := by decide +kernel
theorem d_Ra_score_42 : decode prog_1_method_7_code 42 = .ok (.iload_n 1, 1) := by decide +kernel
theorem d_Ra_score_43 : decode prog_1_method_7_code 43 = .ok (.iload_n 2, 1) := by decide +kernel
theorem d_Ra_score_44 : decode prog_1_method_7_code 44 = .ok (.iload_n 3, 1) := by decide +kernel
theorem d_Ra_score_45 : decode prog_1_method_7_code 45 = .ok (.invokevirtual 103, 3) := by decide +kernel
theorem d_Ra_score_48 : decode prog_1_method_7_code 48 = .ok (.aload_n 0, 1) := by decide +kernel
theorem d_Ra_score_49 : decode prog_1_method_7_code 49 = .ok (.iconst 0, 1) := by decide +kernel
theorem d_Ra_score_50 : decode prog_1_method_7_code 50 = .ok (.putfield 81, 3) := by decide +kernel
theorem d_Ra_score_53 : decode prog_1_method_7_code 53 = .ok (.return_, 1) := by decide +kernel
theorem d_Ra_refusePriceBelow_0 : decode prog_1_method_25_code 0 = .ok (.iload_n 1, 1) := by decide +kernel
theorem d_Ra_refusePriceBelow_1 : decode prog_1_method_25_code 1 = .ok (.iload_n 0, 1) := by decide +kernel
theorem d_Ra_refusePriceBelow_2 : decode prog_1_method_25_code 2 = .ok (.if_icmp .lt 10, 3) := by decide +kernel
theorem d_Ra_refusePriceBelow_5 : decode prog_1_method_25_code 5 = .ok (.iload_n 1, 1) := by decide +kernel
theorem d_Ra_refusePriceBelow_6 : decode prog_1_method_25_code 6 = .ok (.sipush 512, 3) := by decide +kernel
theorem d_Ra_refusePriceBelow_9 : decode prog_1_method_25_code 9 = .ok (.if_icmp .le 11, 3) := by decide +kernel
theorem d_Ra_refusePriceBelow_12 : decode prog_1_method_25_code 12 = .ok (.new 61, 3) := by decide +kernel
theorem d_Ra_refusePriceBelow_15 : decode prog_1_method_25_code 15 = .ok (.dup, 1) := by decide +kernel
theorem d_Ra_refusePriceBelow_16 : decode prog_1_method_25_code 16 = .ok (.invokespecial 63, 3) := by decide +kernel
theorem d_Ra_refusePriceBelow_19 : decode prog_1_method_25_code 19 = .ok (.athrow, 1) := by decide +kernel
theorem d_Ra_refusePriceBelow_20 : decode prog_1_method_25_code 20 = .ok (.return_, 1) := by decide +kernel
theorem d_Ra_scores_0 : decode prog_1_method_8_code 0 = .ok (.sipush (-512), 3) := by decide +kernel
theorem d_Ra_scores_3 : decode prog_1_method_8_code 3 = .ok (.iload_n 1, 1) := by decide +kernel
theorem d_Ra_scores_4 : decode prog_1_method_8_code 4 = .ok (.invokestatic 95, 3) := by decide +kernel
theorem d_Ra_scores_7 : decode prog_1_method_8_code 7 = .ok (.sipush (-512), 3) := by decide +kernel
theorem d_Ra_scores_10 : decode prog_1_method_8_code 10 = .ok (.iload_n 2, 1) := by decide +kernel
theorem d_Ra_scores_11 : decode prog_1_method_8_code 11 = .ok (.invokestatic 95, 3) := by decide +kernel
theorem d_Ra_scores_14 : decode prog_1_method_8_code 14 = .ok (.aload_n 0, 1) := by decide +kernel
theorem d_Ra_scores_15 : decode prog_1_method_8_code 15 = .ok (.getfield 12, 3) := by decide +kernel
theorem d_Ra_scores_18 : decode prog_1_method_8_code 18 = .ok (.getfield 99, 3) := by decide +kernel
theorem d_Ra_scores_21 : decode prog_1_method_8_code 21 = .ok (.iload_n 1, 1) := by decide +kernel
theorem d_Ra_scores_22 : decode prog_1_method_8_code 22 = .ok (.iload_n 2, 1) := by decide +kernel
theorem d_Ra_scores_23 : decode prog_1_method_8_code 23 = .ok (.invokevirtual 109, 3) := by decide +kernel
theorem d_Ra_scores_26 : decode prog_1_method_8_code 26 = .ok (.aload_n 0, 1) := by decide +kernel
theorem d_Ra_scores_27 : decode prog_1_method_8_code 27 = .ok (.iconst 0, 1) := by decide +kernel
theorem d_Ra_scores_28 : decode prog_1_method_8_code 28 = .ok (.putfield 81, 3) := by decide +kernel
theorem d_Ra_scores_31 : decode prog_1_method_8_code 31 = .ok (.return_, 1) := by decide +kernel
theorem d_Ra_costs_0 : decode prog_1_method_9_code 0 = .ok (.iconst 0, 1) := by decide +kernel
theorem d_Ra_costs_1 : decode prog_1_method_9_code 1 = .ok (.iload_n 1, 1) := by decide +kernel
theorem d_Ra_costs_2 : decode prog_1_method_9_code 2 = .ok (.invokestatic 95, 3) := by decide +kernel
theorem d_Ra_costs_5 : decode prog_1_method_9_code 5 = .ok (.iconst 0, 1) := by decide +kernel
theorem d_Ra_costs_6 : decode prog_1_method_9_code 6 = .ok (.iload_n 2, 1) := by decide +kernel
theorem d_Ra_costs_7 : decode prog_1_method_9_code 7 = .ok (.invokestatic 95, 3) := by decide +kernel
theorem d_Ra_costs_10 : decode prog_1_method_9_code 10 = .ok (.aload_n 0, 1) := by decide +kernel
theorem d_Ra_costs_11 : decode prog_1_method_9_code 11 = .ok (.getfield 12, 3) := by decide +kernel
theorem d_Ra_costs_14 : decode prog_1_method_9_code 14 = .ok (.getfield 99, 3) := by decide +kernel
theorem d_Ra_costs_17 : decode prog_1_method_9_code 17 = .ok (.iload_n 1, 1) := by decide +kernel
theorem d_Ra_costs_18 : decode prog_1_method_9_code 18 = .ok (.putfield 112, 3) := by decide +kernel
theorem d_Ra_costs_21 : decode prog_1_method_9_code 21 = .ok (.aload_n 0, 1) := by decide +kernel
theorem d_Ra_costs_22 : decode prog_1_method_9_code 22 = .ok (.getfield 12, 3) := by decide +kernel
theorem d_Ra_costs_25 : decode prog_1_method_9_code 25 = .ok (.getfield 99, 3) := by decide +kernel
theorem d_Ra_costs_28 : decode prog_1_method_9_code 28 = .ok (.iload_n 2, 1) := by decide +kernel
theorem d_Ra_costs_29 : decode prog_1_method_9_code 29 = .ok (.putfield 115, 3) := by decide +kernel
theorem d_Ra_costs_32 : decode prog_1_method_9_code 32 = .ok (.aload_n 0, 1) := by decide +kernel
theorem d_Ra_costs_33 : decode prog_1_method_9_code 33 = .ok (.iconst 0, 1) := by decide +kernel
theorem d_Ra_costs_34 : decode prog_1_method_9_code 34 = .ok (.putfield 81, 3) := by decide +kernel
theorem d_Ra_costs_37 : decode prog_1_method_9_code 37 = .ok (.return_, 1) := by decide +kernel
theorem d_Ra_whole_0 : decode prog_1_method_10_code 0 = .ok (.iload_n 1, 1) := by decide +kernel
theorem d_Ra_whole_1 : decode prog_1_method_10_code 1 = .ok (.invokestatic 118, 3) := by decide +kernel
theorem d_Ra_whole_4 : decode prog_1_method_10_code 4 = .ok (.aload_n 0, 1) := by decide +kernel
theorem d_Ra_whole_5 : decode prog_1_method_10_code 5 = .ok (.getfield 21, 3) := by decide +kernel
theorem d_Ra_whole_8 : decode prog_1_method_10_code 8 = .ok (.iload_n 1, 1) := by decide +kernel
theorem d_Ra_whole_9 : decode prog_1_method_10_code 9 = .ok (.invokevirtual 121, 3) := by decide +kernel
theorem d_Ra_whole_12 : decode prog_1_method_10_code 12 = .ok (.aload_n 0, 1) := by decide +kernel
theorem d_Ra_whole_13 : decode prog_1_method_10_code 13 = .ok (.invokevirtual 124, 3) := by decide +kernel
theorem d_Ra_whole_16 : decode prog_1_method_10_code 16 = .ok (.ireturn, 1) := by decide +kernel
theorem d_Ra_refuseOtherEnds_0 : decode prog_1_method_26_code 0 = .ok (.iload_n 0, 1) := by decide +kernel
theorem d_Ra_refuseOtherEnds_1 : decode prog_1_method_26_code 1 = .ok (.ifCond .lt 9, 3) := by decide +kernel
theorem d_Ra_refuseOtherEnds_4 : decode prog_1_method_26_code 4 = .ok (.iload_n 0, 1) := by decide +kernel
theorem d_Ra_refuseOtherEnds_5 : decode prog_1_method_26_code 5 = .ok (.bipush 15, 2) := by decide +kernel
theorem d_Ra_refuseOtherEnds_7 : decode prog_1_method_26_code 7 = .ok (.if_icmp .le 11, 3) := by decide +kernel
theorem d_Ra_refuseOtherEnds_10 : decode prog_1_method_26_code 10 = .ok (.new 61, 3) := by decide +kernel
theorem d_Ra_refuseOtherEnds_13 : decode prog_1_method_26_code 13 = .ok (.dup, 1) := by decide +kernel
theorem d_Ra_refuseOtherEnds_14 : decode prog_1_method_26_code 14 = .ok (.invokespecial 63, 3) := by decide +kernel
theorem d_Ra_refuseOtherEnds_17 : decode prog_1_method_26_code 17 = .ok (.athrow, 1) := by decide +kernel
theorem d_Ra_refuseOtherEnds_18 : decode prog_1_method_26_code 18 = .ok (.return_, 1) := by decide +kernel
theorem d_Se_searchWhole_0 : decode prog_9_method_2_code 0 = .ok (.aload_n 0, 1) := by decide +kernel
theorem d_Se_searchWhole_1 : decode prog_9_method_2_code 1 = .ok (.iload_n 1, 1) := by decide +kernel
theorem d_Se_searchWhole_2 : decode prog_9_method_2_code 2 = .ok (.putfield 26, 3) := by decide +kernel
theorem d_Se_searchWhole_5 : decode prog_9_method_2_code 5 = .ok (.aload_n 0, 1) := by decide +kernel
theorem d_Se_searchWhole_6 : decode prog_9_method_2_code 6 = .ok (.iconst 0, 1) := by decide +kernel
theorem d_Se_searchWhole_7 : decode prog_9_method_2_code 7 = .ok (.putfield 30, 3) := by decide +kernel
theorem d_Se_searchWhole_10 : decode prog_9_method_2_code 10 = .ok (.aload_n 0, 1) := by decide +kernel
theorem d_Se_searchWhole_11 : decode prog_9_method_2_code 11 = .ok (.invokevirtual 34, 3) := by decide +kernel
theorem d_Se_searchWhole_14 : decode prog_9_method_2_code 14 = .ok (.aload_n 0, 1) := by decide +kernel
theorem d_Se_searchWhole_15 : decode prog_9_method_2_code 15 = .ok (.iconst 0, 1) := by decide +kernel
theorem d_Se_searchWhole_16 : decode prog_9_method_2_code 16 = .ok (.iconst 0, 1) := by decide +kernel
theorem d_Se_searchWhole_17 : decode prog_9_method_2_code 17 = .ok (.invokevirtual 37, 3) := by decide +kernel
theorem d_Se_searchWhole_20 : decode prog_9_method_2_code 20 = .ok (.return_, 1) := by decide +kernel
theorem d_Ra_steps_0 : decode prog_1_method_12_code 0 = .ok (.aload_n 0, 1) := by decide +kernel
theorem d_Ra_steps_1 : decode prog_1_method_12_code 1 = .ok (.invokevirtual 131, 3) := by decide +kernel
theorem d_Ra_steps_4 : decode prog_1_method_12_code 4 = .ok (.aload_n 0, 1) := by decide +kernel
theorem d_Ra_steps_5 : decode prog_1_method_12_code 5 = .ok (.getfield 28, 3) := by decide +kernel
theorem d_Ra_steps_8 : decode prog_1_method_12_code 8 = .ok (.getfield 134, 3) := by decide +kernel
theorem d_Ra_steps_11 : decode prog_1_method_12_code 11 = .ok (.ireturn, 1) := by decide +kernel
theorem d_Ra_refuseUnlaid_0 : decode prog_1_method_27_code 0 = .ok (.aload_n 0, 1) := by decide +kernel
theorem d_Ra_refuseUnlaid_1 : decode prog_1_method_27_code 1 = .ok (.getfield 81, 3) := by decide +kernel
theorem d_Ra_refuseUnlaid_4 : decode prog_1_method_27_code 4 = .ok (.ifCond .ne 11, 3) := by decide +kernel
theorem d_Ra_refuseUnlaid_7 : decode prog_1_method_27_code 7 = .ok (.new 70, 3) := by decide +kernel
theorem d_Ra_refuseUnlaid_10 : decode prog_1_method_27_code 10 = .ok (.dup, 1) := by decide +kernel
theorem d_Ra_refuseUnlaid_11 : decode prog_1_method_27_code 11 = .ok (.invokespecial 72, 3) := by decide +kernel
theorem d_Ra_refuseUnlaid_14 : decode prog_1_method_27_code 14 = .ok (.athrow, 1) := by decide +kernel
theorem d_Ra_refuseUnlaid_15 : decode prog_1_method_27_code 15 = .ok (.return_, 1) := by decide +kernel
theorem d_Ra_step_0 : decode prog_1_method_13_code 0 = .ok (.aload_n 0, 1) := by decide +kernel
theorem d_Ra_step_1 : decode prog_1_method_13_code 1 = .ok (.invokevirtual 131, 3) := by decide +kernel
theorem d_Ra_step_4 : decode prog_1_method_13_code 4 = .ok (.iload_n 1, 1) := by decide +kernel
theorem d_Ra_step_5 : decode prog_1_method_13_code 5 = .ok (.ifCond .lt 14, 3) := by decide +kernel
theorem d_Ra_step_8 : decode prog_1_method_13_code 8 = .ok (.iload_n 1, 1) := by decide +kernel
theorem d_Ra_step_9 : decode prog_1_method_13_code 9 = .ok (.aload_n 0, 1) := by decide +kernel
theorem d_Ra_step_10 : decode prog_1_method_13_code 10 = .ok (.getfield 28, 3) := by decide +kernel
theorem d_Ra_step_13 : decode prog_1_method_13_code 13 = .ok (.getfield 134, 3) := by decide +kernel
theorem d_Ra_step_16 : decode prog_1_method_13_code 16 = .ok (.if_icmp .lt 11, 3) := by decide +kernel
theorem d_Ra_step_19 : decode prog_1_method_13_code 19 = .ok (.new 88, 3) := by decide +kernel
theorem d_Ra_step_22 : decode prog_1_method_13_code 22 = .ok (.dup, 1) := by decide +kernel
theorem d_Ra_step_23 : decode prog_1_method_13_code 23 = .ok (.invokespecial 90, 3) := by decide +kernel
theorem d_Ra_step_26 : decode prog_1_method_13_code 26 = .ok (.athrow, 1) := by decide +kernel
theorem d_Ra_step_27 : decode prog_1_method_13_code 27 = .ok (.aload_n 0, 1) := by decide +kernel
theorem d_Ra_step_28 : decode prog_1_method_13_code 28 = .ok (.getfield 28, 3) := by decide +kernel
theorem d_Ra_step_31 : decode prog_1_method_13_code 31 = .ok (.getfield 135, 3) := by decide +kernel
theorem d_Ra_step_34 : decode prog_1_method_13_code 34 = .ok (.iload_n 1, 1) := by decide +kernel
theorem d_Ra_step_35 : decode prog_1_method_13_code 35 = .ok (.iaload, 1) := by decide +kernel
theorem d_Ra_step_36 : decode prog_1_method_13_code 36 = .ok (.ireturn, 1) := by decide +kernel
theorem d_Ra_place_0 : decode prog_1_method_14_code 0 = .ok (.iload_n 1, 1) := by decide +kernel
theorem d_Ra_place_1 : decode prog_1_method_14_code 1 = .ok (.invokestatic 138, 3) := by decide +kernel
theorem d_Ra_place_4 : decode prog_1_method_14_code 4 = .ok (.aload_n 0, 1) := by decide +kernel
theorem d_Ra_place_5 : decode prog_1_method_14_code 5 = .ok (.invokevirtual 131, 3) := by decide +kernel
theorem d_Ra_place_8 : decode prog_1_method_14_code 8 = .ok (.iload_n 1, 1) := by decide +kernel
theorem d_Ra_place_9 : decode prog_1_method_14_code 9 = .ok (.ifCond .ne 25, 3) := by decide +kernel
theorem d_Ra_place_12 : decode prog_1_method_14_code 12 = .ok (.iload_n 2, 1) := by decide +kernel
theorem d_Ra_place_13 : decode prog_1_method_14_code 13 = .ok (.ifCond .eq 13, 3) := by decide +kernel
theorem d_Ra_place_16 : decode prog_1_method_14_code 16 = .ok (.aload_n 0, 1) := by decide +kernel
theorem d_Ra_place_17 : decode prog_1_method_14_code 17 = .ok (.getfield 28, 3) := by decide +kernel
theorem d_Ra_place_20 : decode prog_1_method_14_code 20 = .ok (.getfield 141, 3) := by decide +kernel
theorem d_Ra_place_23 : decode prog_1_method_14_code 23 = .ok (.goto 10, 3) := by decide +kernel
theorem d_Ra_place_26 : decode prog_1_method_14_code 26 = .ok (.aload_n 0, 1) := by decide +kernel
theorem d_Ra_place_27 : decode prog_1_method_14_code 27 = .ok (.getfield 28, 3) := by decide +kernel
theorem d_Ra_place_30 : decode prog_1_method_14_code 30 = .ok (.getfield 144, 3) := by decide +kernel
theorem d_Ra_place_33 : decode prog_1_method_14_code 33 = .ok (.ireturn, 1) := by decide +kernel
theorem d_Ra_place_34 : decode prog_1_method_14_code 34 = .ok (.iload_n 2, 1) := by decide +kernel
theorem d_Ra_place_35 : decode prog_1_method_14_code 35 = .ok (.ifCond .eq 13, 3) := by decide +kernel
theorem d_Ra_place_38 : decode prog_1_method_14_code 38 = .ok (.aload_n 0, 1) := by decide +kernel
theorem d_Ra_place_39 : decode prog_1_method_14_code 39 = .ok (.getfield 28, 3) := by decide +kernel
theorem d_Ra_place_42 : decode prog_1_method_14_code 42 = .ok (.getfield 147, 3) := by decide +kernel
theorem d_Ra_place_45 : decode prog_1_method_14_code 45 = .ok (.goto 10, 3) := by decide +kernel
theorem d_Ra_place_48 : decode prog_1_method_14_code 48 = .ok (.aload_n 0, 1) := by decide +kernel
theorem d_Ra_place_49 : decode prog_1_method_14_code 49 = .ok (.getfield 28, 3) := by decide +kernel
theorem d_Ra_place_52 : decode prog_1_method_14_code 52 = .ok (.getfield 150, 3) := by decide +kernel
theorem d_Ra_place_55 : decode prog_1_method_14_code 55 = .ok (.ireturn, 1) := by decide +kernel
theorem d_Ra_count_0 : decode prog_1_method_15_code 0 = .ok (.iload_n 1, 1) := by decide +kernel
theorem d_Ra_count_1 : decode prog_1_method_15_code 1 = .ok (.ifCond .lt 8, 3) := by decide +kernel
theorem d_Ra_count_4 : decode prog_1_method_15_code 4 = .ok (.iload_n 1, 1) := by decide +kernel
theorem d_Ra_count_5 : decode prog_1_method_15_code 5 = .ok (.iconst 3, 1) := by decide +kernel
theorem d_Ra_count_6 : decode prog_1_method_15_code 6 = .ok (.if_icmp .le 11, 3) := by decide +kernel
theorem d_Ra_count_9 : decode prog_1_method_15_code 9 = .ok (.new 61, 3) := by decide +kernel
theorem d_Ra_count_12 : decode prog_1_method_15_code 12 = .ok (.dup, 1) := by decide +kernel
theorem d_Ra_count_13 : decode prog_1_method_15_code 13 = .ok (.invokespecial 63, 3) := by decide +kernel
theorem d_Ra_count_16 : decode prog_1_method_15_code 16 = .ok (.athrow, 1) := by decide +kernel
theorem d_Ra_count_17 : decode prog_1_method_15_code 17 = .ok (.aload_n 0, 1) := by decide +kernel
theorem d_Ra_count_18 : decode prog_1_method_15_code 18 = .ok (.invokevirtual 131, 3) := by decide +kernel
theorem d_Ra_count_21 : decode prog_1_method_15_code 21 = .ok (.iload_n 1, 1) := by decide +kernel
theorem d_Ra_count_22 : decode prog_1_method_15_code 22 = .ok (.tableswitch 54 0 2 #[26, 34, 46], 26) := by decide +kernel
theorem d_Ra_count_48 : decode prog_1_method_15_code 48 = .ok (.aload_n 0, 1) := by decide +kernel
theorem d_Ra_count_49 : decode prog_1_method_15_code 49 = .ok (.getfield 28, 3) := by decide +kernel
theorem d_Ra_count_52 : decode prog_1_method_15_code 52 = .ok (.invokevirtual 153, 3) := by decide +kernel
theorem d_Ra_count_55 : decode prog_1_method_15_code 55 = .ok (.ireturn, 1) := by decide +kernel
theorem d_Ra_count_56 : decode prog_1_method_15_code 56 = .ok (.aload_n 0, 1) := by decide +kernel
theorem d_Ra_count_57 : decode prog_1_method_15_code 57 = .ok (.getfield 28, 3) := by decide +kernel
theorem d_Ra_count_60 : decode prog_1_method_15_code 60 = .ok (.aload_n 0, 1) := by decide +kernel
theorem d_Ra_count_61 : decode prog_1_method_15_code 61 = .ok (.getfield 12, 3) := by decide +kernel
theorem d_Ra_count_64 : decode prog_1_method_15_code 64 = .ok (.invokevirtual 156, 3) := by decide +kernel
theorem d_Ra_count_67 : decode prog_1_method_15_code 67 = .ok (.ireturn, 1) := by decide +kernel
theorem d_Ra_count_68 : decode prog_1_method_15_code 68 = .ok (.aload_n 0, 1) := by decide +kernel
theorem d_Ra_count_69 : decode prog_1_method_15_code 69 = .ok (.getfield 28, 3) := by decide +kernel
theorem d_Ra_count_72 : decode prog_1_method_15_code 72 = .ok (.invokevirtual 160, 3) := by decide +kernel
theorem d_Ra_count_75 : decode prog_1_method_15_code 75 = .ok (.ireturn, 1) := by decide +kernel
theorem d_Ra_count_76 : decode prog_1_method_15_code 76 = .ok (.aload_n 0, 1) := by decide +kernel
theorem d_Ra_count_77 : decode prog_1_method_15_code 77 = .ok (.getfield 28, 3) := by decide +kernel
theorem d_Ra_count_80 : decode prog_1_method_15_code 80 = .ok (.invokevirtual 163, 3) := by decide +kernel
theorem d_Ra_count_83 : decode prog_1_method_15_code 83 = .ok (.ireturn, 1) := by decide +kernel
theorem d_La_countRuns_0 : decode prog_5_method_4_code 0 = .ok (.iconst 0, 1) := by decide +kernel
theorem d_La_countRuns_1 : decode prog_5_method_4_code 1 = .ok (.istore_n 1, 1) := by decide +kernel
theorem d_La_countRuns_2 : decode prog_5_method_4_code 2 = .ok (.iconst 0, 1) := by decide +kernel
theorem d_La_countRuns_3 : decode prog_5_method_4_code 3 = .ok (.istore_n 2, 1) := by decide +kernel
theorem d_La_countRuns_4 : decode prog_5_method_4_code 4 = .ok (.iload_n 2, 1) := by decide +kernel
theorem d_La_countRuns_5 : decode prog_5_method_4_code 5 = .ok (.aload_n 0, 1) := by decide +kernel
theorem d_La_countRuns_6 : decode prog_5_method_4_code 6 = .ok (.getfield 32, 3) := by decide +kernel
theorem d_La_countRuns_9 : decode prog_5_method_4_code 9 = .ok (.if_icmp .ge 25, 3) := by decide +kernel
theorem d_La_countRuns_12 : decode prog_5_method_4_code 12 = .ok (.iload_n 1, 1) := by decide +kernel
theorem d_La_countRuns_13 : decode prog_5_method_4_code 13 = .ok (.aload_n 0, 1) := by decide +kernel
theorem d_La_countRuns_14 : decode prog_5_method_4_code 14 = .ok (.iload_n 2, 1) := by decide +kernel
theorem d_La_countRuns_15 : decode prog_5_method_4_code 15 = .ok (.invokevirtual 55, 3) := by decide +kernel
theorem d_La_countRuns_18 : decode prog_5_method_4_code 18 = .ok (.ifCond .eq 7, 3) := by decide +kernel
theorem d_La_countRuns_21 : decode prog_5_method_4_code 21 = .ok (.iconst 1, 1) := by decide +kernel
theorem d_La_countRuns_22 : decode prog_5_method_4_code 22 = .ok (.goto 4, 3) := by decide +kernel
theorem d_La_countRuns_25 : decode prog_5_method_4_code 25 = .ok (.iconst 0, 1) := by decide +kernel
theorem d_La_countRuns_26 : decode prog_5_method_4_code 26 = .ok (.iadd, 1) := by decide +kernel
theorem d_La_countRuns_27 : decode prog_5_method_4_code 27 = .ok (.istore_n 1, 1) := by decide +kernel
theorem d_La_countRuns_28 : decode prog_5_method_4_code 28 = .ok (.iinc 2 1, 3) := by decide +kernel
theorem d_La_countRuns_31 : decode prog_5_method_4_code 31 = .ok (.goto (-27), 3) := by decide +kernel
theorem d_La_countRuns_34 : decode prog_5_method_4_code 34 = .ok (.iload_n 1, 1) := by decide +kernel
theorem d_La_countRuns_35 : decode prog_5_method_4_code 35 = .ok (.ireturn, 1) := by decide +kernel
theorem d_La_beginsRun_0 : decode prog_5_method_3_code 0 = .ok (.iload_n 1, 1) := by decide +kernel
theorem d_La_beginsRun_1 : decode prog_5_method_3_code 1 = .ok (.ifCond .eq 20, 3) := by decide +kernel
theorem d_La_beginsRun_4 : decode prog_5_method_3_code 4 = .ok (.aload_n 0, 1) := by decide +kernel
theorem d_La_beginsRun_5 : decode prog_5_method_3_code 5 = .ok (.getfield 9, 3) := by decide +kernel
theorem d_La_beginsRun_8 : decode prog_5_method_3_code 8 = .ok (.iload_n 1, 1) := by decide +kernel
theorem d_La_beginsRun_9 : decode prog_5_method_3_code 9 = .ok (.iaload, 1) := by decide +kernel
theorem d_La_beginsRun_10 : decode prog_5_method_3_code 10 = .ok (.aload_n 0, 1) := by decide +kernel
theorem d_La_beginsRun_11 : decode prog_5_method_3_code 11 = .ok (.getfield 9, 3) := by decide +kernel
theorem d_La_beginsRun_14 : decode prog_5_method_3_code 14 = .ok (.iload_n 1, 1) := by decide +kernel
theorem d_La_beginsRun_15 : decode prog_5_method_3_code 15 = .ok (.iconst 1, 1) := by decide +kernel
theorem d_La_beginsRun_16 : decode prog_5_method_3_code 16 = .ok (.isub, 1) := by decide +kernel
theorem d_La_beginsRun_17 : decode prog_5_method_3_code 17 = .ok (.iaload, 1) := by decide +kernel
theorem d_La_beginsRun_18 : decode prog_5_method_3_code 18 = .ok (.if_icmp .eq 7, 3) := by decide +kernel
theorem d_La_beginsRun_21 : decode prog_5_method_3_code 21 = .ok (.iconst 1, 1) := by decide +kernel
theorem d_La_beginsRun_22 : decode prog_5_method_3_code 22 = .ok (.goto 4, 3) := by decide +kernel
theorem d_La_beginsRun_25 : decode prog_5_method_3_code 25 = .ok (.iconst 0, 1) := by decide +kernel
theorem d_La_beginsRun_26 : decode prog_5_method_3_code 26 = .ok (.ireturn, 1) := by decide +kernel
theorem d_La_countSamePairs_0 : decode prog_5_method_7_code 0 = .ok (.iconst 0, 1) := by decide +kernel
theorem d_La_countSamePairs_1 : decode prog_5_method_7_code 1 = .ok (.istore_n 2, 1) := by decide +kernel
theorem d_La_countSamePairs_2 : decode prog_5_method_7_code 2 = .ok (.aload_n 0, 1) := by decide +kernel
theorem d_La_countSamePairs_3 : decode prog_5_method_7_code 3 = .ok (.getfield 21, 3) := by decide +kernel
theorem d_La_countSamePairs_6 : decode prog_5_method_7_code 6 = .ok (.istore_n 3, 1) := by decide +kernel
theorem d_La_countSamePairs_7 : decode prog_5_method_7_code 7 = .ok (.aload_n 0, 1) := by decide +kernel
theorem d_La_countSamePairs_8 : decode prog_5_method_7_code 8 = .ok (.getfield 25, 3) := by decide +kernel
theorem d_La_countSamePairs_11 : decode prog_5_method_7_code 11 = .ok (.istore 4, 2) := by decide +kernel
theorem d_La_countSamePairs_13 : decode prog_5_method_7_code 13 = .ok (.iconst 0, 1) := by decide +kernel
theorem d_La_countSamePairs_14 : decode prog_5_method_7_code 14 = .ok (.istore 5, 2) := by decide +kernel
theorem d_La_countSamePairs_16 : decode prog_5_method_7_code 16 = .ok (.iload 5, 2) := by decide +kernel
theorem d_La_countSamePairs_18 : decode prog_5_method_7_code 18 = .ok (.aload_n 0, 1) := by decide +kernel
theorem d_La_countSamePairs_19 : decode prog_5_method_7_code 19 = .ok (.getfield 32, 3) := by decide +kernel
theorem d_La_countSamePairs_22 : decode prog_5_method_7_code 22 = .ok (.if_icmp .ge 72, 3) := by decide +kernel
theorem d_La_countSamePairs_25 : decode prog_5_method_7_code 25 = .ok (.aload_n 0, 1) := by decide +kernel
theorem d_La_countSamePairs_26 : decode prog_5_method_7_code 26 = .ok (.getfield 9, 3) := by decide +kernel
theorem d_La_countSamePairs_29 : decode prog_5_method_7_code 29 = .ok (.iload 5, 2) := by decide +kernel
theorem d_La_countSamePairs_31 : decode prog_5_method_7_code 31 = .ok (.iaload, 1) := by decide +kernel
theorem d_La_countSamePairs_32 : decode prog_5_method_7_code 32 = .ok (.ifCond .ne 28, 3) := by decide +kernel
theorem d_La_countSamePairs_35 : decode prog_5_method_7_code 35 = .ok (.aload_n 1, 1) := by decide +kernel
theorem d_La_countSamePairs_36 : decode prog_5_method_7_code 36 = .ok (.getfield 59, 3) := by decide +kernel
theorem d_La_countSamePairs_39 : decode prog_5_method_7_code 39 = .ok (.getfield 65, 3) := by decide +kernel
theorem d_La_countSamePairs_42 : decode prog_5_method_7_code 42 = .ok (.iload_n 3, 1) := by decide +kernel
theorem d_La_countSamePairs_43 : decode prog_5_method_7_code 43 = .ok (.iaload, 1) := by decide +kernel
theorem d_La_countSamePairs_44 : decode prog_5_method_7_code 44 = .ok (.aload_n 1, 1) := by decide +kernel
theorem d_La_countSamePairs_45 : decode prog_5_method_7_code 45 = .ok (.getfield 70, 3) := by decide +kernel
theorem d_La_countSamePairs_48 : decode prog_5_method_7_code 48 = .ok (.getfield 65, 3) := by decide +kernel
theorem d_La_countSamePairs_51 : decode prog_5_method_7_code 51 = .ok (.iload 4, 2) := by decide +kernel
theorem d_La_countSamePairs_53 : decode prog_5_method_7_code 53 = .ok (.iaload, 1) := by decide +kernel
theorem d_La_countSamePairs_54 : decode prog_5_method_7_code 54 = .ok (.if_icmp .ne 6, 3) := by decide +kernel
theorem d_La_countSamePairs_57 : decode prog_5_method_7_code 57 = .ok (.iinc 2 1, 3) := by decide +kernel
theorem d_La_countSamePairs_60 : decode prog_5_method_7_code 60 = .ok (.iload_n 3, 1) := by decide +kernel
theorem d_La_countSamePairs_61 : decode prog_5_method_7_code 61 = .ok (.aload_n 0, 1) := by decide +kernel
theorem d_La_countSamePairs_62 : decode prog_5_method_7_code 62 = .ok (.getfield 9, 3) := by decide +kernel
theorem d_La_countSamePairs_65 : decode prog_5_method_7_code 65 = .ok (.iload 5, 2) := by decide +kernel
theorem d_La_countSamePairs_67 : decode prog_5_method_7_code 67 = .ok (.iaload, 1) := by decide +kernel
theorem d_La_countSamePairs_68 : decode prog_5_method_7_code 68 = .ok (.invokestatic 49, 3) := by decide +kernel
theorem d_La_countSamePairs_71 : decode prog_5_method_7_code 71 = .ok (.iadd, 1) := by decide +kernel
theorem d_La_countSamePairs_72 : decode prog_5_method_7_code 72 = .ok (.istore_n 3, 1) := by decide +kernel
theorem d_La_countSamePairs_73 : decode prog_5_method_7_code 73 = .ok (.iload 4, 2) := by decide +kernel
theorem d_La_countSamePairs_75 : decode prog_5_method_7_code 75 = .ok (.aload_n 0, 1) := by decide +kernel
theorem d_La_countSamePairs_76 : decode prog_5_method_7_code 76 = .ok (.getfield 9, 3) := by decide +kernel
theorem d_La_countSamePairs_79 : decode prog_5_method_7_code 79 = .ok (.iload 5, 2) := by decide +kernel
theorem d_La_countSamePairs_81 : decode prog_5_method_7_code 81 = .ok (.iaload, 1) := by decide +kernel
theorem d_La_countSamePairs_82 : decode prog_5_method_7_code 82 = .ok (.invokestatic 52, 3) := by decide +kernel
theorem d_La_countSamePairs_85 : decode prog_5_method_7_code 85 = .ok (.iadd, 1) := by decide +kernel
theorem d_La_countSamePairs_86 : decode prog_5_method_7_code 86 = .ok (.istore 4, 2) := by decide +kernel
theorem d_La_countSamePairs_88 : decode prog_5_method_7_code 88 = .ok (.iinc 5 1, 3) := by decide +kernel
theorem d_La_countSamePairs_91 : decode prog_5_method_7_code 91 = .ok (.goto (-75), 3) := by decide +kernel
theorem d_La_countSamePairs_94 : decode prog_5_method_7_code 94 = .ok (.iload_n 2, 1) := by decide +kernel
theorem d_La_countSamePairs_95 : decode prog_5_method_7_code 95 = .ok (.ireturn, 1) := by decide +kernel
theorem d_La_countGaps_0 : decode prog_5_method_5_code 0 = .ok (.iconst 0, 1) := by decide +kernel
theorem d_La_countGaps_1 : decode prog_5_method_5_code 1 = .ok (.istore_n 1, 1) := by decide +kernel
theorem d_La_countGaps_2 : decode prog_5_method_5_code 2 = .ok (.iconst 0, 1) := by decide +kernel
theorem d_La_countGaps_3 : decode prog_5_method_5_code 3 = .ok (.istore_n 2, 1) := by decide +kernel
theorem d_La_countGaps_4 : decode prog_5_method_5_code 4 = .ok (.iload_n 2, 1) := by decide +kernel
theorem d_La_countGaps_5 : decode prog_5_method_5_code 5 = .ok (.aload_n 0, 1) := by decide +kernel
theorem d_La_countGaps_6 : decode prog_5_method_5_code 6 = .ok (.getfield 32, 3) := by decide +kernel
theorem d_La_countGaps_9 : decode prog_5_method_5_code 9 = .ok (.if_icmp .ge 34, 3) := by decide +kernel
theorem d_La_countGaps_12 : decode prog_5_method_5_code 12 = .ok (.iload_n 1, 1) := by decide +kernel
theorem d_La_countGaps_13 : decode prog_5_method_5_code 13 = .ok (.aload_n 0, 1) := by decide +kernel
theorem d_La_countGaps_14 : decode prog_5_method_5_code 14 = .ok (.getfield 9, 3) := by decide +kernel
theorem d_La_countGaps_17 : decode prog_5_method_5_code 17 = .ok (.iload_n 2, 1) := by decide +kernel
theorem d_La_countGaps_18 : decode prog_5_method_5_code 18 = .ok (.iaload, 1) := by decide +kernel
theorem d_La_countGaps_19 : decode prog_5_method_5_code 19 = .ok (.ifCond .eq 15, 3) := by decide +kernel
theorem d_La_countGaps_22 : decode prog_5_method_5_code 22 = .ok (.aload_n 0, 1) := by decide +kernel
theorem d_La_countGaps_23 : decode prog_5_method_5_code 23 = .ok (.iload_n 2, 1) := by decide +kernel
theorem d_La_countGaps_24 : decode prog_5_method_5_code 24 = .ok (.invokevirtual 55, 3) := by decide +kernel
theorem d_La_countGaps_27 : decode prog_5_method_5_code 27 = .ok (.ifCond .eq 7, 3) := by decide +kernel
theorem d_La_countGaps_30 : decode prog_5_method_5_code 30 = .ok (.iconst 1, 1) := by decide +kernel
theorem d_La_countGaps_31 : decode prog_5_method_5_code 31 = .ok (.goto 4, 3) := by decide +kernel
theorem d_La_countGaps_34 : decode prog_5_method_5_code 34 = .ok (.iconst 0, 1) := by decide +kernel
theorem d_La_countGaps_35 : decode prog_5_method_5_code 35 = .ok (.iadd, 1) := by decide +kernel
theorem d_La_countGaps_36 : decode prog_5_method_5_code 36 = .ok (.istore_n 1, 1) := by decide +kernel
theorem d_La_countGaps_37 : decode prog_5_method_5_code 37 = .ok (.iinc 2 1, 3) := by decide +kernel
theorem d_La_countGaps_40 : decode prog_5_method_5_code 40 = .ok (.goto (-36), 3) := by decide +kernel
theorem d_La_countGaps_43 : decode prog_5_method_5_code 43 = .ok (.iload_n 1, 1) := by decide +kernel
theorem d_La_countGaps_44 : decode prog_5_method_5_code 44 = .ok (.ireturn, 1) := by decide +kernel
theorem d_La_countGapLetters_0 : decode prog_5_method_6_code 0 = .ok (.iconst 0, 1) := by decide +kernel
theorem d_La_countGapLetters_1 : decode prog_5_method_6_code 1 = .ok (.istore_n 1, 1) := by decide +kernel
theorem d_La_countGapLetters_2 : decode prog_5_method_6_code 2 = .ok (.iconst 0, 1) := by decide +kernel
theorem d_La_countGapLetters_3 : decode prog_5_method_6_code 3 = .ok (.istore_n 2, 1) := by decide +kernel
theorem d_La_countGapLetters_4 : decode prog_5_method_6_code 4 = .ok (.iload_n 2, 1) := by decide +kernel
theorem d_La_countGapLetters_5 : decode prog_5_method_6_code 5 = .ok (.aload_n 0, 1) := by decide +kernel
theorem d_La_countGapLetters_6 : decode prog_5_method_6_code 6 = .ok (.getfield 32, 3) := by decide +kernel
theorem d_La_countGapLetters_9 : decode prog_5_method_6_code 9 = .ok (.if_icmp .ge 26, 3) := by decide +kernel
theorem d_La_countGapLetters_12 : decode prog_5_method_6_code 12 = .ok (.iload_n 1, 1) := by decide +kernel
theorem d_La_countGapLetters_13 : decode prog_5_method_6_code 13 = .ok (.aload_n 0, 1) := by decide +kernel
theorem d_La_countGapLetters_14 : decode prog_5_method_6_code 14 = .ok (.getfield 9, 3) := by decide +kernel
theorem d_La_countGapLetters_17 : decode prog_5_method_6_code 17 = .ok (.iload_n 2, 1) := by decide +kernel
theorem d_La_countGapLetters_18 : decode prog_5_method_6_code 18 = .ok (.iaload, 1) := by decide +kernel
theorem d_La_countGapLetters_19 : decode prog_5_method_6_code 19 = .ok (.ifCond .eq 7, 3) := by decide +kernel
theorem d_La_countGapLetters_22 : decode prog_5_method_6_code 22 = .ok (.iconst 1, 1) := by decide +kernel
theorem d_La_countGapLetters_23 : decode prog_5_method_6_code 23 = .ok (.goto 4, 3) := by decide +kernel
theorem d_La_countGapLetters_26 : decode prog_5_method_6_code 26 = .ok (.iconst 0, 1) := by decide +kernel
theorem d_La_countGapLetters_27 : decode prog_5_method_6_code 27 = .ok (.iadd, 1) := by decide +kernel
theorem d_La_countGapLetters_28 : decode prog_5_method_6_code 28 = .ok (.istore_n 1, 1) := by decide +kernel
theorem d_La_countGapLetters_29 : decode prog_5_method_6_code 29 = .ok (.iinc 2 1, 3) := by decide +kernel
theorem d_La_countGapLetters_32 : decode prog_5_method_6_code 32 = .ok (.goto (-28), 3) := by decide +kernel
theorem d_La_countGapLetters_35 : decode prog_5_method_6_code 35 = .ok (.iload_n 1, 1) := by decide +kernel
theorem d_La_countGapLetters_36 : decode prog_5_method_6_code 36 = .ok (.ireturn, 1) := by decide +kernel
theorem d_Ra_run_0 : decode prog_1_method_16_code 0 = .ok (.iload_n 2, 1) := by decide +kernel
theorem d_Ra_run_1 : decode prog_1_method_16_code 1 = .ok (.ifCond .lt 8, 3) := by decide +kernel
theorem d_Ra_run_4 : decode prog_1_method_16_code 4 = .ok (.iload_n 2, 1) := by decide +kernel
theorem d_Ra_run_5 : decode prog_1_method_16_code 5 = .ok (.iconst 1, 1) := by decide +kernel
theorem d_Ra_run_6 : decode prog_1_method_16_code 6 = .ok (.if_icmp .le 11, 3) := by decide +kernel
theorem d_Ra_run_9 : decode prog_1_method_16_code 9 = .ok (.new 61, 3) := by decide +kernel
theorem d_Ra_run_12 : decode prog_1_method_16_code 12 = .ok (.dup, 1) := by decide +kernel
theorem d_Ra_run_13 : decode prog_1_method_16_code 13 = .ok (.invokespecial 63, 3) := by decide +kernel
theorem d_Ra_run_16 : decode prog_1_method_16_code 16 = .ok (.athrow, 1) := by decide +kernel
theorem d_Ra_run_17 : decode prog_1_method_16_code 17 = .ok (.aload_n 0, 1) := by decide +kernel
theorem d_Ra_run_18 : decode prog_1_method_16_code 18 = .ok (.invokevirtual 131, 3) := by decide +kernel
theorem d_Ra_run_21 : decode prog_1_method_16_code 21 = .ok (.aload_n 0, 1) := by decide +kernel
theorem d_Ra_run_22 : decode prog_1_method_16_code 22 = .ok (.getfield 28, 3) := by decide +kernel
theorem d_Ra_run_25 : decode prog_1_method_16_code 25 = .ok (.iload_n 1, 1) := by decide +kernel
theorem d_Ra_run_26 : decode prog_1_method_16_code 26 = .ok (.invokevirtual 166, 3) := by decide +kernel
theorem d_Ra_run_29 : decode prog_1_method_16_code 29 = .ok (.istore_n 3, 1) := by decide +kernel
theorem d_Ra_run_30 : decode prog_1_method_16_code 30 = .ok (.iload_n 3, 1) := by decide +kernel
theorem d_Ra_run_31 : decode prog_1_method_16_code 31 = .ok (.iconst (-1), 1) := by decide +kernel
theorem d_Ra_run_32 : decode prog_1_method_16_code 32 = .ok (.if_icmp .ne 11, 3) := by decide +kernel
theorem d_Ra_run_35 : decode prog_1_method_16_code 35 = .ok (.new 88, 3) := by decide +kernel
theorem d_Ra_run_38 : decode prog_1_method_16_code 38 = .ok (.dup, 1) := by decide +kernel
theorem d_Ra_run_39 : decode prog_1_method_16_code 39 = .ok (.invokespecial 90, 3) := by decide +kernel
theorem d_Ra_run_42 : decode prog_1_method_16_code 42 = .ok (.athrow, 1) := by decide +kernel
theorem d_Ra_run_43 : decode prog_1_method_16_code 43 = .ok (.iload_n 2, 1) := by decide +kernel
theorem d_Ra_run_44 : decode prog_1_method_16_code 44 = .ok (.ifCond .ne 15, 3) := by decide +kernel
theorem d_Ra_run_47 : decode prog_1_method_16_code 47 = .ok (.aload_n 0, 1) := by decide +kernel
theorem d_Ra_run_48 : decode prog_1_method_16_code 48 = .ok (.getfield 28, 3) := by decide +kernel
theorem d_Ra_run_51 : decode prog_1_method_16_code 51 = .ok (.getfield 135, 3) := by decide +kernel
theorem d_Ra_run_54 : decode prog_1_method_16_code 54 = .ok (.iload_n 3, 1) := by decide +kernel
theorem d_Ra_run_55 : decode prog_1_method_16_code 55 = .ok (.iaload, 1) := by decide +kernel
theorem d_Ra_run_56 : decode prog_1_method_16_code 56 = .ok (.goto 11, 3) := by decide +kernel
theorem d_Ra_run_59 : decode prog_1_method_16_code 59 = .ok (.aload_n 0, 1) := by decide +kernel
theorem d_Ra_run_60 : decode prog_1_method_16_code 60 = .ok (.getfield 28, 3) := by decide +kernel
theorem d_Ra_run_63 : decode prog_1_method_16_code 63 = .ok (.iload_n 3, 1) := by decide +kernel
theorem d_Ra_run_64 : decode prog_1_method_16_code 64 = .ok (.invokevirtual 170, 3) := by decide +kernel
theorem d_Ra_run_67 : decode prog_1_method_16_code 67 = .ok (.ireturn, 1) := by decide +kernel
theorem d_La_startOfRun_0 : decode prog_5_method_8_code 0 = .ok (.iconst 0, 1) := by decide +kernel
theorem d_La_startOfRun_1 : decode prog_5_method_8_code 1 = .ok (.istore_n 2, 1) := by decide +kernel
theorem d_La_startOfRun_2 : decode prog_5_method_8_code 2 = .ok (.iconst 0, 1) := by decide +kernel
theorem d_La_startOfRun_3 : decode prog_5_method_8_code 3 = .ok (.istore_n 3, 1) := by decide +kernel
theorem d_La_startOfRun_4 : decode prog_5_method_8_code 4 = .ok (.iload_n 3, 1) := by decide +kernel
theorem d_La_startOfRun_5 : decode prog_5_method_8_code 5 = .ok (.aload_n 0, 1) := by decide +kernel
theorem d_La_startOfRun_6 : decode prog_5_method_8_code 6 = .ok (.getfield 32, 3) := by decide +kernel
theorem d_La_startOfRun_9 : decode prog_5_method_8_code 9 = .ok (.if_icmp .ge 27, 3) := by decide +kernel
theorem d_La_startOfRun_12 : decode prog_5_method_8_code 12 = .ok (.aload_n 0, 1) := by decide +kernel
theorem d_La_startOfRun_13 : decode prog_5_method_8_code 13 = .ok (.iload_n 3, 1) := by decide +kernel
theorem d_La_startOfRun_14 : decode prog_5_method_8_code 14 = .ok (.invokevirtual 55, 3) := by decide +kernel
theorem d_La_startOfRun_17 : decode prog_5_method_8_code 17 = .ok (.ifCond .eq 13, 3) := by decide +kernel
theorem d_La_startOfRun_20 : decode prog_5_method_8_code 20 = .ok (.iload_n 2, 1) := by decide +kernel
theorem d_La_startOfRun_21 : decode prog_5_method_8_code 21 = .ok (.iload_n 1, 1) := by decide +kernel
theorem d_La_startOfRun_22 : decode prog_5_method_8_code 22 = .ok (.if_icmp .ne 5, 3) := by decide +kernel
theorem d_La_startOfRun_25 : decode prog_5_method_8_code 25 = .ok (.iload_n 3, 1) := by decide +kernel
theorem d_La_startOfRun_26 : decode prog_5_method_8_code 26 = .ok (.ireturn, 1) := by decide +kernel
theorem d_La_startOfRun_27 : decode prog_5_method_8_code 27 = .ok (.iinc 2 1, 3) := by decide +kernel
theorem d_La_startOfRun_30 : decode prog_5_method_8_code 30 = .ok (.iinc 3 1, 3) := by decide +kernel
theorem d_La_startOfRun_33 : decode prog_5_method_8_code 33 = .ok (.goto (-29), 3) := by decide +kernel
theorem d_La_startOfRun_36 : decode prog_5_method_8_code 36 = .ok (.iconst (-1), 1) := by decide +kernel
theorem d_La_startOfRun_37 : decode prog_5_method_8_code 37 = .ok (.ireturn, 1) := by decide +kernel
theorem d_La_lengthOfRunAt_0 : decode prog_5_method_9_code 0 = .ok (.iload_n 1, 1) := by decide +kernel
theorem d_La_lengthOfRunAt_1 : decode prog_5_method_9_code 1 = .ok (.iconst 1, 1) := by decide +kernel
theorem d_La_lengthOfRunAt_2 : decode prog_5_method_9_code 2 = .ok (.iadd, 1) := by decide +kernel
theorem d_La_lengthOfRunAt_3 : decode prog_5_method_9_code 3 = .ok (.istore_n 2, 1) := by decide +kernel
theorem d_La_lengthOfRunAt_4 : decode prog_5_method_9_code 4 = .ok (.iload_n 2, 1) := by decide +kernel
theorem d_La_lengthOfRunAt_5 : decode prog_5_method_9_code 5 = .ok (.aload_n 0, 1) := by decide +kernel
theorem d_La_lengthOfRunAt_6 : decode prog_5_method_9_code 6 = .ok (.getfield 32, 3) := by decide +kernel
theorem d_La_lengthOfRunAt_9 : decode prog_5_method_9_code 9 = .ok (.if_icmp .ge 17, 3) := by decide +kernel
theorem d_La_lengthOfRunAt_12 : decode prog_5_method_9_code 12 = .ok (.aload_n 0, 1) := by decide +kernel
theorem d_La_lengthOfRunAt_13 : decode prog_5_method_9_code 13 = .ok (.iload_n 2, 1) := by decide +kernel
theorem d_La_lengthOfRunAt_14 : decode prog_5_method_9_code 14 = .ok (.invokevirtual 55, 3) := by decide +kernel
theorem d_La_lengthOfRunAt_17 : decode prog_5_method_9_code 17 = .ok (.ifCond .ne 9, 3) := by decide +kernel
theorem d_La_lengthOfRunAt_20 : decode prog_5_method_9_code 20 = .ok (.iinc 2 1, 3) := by decide +kernel
theorem d_La_lengthOfRunAt_23 : decode prog_5_method_9_code 23 = .ok (.goto (-19), 3) := by decide +kernel
theorem d_La_lengthOfRunAt_26 : decode prog_5_method_9_code 26 = .ok (.iload_n 2, 1) := by decide +kernel
theorem d_La_lengthOfRunAt_27 : decode prog_5_method_9_code 27 = .ok (.iload_n 1, 1) := by decide +kernel
theorem d_La_lengthOfRunAt_28 : decode prog_5_method_9_code 28 = .ok (.isub, 1) := by decide +kernel
theorem d_La_lengthOfRunAt_29 : decode prog_5_method_9_code 29 = .ok (.ireturn, 1) := by decide +kernel
theorem d_Ra_ways_0 : decode prog_1_method_17_code 0 = .ok (.aload_n 0, 1) := by decide +kernel
theorem d_Ra_ways_1 : decode prog_1_method_17_code 1 = .ok (.invokevirtual 131, 3) := by decide +kernel
theorem d_Ra_ways_4 : decode prog_1_method_17_code 4 = .ok (.aload_n 0, 1) := by decide +kernel
theorem d_Ra_ways_5 : decode prog_1_method_17_code 5 = .ok (.getfield 173, 3) := by decide +kernel
theorem d_Ra_ways_8 : decode prog_1_method_17_code 8 = .ok (.ifCond .ne 23, 3) := by decide +kernel
theorem d_Ra_ways_11 : decode prog_1_method_17_code 11 = .ok (.aload_n 0, 1) := by decide +kernel
theorem d_Ra_ways_12 : decode prog_1_method_17_code 12 = .ok (.aload_n 0, 1) := by decide +kernel
theorem d_Ra_ways_13 : decode prog_1_method_17_code 13 = .ok (.getfield 35, 3) := by decide +kernel
theorem d_Ra_ways_16 : decode prog_1_method_17_code 16 = .ok (.aload_n 0, 1) := by decide +kernel
theorem d_Ra_ways_17 : decode prog_1_method_17_code 17 = .ok (.getfield 21, 3) := by decide +kernel
theorem d_Ra_ways_20 : decode prog_1_method_17_code 20 = .ok (.invokevirtual 176, 3) := by decide +kernel
theorem d_Ra_ways_23 : decode prog_1_method_17_code 23 = .ok (.putfield 180, 3) := by decide +kernel
theorem d_Ra_ways_26 : decode prog_1_method_17_code 26 = .ok (.aload_n 0, 1) := by decide +kernel
theorem d_Ra_ways_27 : decode prog_1_method_17_code 27 = .ok (.iconst 1, 1) := by decide +kernel
theorem d_Ra_ways_28 : decode prog_1_method_17_code 28 = .ok (.putfield 173, 3) := by decide +kernel
theorem d_Ra_ways_31 : decode prog_1_method_17_code 31 = .ok (.aload_n 0, 1) := by decide +kernel
theorem d_Ra_ways_32 : decode prog_1_method_17_code 32 = .ok (.getfield 180, 3) := by decide +kernel
theorem d_Ra_ways_35 : decode prog_1_method_17_code 35 = .ok (.lreturn, 1) := by decide +kernel
theorem d_Wc_countBest_0 : decode prog_10_method_2_code 0 = .ok (.lconst 0, 1) := by decide +kernel
theorem d_Wc_countBest_1 : decode prog_10_method_2_code 1 = .ok (.lstore_n 2, 1) := by decide +kernel
theorem d_Wc_countBest_2 : decode prog_10_method_2_code 2 = .ok (.aload_n 1, 1) := by decide +kernel
theorem d_Wc_countBest_3 : decode prog_10_method_2_code 3 = .ok (.getfield 15, 3) := by decide +kernel
theorem d_Wc_countBest_6 : decode prog_10_method_2_code 6 = .ok (.getfield 21, 3) := by decide +kernel
theorem d_Wc_countBest_9 : decode prog_10_method_2_code 9 = .ok (.getfield 27, 3) := by decide +kernel
theorem d_Wc_countBest_12 : decode prog_10_method_2_code 12 = .ok (.istore 4, 2) := by decide +kernel
theorem d_Wc_countBest_14 : decode prog_10_method_2_code 14 = .ok (.iload 4, 2) := by decide +kernel
theorem d_Wc_countBest_16 : decode prog_10_method_2_code 16 = .ok (.ifCond .lt 114, 3) := by decide +kernel
theorem d_Wc_countBest_19 : decode prog_10_method_2_code 19 = .ok (.aload_n 1, 1) := by decide +kernel
theorem d_Wc_countBest_20 : decode prog_10_method_2_code 20 = .ok (.getfield 15, 3) := by decide +kernel
theorem d_Wc_countBest_23 : decode prog_10_method_2_code 23 = .ok (.getfield 33, 3) := by decide +kernel
theorem d_Wc_countBest_26 : decode prog_10_method_2_code 26 = .ok (.getfield 27, 3) := by decide +kernel
theorem d_Wc_countBest_29 : decode prog_10_method_2_code 29 = .ok (.istore 5, 2) := by decide +kernel
theorem d_Wc_countBest_31 : decode prog_10_method_2_code 31 = .ok (.iload 5, 2) := by decide +kernel
theorem d_Wc_countBest_33 : decode prog_10_method_2_code 33 = .ok (.ifCond .lt 91, 3) := by decide +kernel
theorem d_Wc_countBest_36 : decode prog_10_method_2_code 36 = .ok (.aload_n 1, 1) := by decide +kernel
theorem d_Wc_countBest_37 : decode prog_10_method_2_code 37 = .ok (.iload 4, 2) := by decide +kernel
theorem d_Wc_countBest_39 : decode prog_10_method_2_code 39 = .ok (.iload 5, 2) := by decide +kernel
theorem d_Wc_countBest_41 : decode prog_10_method_2_code 41 = .ok (.invokevirtual 36, 3) := by decide +kernel
theorem d_Wc_countBest_44 : decode prog_10_method_2_code 44 = .ok (.iconst 0, 1) := by decide +kernel
theorem d_Wc_countBest_45 : decode prog_10_method_2_code 45 = .ok (.istore 6, 2) := by decide +kernel
theorem d_Wc_countBest_47 : decode prog_10_method_2_code 47 = .ok (.iload 6, 2) := by decide +kernel
theorem d_Wc_countBest_49 : decode prog_10_method_2_code 49 = .ok (.iconst 3, 1) := by decide +kernel
theorem d_Wc_countBest_50 : decode prog_10_method_2_code 50 = .ok (.if_icmp .ge 39, 3) := by decide +kernel
theorem d_Wc_countBest_53 : decode prog_10_method_2_code 53 = .ok (.aload_n 0, 1) := by decide +kernel
theorem d_Wc_countBest_54 : decode prog_10_method_2_code 54 = .ok (.getfield 9, 3) := by decide +kernel
theorem d_Wc_countBest_57 : decode prog_10_method_2_code 57 = .ok (.iload 6, 2) := by decide +kernel
theorem d_Wc_countBest_59 : decode prog_10_method_2_code 59 = .ok (.iload 4, 2) := by decide +kernel
theorem d_Wc_countBest_61 : decode prog_10_method_2_code 61 = .ok (.iconst 1, 1) := by decide +kernel
theorem d_Wc_countBest_62 : decode prog_10_method_2_code 62 = .ok (.iand, 1) := by decide +kernel
theorem d_Wc_countBest_63 : decode prog_10_method_2_code 63 = .ok (.iload 5, 2) := by decide +kernel
theorem d_Wc_countBest_65 : decode prog_10_method_2_code 65 = .ok (.invokestatic 40, 3) := by decide +kernel
theorem d_Wc_countBest_68 : decode prog_10_method_2_code 68 = .ok (.aload_n 0, 1) := by decide +kernel
theorem d_Wc_countBest_69 : decode prog_10_method_2_code 69 = .ok (.aload_n 1, 1) := by decide +kernel
theorem d_Wc_countBest_70 : decode prog_10_method_2_code 70 = .ok (.getfield 44, 3) := by decide +kernel
theorem d_Wc_countBest_73 : decode prog_10_method_2_code 73 = .ok (.iload 6, 2) := by decide +kernel
theorem d_Wc_countBest_75 : decode prog_10_method_2_code 75 = .ok (.iload 4, 2) := by decide +kernel
theorem d_Wc_countBest_77 : decode prog_10_method_2_code 77 = .ok (.iload 5, 2) := by decide +kernel
theorem d_Wc_countBest_79 : decode prog_10_method_2_code 79 = .ok (.invokevirtual 48, 3) := by decide +kernel
theorem d_Wc_countBest_82 : decode prog_10_method_2_code 82 = .ok (.lastore, 1) := by decide +kernel
theorem d_Wc_countBest_83 : decode prog_10_method_2_code 83 = .ok (.iinc 6 1, 3) := by decide +kernel
theorem d_Wc_countBest_86 : decode prog_10_method_2_code 86 = .ok (.goto (-39), 3) := by decide +kernel
theorem d_Wc_countBest_89 : decode prog_10_method_2_code 89 = .ok (.aload_n 1, 1) := by decide +kernel
theorem d_Wc_countBest_90 : decode prog_10_method_2_code 90 = .ok (.iload 4, 2) := by decide +kernel
theorem d_Wc_countBest_92 : decode prog_10_method_2_code 92 = .ok (.iload 5, 2) := by decide +kernel
theorem d_Wc_countBest_94 : decode prog_10_method_2_code 94 = .ok (.invokevirtual 52, 3) := by decide +kernel
theorem d_Wc_countBest_97 : decode prog_10_method_2_code 97 = .ok (.ifCond .eq 21, 3) := by decide +kernel
theorem d_Wc_countBest_100 : decode prog_10_method_2_code 100 = .ok (.lload_n 2, 1) := by decide +kernel
theorem d_Wc_countBest_101 : decode prog_10_method_2_code 101 = .ok (.aload_n 0, 1) := by decide +kernel
theorem d_Wc_countBest_102 : decode prog_10_method_2_code 102 = .ok (.getfield 9, 3) := by decide +kernel
theorem d_Wc_countBest_105 : decode prog_10_method_2_code 105 = .ok (.iconst 0, 1) := by decide +kernel
theorem d_Wc_countBest_106 : decode prog_10_method_2_code 106 = .ok (.iload 4, 2) := by decide +kernel
theorem d_Wc_countBest_108 : decode prog_10_method_2_code 108 = .ok (.iconst 1, 1) := by decide +kernel
theorem d_Wc_countBest_109 : decode prog_10_method_2_code 109 = .ok (.iand, 1) := by decide +kernel
theorem d_Wc_countBest_110 : decode prog_10_method_2_code 110 = .ok (.iload 5, 2) := by decide +kernel
theorem d_Wc_countBest_112 : decode prog_10_method_2_code 112 = .ok (.invokestatic 40, 3) := by decide +kernel
theorem d_Wc_countBest_115 : decode prog_10_method_2_code 115 = .ok (.laload, 1) := by decide +kernel
theorem d_Wc_countBest_116 : decode prog_10_method_2_code 116 = .ok (.ladd, 1) := by decide +kernel
theorem d_Wc_countBest_117 : decode prog_10_method_2_code 117 = .ok (.lstore_n 2, 1) := by decide +kernel
theorem d_Wc_countBest_118 : decode prog_10_method_2_code 118 = .ok (.iinc 5 (-1), 3) := by decide +kernel
theorem d_Wc_countBest_121 : decode prog_10_method_2_code 121 = .ok (.goto (-90), 3) := by decide +kernel
theorem d_Wc_countBest_124 : decode prog_10_method_2_code 124 = .ok (.iinc 4 (-1), 3) := by decide +kernel
theorem d_Wc_countBest_127 : decode prog_10_method_2_code 127 = .ok (.goto (-113), 3) := by decide +kernel
theorem d_Wc_countBest_130 : decode prog_10_method_2_code 130 = .ok (.lload_n 2, 1) := by decide +kernel
theorem d_Wc_countBest_131 : decode prog_10_method_2_code 131 = .ok (.ldc2_w 56, 3) := by decide +kernel
theorem d_Wc_countBest_134 : decode prog_10_method_2_code 134 = .ok (.land, 1) := by decide +kernel
theorem d_Wc_countBest_135 : decode prog_10_method_2_code 135 = .ok (.lreturn, 1) := by decide +kernel
theorem d_Wc_countFrom_0 : decode prog_10_method_3_code 0 = .ok (.aload_n 1, 1) := by decide +kernel
theorem d_Wc_countFrom_1 : decode prog_10_method_3_code 1 = .ok (.iload_n 2, 1) := by decide +kernel
theorem d_Wc_countFrom_2 : decode prog_10_method_3_code 2 = .ok (.invokevirtual 58, 3) := by decide +kernel
theorem d_Wc_countFrom_5 : decode prog_10_method_3_code 5 = .ok (.istore 5, 2) := by decide +kernel
theorem d_Wc_countFrom_7 : decode prog_10_method_3_code 7 = .ok (.aload_n 1, 1) := by decide +kernel
theorem d_Wc_countFrom_8 : decode prog_10_method_3_code 8 = .ok (.getfield 64, 3) := by decide +kernel
theorem d_Wc_countFrom_11 : decode prog_10_method_3_code 11 = .ok (.iload 5, 2) := by decide +kernel
theorem d_Wc_countFrom_13 : decode prog_10_method_3_code 13 = .ok (.if_icmp .ne 7, 3) := by decide +kernel
theorem d_Wc_countFrom_16 : decode prog_10_method_3_code 16 = .ok (.lconst 1, 1) := by decide +kernel
theorem d_Wc_countFrom_17 : decode prog_10_method_3_code 17 = .ok (.goto 4, 3) := by decide +kernel
theorem d_Wc_countFrom_20 : decode prog_10_method_3_code 20 = .ok (.lconst 0, 1) := by decide +kernel
theorem d_Wc_countFrom_21 : decode prog_10_method_3_code 21 = .ok (.lstore 6, 2) := by decide +kernel
theorem d_Wc_countFrom_23 : decode prog_10_method_3_code 23 = .ok (.iconst 0, 1) := by decide +kernel
theorem d_Wc_countFrom_24 : decode prog_10_method_3_code 24 = .ok (.istore 8, 2) := by decide +kernel
theorem d_Wc_countFrom_26 : decode prog_10_method_3_code 26 = .ok (.iload 8, 2) := by decide +kernel
theorem d_Wc_countFrom_28 : decode prog_10_method_3_code 28 = .ok (.iconst 3, 1) := by decide +kernel
theorem d_Wc_countFrom_29 : decode prog_10_method_3_code 29 = .ok (.if_icmp .ge 53, 3) := by decide +kernel
theorem d_Wc_countFrom_32 : decode prog_10_method_3_code 32 = .ok (.aload_n 1, 1) := by decide +kernel
theorem d_Wc_countFrom_33 : decode prog_10_method_3_code 33 = .ok (.iload_n 2, 1) := by decide +kernel
theorem d_Wc_countFrom_34 : decode prog_10_method_3_code 34 = .ok (.iload 8, 2) := by decide +kernel
theorem d_Wc_countFrom_36 : decode prog_10_method_3_code 36 = .ok (.invokevirtual 67, 3) := by decide +kernel
theorem d_Wc_countFrom_39 : decode prog_10_method_3_code 39 = .ok (.iload 5, 2) := by decide +kernel
theorem d_Wc_countFrom_41 : decode prog_10_method_3_code 41 = .ok (.if_icmp .ne 35, 3) := by decide +kernel
theorem d_Wc_countFrom_44 : decode prog_10_method_3_code 44 = .ok (.lload 6, 2) := by decide +kernel
theorem d_Wc_countFrom_46 : decode prog_10_method_3_code 46 = .ok (.aload_n 0, 1) := by decide +kernel
theorem d_Wc_countFrom_47 : decode prog_10_method_3_code 47 = .ok (.getfield 9, 3) := by decide +kernel
theorem d_Wc_countFrom_50 : decode prog_10_method_3_code 50 = .ok (.iload 8, 2) := by decide +kernel
theorem d_Wc_countFrom_52 : decode prog_10_method_3_code 52 = .ok (.iload_n 3, 1) := by decide +kernel
theorem d_Wc_countFrom_53 : decode prog_10_method_3_code 53 = .ok (.iload 8, 2) := by decide +kernel
theorem d_Wc_countFrom_55 : decode prog_10_method_3_code 55 = .ok (.invokestatic 71, 3) := by decide +kernel
theorem d_Wc_countFrom_58 : decode prog_10_method_3_code 58 = .ok (.iadd, 1) := by decide +kernel
theorem d_Wc_countFrom_59 : decode prog_10_method_3_code 59 = .ok (.iconst 1, 1) := by decide +kernel
theorem d_Wc_countFrom_60 : decode prog_10_method_3_code 60 = .ok (.iand, 1) := by decide +kernel
theorem d_Wc_countFrom_61 : decode prog_10_method_3_code 61 = .ok (.iload 4, 2) := by decide +kernel
theorem d_Wc_countFrom_63 : decode prog_10_method_3_code 63 = .ok (.iload 8, 2) := by decide +kernel
theorem d_Wc_countFrom_65 : decode prog_10_method_3_code 65 = .ok (.invokestatic 74, 3) := by decide +kernel
theorem d_Wc_countFrom_68 : decode prog_10_method_3_code 68 = .ok (.iadd, 1) := by decide +kernel
theorem d_Wc_countFrom_69 : decode prog_10_method_3_code 69 = .ok (.invokestatic 40, 3) := by decide +kernel
theorem d_Wc_countFrom_72 : decode prog_10_method_3_code 72 = .ok (.laload, 1) := by decide +kernel
theorem d_Wc_countFrom_73 : decode prog_10_method_3_code 73 = .ok (.ladd, 1) := by decide +kernel
theorem d_Wc_countFrom_74 : decode prog_10_method_3_code 74 = .ok (.lstore 6, 2) := by decide +kernel
theorem d_Wc_countFrom_76 : decode prog_10_method_3_code 76 = .ok (.iinc 8 1, 3) := by decide +kernel
theorem d_Wc_countFrom_79 : decode prog_10_method_3_code 79 = .ok (.goto (-53), 3) := by decide +kernel
theorem d_Wc_countFrom_82 : decode prog_10_method_3_code 82 = .ok (.lload 6, 2) := by decide +kernel
theorem d_Wc_countFrom_84 : decode prog_10_method_3_code 84 = .ok (.lreturn, 1) := by decide +kernel
theorem d_Se_canStartBestAt_0 : decode prog_9_method_9_code 0 = .ok (.aload_n 0, 1) := by decide +kernel
theorem d_Se_canStartBestAt_1 : decode prog_9_method_9_code 1 = .ok (.getfield 30, 3) := by decide +kernel
theorem d_Se_canStartBestAt_4 : decode prog_9_method_9_code 4 = .ok (.ifCond .eq 24, 3) := by decide +kernel
theorem d_Se_canStartBestAt_7 : decode prog_9_method_9_code 7 = .ok (.aload_n 0, 1) := by decide +kernel
theorem d_Se_canStartBestAt_8 : decode prog_9_method_9_code 8 = .ok (.iload_n 1, 1) := by decide +kernel
theorem d_Se_canStartBestAt_9 : decode prog_9_method_9_code 9 = .ok (.iload_n 2, 1) := by decide +kernel
theorem d_Se_canStartBestAt_10 : decode prog_9_method_9_code 10 = .ok (.invokevirtual 117, 3) := by decide +kernel
theorem d_Se_canStartBestAt_13 : decode prog_9_method_9_code 13 = .ok (.aload_n 0, 1) := by decide +kernel
theorem d_Se_canStartBestAt_14 : decode prog_9_method_9_code 14 = .ok (.getfield 120, 3) := by decide +kernel
theorem d_Se_canStartBestAt_17 : decode prog_9_method_9_code 17 = .ok (.if_icmp .ne 7, 3) := by decide +kernel
theorem d_Se_canStartBestAt_20 : decode prog_9_method_9_code 20 = .ok (.iconst 1, 1) := by decide +kernel
theorem d_Se_canStartBestAt_21 : decode prog_9_method_9_code 21 = .ok (.goto 20, 3) := by decide +kernel
theorem d_Se_canStartBestAt_24 : decode prog_9_method_9_code 24 = .ok (.iconst 0, 1) := by decide +kernel
theorem d_Se_canStartBestAt_25 : decode prog_9_method_9_code 25 = .ok (.goto 16, 3) := by decide +kernel
theorem d_Se_canStartBestAt_28 : decode prog_9_method_9_code 28 = .ok (.iload_n 1, 1) := by decide +kernel
theorem d_Se_canStartBestAt_29 : decode prog_9_method_9_code 29 = .ok (.ifCond .ne 11, 3) := by decide +kernel
theorem d_Se_canStartBestAt_32 : decode prog_9_method_9_code 32 = .ok (.iload_n 2, 1) := by decide +kernel
theorem d_Se_canStartBestAt_33 : decode prog_9_method_9_code 33 = .ok (.ifCond .ne 7, 3) := by decide +kernel
theorem d_Se_canStartBestAt_36 : decode prog_9_method_9_code 36 = .ok (.iconst 1, 1) := by decide +kernel
theorem d_Se_canStartBestAt_37 : decode prog_9_method_9_code 37 = .ok (.goto 4, 3) := by decide +kernel
theorem d_Se_canStartBestAt_40 : decode prog_9_method_9_code 40 = .ok (.iconst 0, 1) := by decide +kernel
theorem d_Se_canStartBestAt_41 : decode prog_9_method_9_code 41 = .ok (.ireturn, 1) := by decide +kernel
theorem d_Ra_crossing_0 : decode prog_1_method_18_code 0 = .ok (.aload_n 0, 1) := by decide +kernel
theorem d_Ra_crossing_1 : decode prog_1_method_18_code 1 = .ok (.invokevirtual 131, 3) := by decide +kernel
theorem d_Ra_crossing_4 : decode prog_1_method_18_code 4 = .ok (.iload_n 1, 1) := by decide +kernel
theorem d_Ra_crossing_5 : decode prog_1_method_18_code 5 = .ok (.ifCond .lt 17, 3) := by decide +kernel
theorem d_Ra_crossing_8 : decode prog_1_method_18_code 8 = .ok (.iload_n 1, 1) := by decide +kernel
theorem d_Ra_crossing_9 : decode prog_1_method_18_code 9 = .ok (.aload_n 0, 1) := by decide +kernel
theorem d_Ra_crossing_10 : decode prog_1_method_18_code 10 = .ok (.getfield 12, 3) := by decide +kernel
theorem d_Ra_crossing_13 : decode prog_1_method_18_code 13 = .ok (.getfield 184, 3) := by decide +kernel
theorem d_Ra_crossing_16 : decode prog_1_method_18_code 16 = .ok (.getfield 64, 3) := by decide +kernel
theorem d_Ra_crossing_19 : decode prog_1_method_18_code 19 = .ok (.if_icmp .le 11, 3) := by decide +kernel
theorem d_Ra_crossing_22 : decode prog_1_method_18_code 22 = .ok (.new 88, 3) := by decide +kernel
theorem d_Ra_crossing_25 : decode prog_1_method_18_code 25 = .ok (.dup, 1) := by decide +kernel
theorem d_Ra_crossing_26 : decode prog_1_method_18_code 26 = .ok (.invokespecial 90, 3) := by decide +kernel
theorem d_Ra_crossing_29 : decode prog_1_method_18_code 29 = .ok (.athrow, 1) := by decide +kernel
theorem d_Ra_crossing_30 : decode prog_1_method_18_code 30 = .ok (.aload_n 0, 1) := by decide +kernel
theorem d_Ra_crossing_31 : decode prog_1_method_18_code 31 = .ok (.getfield 21, 3) := by decide +kernel
theorem d_Ra_crossing_34 : decode prog_1_method_18_code 34 = .ok (.getfield 188, 3) := by decide +kernel
theorem d_Ra_crossing_37 : decode prog_1_method_18_code 37 = .ok (.ifCond .eq 5, 3) := by decide +kernel
theorem d_Ra_crossing_40 : decode prog_1_method_18_code 40 = .ok (.iconst (-1), 1) := by decide +kernel
theorem d_Ra_crossing_41 : decode prog_1_method_18_code 41 = .ok (.ireturn, 1) := by decide +kernel
theorem d_Ra_crossing_42 : decode prog_1_method_18_code 42 = .ok (.aload_n 0, 1) := by decide +kernel
theorem d_Ra_crossing_43 : decode prog_1_method_18_code 43 = .ok (.getfield 191, 3) := by decide +kernel
theorem d_Ra_crossing_46 : decode prog_1_method_18_code 46 = .ok (.ifCond .ne 19, 3) := by decide +kernel
theorem d_Ra_crossing_49 : decode prog_1_method_18_code 49 = .ok (.aload_n 0, 1) := by decide +kernel
theorem d_Ra_crossing_50 : decode prog_1_method_18_code 50 = .ok (.getfield 42, 3) := by decide +kernel
theorem d_Ra_crossing_53 : decode prog_1_method_18_code 53 = .ok (.aload_n 0, 1) := by decide +kernel
theorem d_Ra_crossing_54 : decode prog_1_method_18_code 54 = .ok (.getfield 21, 3) := by decide +kernel
theorem d_Ra_crossing_57 : decode prog_1_method_18_code 57 = .ok (.invokevirtual 194, 3) := by decide +kernel
theorem d_Ra_crossing_60 : decode prog_1_method_18_code 60 = .ok (.aload_n 0, 1) := by decide +kernel
theorem d_Ra_crossing_61 : decode prog_1_method_18_code 61 = .ok (.iconst 1, 1) := by decide +kernel
theorem d_Ra_crossing_62 : decode prog_1_method_18_code 62 = .ok (.putfield 191, 3) := by decide +kernel
theorem d_Ra_crossing_65 : decode prog_1_method_18_code 65 = .ok (.aload_n 0, 1) := by decide +kernel
theorem d_Ra_crossing_66 : decode prog_1_method_18_code 66 = .ok (.getfield 42, 3) := by decide +kernel
theorem d_Ra_crossing_69 : decode prog_1_method_18_code 69 = .ok (.getfield 198, 3) := by decide +kernel
theorem d_Ra_crossing_72 : decode prog_1_method_18_code 72 = .ok (.iload_n 1, 1) := by decide +kernel
theorem d_Ra_crossing_73 : decode prog_1_method_18_code 73 = .ok (.iaload, 1) := by decide +kernel
theorem d_Ra_crossing_74 : decode prog_1_method_18_code 74 = .ok (.ireturn, 1) := by decide +kernel
theorem d_Cf_findAll_0 : decode prog_2_method_2_code 0 = .ok (.aload_n 0, 1) := by decide +kernel
theorem d_Cf_findAll_1 : decode prog_2_method_2_code 1 = .ok (.iconst 0, 1) := by decide +kernel
theorem d_Cf_findAll_2 : decode prog_2_method_2_code 2 = .ok (.invokevirtual 19, 3) := by decide +kernel
theorem d_Cf_findAll_5 : decode prog_2_method_2_code 5 = .ok (.aload_n 0, 1) := by decide +kernel
theorem d_Cf_findAll_6 : decode prog_2_method_2_code 6 = .ok (.getfield 15, 3) := by decide +kernel
theorem d_Cf_findAll_9 : decode prog_2_method_2_code 9 = .ok (.iconst 0, 1) := by decide +kernel
theorem d_Cf_findAll_10 : decode prog_2_method_2_code 10 = .ok (.iconst 0, 1) := by decide +kernel
theorem d_Cf_findAll_11 : decode prog_2_method_2_code 11 = .ok (.iconst 0, 1) := by decide +kernel
theorem d_Cf_findAll_12 : decode prog_2_method_2_code 12 = .ok (.invokestatic 23, 3) := by decide +kernel
theorem d_Cf_findAll_15 : decode prog_2_method_2_code 15 = .ok (.iconst 1, 1) := by decide +kernel
theorem d_Cf_findAll_16 : decode prog_2_method_2_code 16 = .ok (.bastore, 1) := by decide +kernel
theorem d_Cf_findAll_17 : decode prog_2_method_2_code 17 = .ok (.iconst 0, 1) := by decide +kernel
theorem d_Cf_findAll_18 : decode prog_2_method_2_code 18 = .ok (.istore_n 2, 1) := by decide +kernel
theorem d_Cf_findAll_19 : decode prog_2_method_2_code 19 = .ok (.iload_n 2, 1) := by decide +kernel
theorem d_Cf_findAll_20 : decode prog_2_method_2_code 20 = .ok (.aload_n 1, 1) := by decide +kernel
theorem d_Cf_findAll_21 : decode prog_2_method_2_code 21 = .ok (.getfield 27, 3) := by decide +kernel
theorem d_Cf_findAll_24 : decode prog_2_method_2_code 24 = .ok (.getfield 33, 3) := by decide +kernel
theorem d_Cf_findAll_27 : decode prog_2_method_2_code 27 = .ok (.getfield 39, 3) := by decide +kernel
theorem d_Cf_findAll_30 : decode prog_2_method_2_code 30 = .ok (.if_icmp .gt 87, 3) := by decide +kernel
theorem d_Cf_findAll_33 : decode prog_2_method_2_code 33 = .ok (.aload_n 0, 1) := by decide +kernel
theorem d_Cf_findAll_34 : decode prog_2_method_2_code 34 = .ok (.iload_n 2, 1) := by decide +kernel
theorem d_Cf_findAll_35 : decode prog_2_method_2_code 35 = .ok (.iconst 1, 1) := by decide +kernel
theorem d_Cf_findAll_36 : decode prog_2_method_2_code 36 = .ok (.iadd, 1) := by decide +kernel
theorem d_Cf_findAll_37 : decode prog_2_method_2_code 37 = .ok (.invokevirtual 19, 3) := by decide +kernel
theorem d_Cf_findAll_40 : decode prog_2_method_2_code 40 = .ok (.aload_n 0, 1) := by decide +kernel
theorem d_Cf_findAll_41 : decode prog_2_method_2_code 41 = .ok (.getfield 9, 3) := by decide +kernel
theorem d_Cf_findAll_44 : decode prog_2_method_2_code 44 = .ok (.iload_n 2, 1) := by decide +kernel
theorem d_Cf_findAll_45 : decode prog_2_method_2_code 45 = .ok (.iconst (-1), 1) := by decide +kernel
theorem d_Cf_findAll_46 : decode prog_2_method_2_code 46 = .ok (.iastore, 1) := by decide +kernel
theorem d_Cf_findAll_47 : decode prog_2_method_2_code 47 = .ok (.iconst 0, 1) := by decide +kernel
theorem d_Cf_findAll_48 : decode prog_2_method_2_code 48 = .ok (.istore_n 3, 1) := by decide +kernel
theorem d_Cf_findAll_49 : decode prog_2_method_2_code 49 = .ok (.iload_n 3, 1) := by decide +kernel
theorem d_Cf_findAll_50 : decode prog_2_method_2_code 50 = .ok (.aload_n 1, 1) := by decide +kernel
theorem d_Cf_findAll_51 : decode prog_2_method_2_code 51 = .ok (.getfield 27, 3) := by decide +kernel
theorem d_Cf_findAll_54 : decode prog_2_method_2_code 54 = .ok (.getfield 45, 3) := by decide +kernel
theorem d_Cf_findAll_57 : decode prog_2_method_2_code 57 = .ok (.getfield 39, 3) := by decide +kernel
theorem d_Cf_findAll_60 : decode prog_2_method_2_code 60 = .ok (.if_icmp .gt 51, 3) := by decide +kernel
theorem d_Cf_findAll_63 : decode prog_2_method_2_code 63 = .ok (.aload_n 0, 1) := by decide +kernel
theorem d_Cf_findAll_64 : decode prog_2_method_2_code 64 = .ok (.iload_n 2, 1) := by decide +kernel
theorem d_Cf_findAll_65 : decode prog_2_method_2_code 65 = .ok (.iload_n 3, 1) := by decide +kernel
theorem d_Cf_findAll_66 : decode prog_2_method_2_code 66 = .ok (.invokevirtual 48, 3) := by decide +kernel
theorem d_Cf_findAll_69 : decode prog_2_method_2_code 69 = .ok (.ifCond .eq 36, 3) := by decide +kernel
theorem d_Cf_findAll_72 : decode prog_2_method_2_code 72 = .ok (.aload_n 0, 1) := by decide +kernel
theorem d_Cf_findAll_73 : decode prog_2_method_2_code 73 = .ok (.getfield 9, 3) := by decide +kernel
theorem d_Cf_findAll_76 : decode prog_2_method_2_code 76 = .ok (.iload_n 2, 1) := by decide +kernel
theorem d_Cf_findAll_77 : decode prog_2_method_2_code 77 = .ok (.aload_n 0, 1) := by decide +kernel
theorem d_Cf_findAll_78 : decode prog_2_method_2_code 78 = .ok (.getfield 9, 3) := by decide +kernel
theorem d_Cf_findAll_81 : decode prog_2_method_2_code 81 = .ok (.iload_n 2, 1) := by decide +kernel
theorem d_Cf_findAll_82 : decode prog_2_method_2_code 82 = .ok (.iaload, 1) := by decide +kernel
theorem d_Cf_findAll_83 : decode prog_2_method_2_code 83 = .ok (.iconst (-1), 1) := by decide +kernel
theorem d_Cf_findAll_84 : decode prog_2_method_2_code 84 = .ok (.if_icmp .ne 7, 3) := by decide +kernel
theorem d_Cf_findAll_87 : decode prog_2_method_2_code 87 = .ok (.iload_n 3, 1) := by decide +kernel
theorem d_Cf_findAll_88 : decode prog_2_method_2_code 88 = .ok (.goto 9, 3) := by decide +kernel
theorem d_Cf_findAll_91 : decode prog_2_method_2_code 91 = .ok (.aload_n 0, 1) := by decide +kernel
theorem d_Cf_findAll_92 : decode prog_2_method_2_code 92 = .ok (.getfield 9, 3) := by decide +kernel
theorem d_Cf_findAll_95 : decode prog_2_method_2_code 95 = .ok (.iload_n 2, 1) := by decide +kernel
theorem d_Cf_findAll_96 : decode prog_2_method_2_code 96 = .ok (.iaload, 1) := by decide +kernel
theorem d_Cf_findAll_97 : decode prog_2_method_2_code 97 = .ok (.iastore, 1) := by decide +kernel
theorem d_Cf_findAll_98 : decode prog_2_method_2_code 98 = .ok (.aload_n 0, 1) := by decide +kernel
theorem d_Cf_findAll_99 : decode prog_2_method_2_code 99 = .ok (.aload_n 1, 1) := by decide +kernel
theorem d_Cf_findAll_100 : decode prog_2_method_2_code 100 = .ok (.iload_n 2, 1) := by decide +kernel
theorem d_Cf_findAll_101 : decode prog_2_method_2_code 101 = .ok (.iload_n 3, 1) := by decide +kernel
theorem d_Cf_findAll_102 : decode prog_2_method_2_code 102 = .ok (.invokevirtual 52, 3) := by decide +kernel
theorem d_Cf_findAll_105 : decode prog_2_method_2_code 105 = .ok (.iinc 3 1, 3) := by decide +kernel
theorem d_Cf_findAll_108 : decode prog_2_method_2_code 108 = .ok (.goto (-59), 3) := by decide +kernel
theorem d_Cf_findAll_111 : decode prog_2_method_2_code 111 = .ok (.iinc 2 1, 3) := by decide +kernel
theorem d_Cf_findAll_114 : decode prog_2_method_2_code 114 = .ok (.goto (-95), 3) := by decide +kernel
theorem d_Cf_findAll_117 : decode prog_2_method_2_code 117 = .ok (.return_, 1) := by decide +kernel
theorem d_Cf_clearPlacesOf_0 : decode prog_2_method_3_code 0 = .ok (.iconst 0, 1) := by decide +kernel
theorem d_Cf_clearPlacesOf_1 : decode prog_2_method_3_code 1 = .ok (.iload_n 1, 1) := by decide +kernel
theorem d_Cf_clearPlacesOf_2 : decode prog_2_method_3_code 2 = .ok (.iconst 1, 1) := by decide +kernel
theorem d_Cf_clearPlacesOf_3 : decode prog_2_method_3_code 3 = .ok (.iand, 1) := by decide +kernel
theorem d_Cf_clearPlacesOf_4 : decode prog_2_method_3_code 4 = .ok (.iconst 0, 1) := by decide +kernel
theorem d_Cf_clearPlacesOf_5 : decode prog_2_method_3_code 5 = .ok (.invokestatic 23, 3) := by decide +kernel
theorem d_Cf_clearPlacesOf_8 : decode prog_2_method_3_code 8 = .ok (.istore_n 2, 1) := by decide +kernel
theorem d_Cf_clearPlacesOf_9 : decode prog_2_method_3_code 9 = .ok (.iload_n 2, 1) := by decide +kernel
theorem d_Cf_clearPlacesOf_10 : decode prog_2_method_3_code 10 = .ok (.istore_n 3, 1) := by decide +kernel
theorem d_Cf_clearPlacesOf_11 : decode prog_2_method_3_code 11 = .ok (.iload_n 3, 1) := by decide +kernel
theorem d_Cf_clearPlacesOf_12 : decode prog_2_method_3_code 12 = .ok (.iload_n 2, 1) := by decide +kernel
theorem d_Cf_clearPlacesOf_13 : decode prog_2_method_3_code 13 = .ok (.sipush 291, 3) := by decide +kernel
theorem d_Cf_clearPlacesOf_16 : decode prog_2_method_3_code 16 = .ok (.iadd, 1) := by decide +kernel
theorem d_Cf_clearPlacesOf_17 : decode prog_2_method_3_code 17 = .ok (.if_icmp .ge 16, 3) := by decide +kernel
theorem d_Cf_clearPlacesOf_20 : decode prog_2_method_3_code 20 = .ok (.aload_n 0, 1) := by decide +kernel
theorem d_Cf_clearPlacesOf_21 : decode prog_2_method_3_code 21 = .ok (.getfield 15, 3) := by decide +kernel
theorem d_Cf_clearPlacesOf_24 : decode prog_2_method_3_code 24 = .ok (.iload_n 3, 1) := by decide +kernel
theorem d_Cf_clearPlacesOf_25 : decode prog_2_method_3_code 25 = .ok (.iconst 0, 1) := by decide +kernel
theorem d_Cf_clearPlacesOf_26 : decode prog_2_method_3_code 26 = .ok (.bastore, 1) := by decide +kernel
theorem d_Cf_clearPlacesOf_27 : decode prog_2_method_3_code 27 = .ok (.iinc 3 1, 3) := by decide +kernel
theorem d_Cf_clearPlacesOf_30 : decode prog_2_method_3_code 30 = .ok (.goto (-19), 3) := by decide +kernel
theorem d_Cf_clearPlacesOf_33 : decode prog_2_method_3_code 33 = .ok (.return_, 1) := by decide +kernel
theorem d_Cf_isReached_0 : decode prog_2_method_4_code 0 = .ok (.aload_n 0, 1) := by decide +kernel
theorem d_Cf_isReached_1 : decode prog_2_method_4_code 1 = .ok (.getfield 15, 3) := by decide +kernel
theorem d_Cf_isReached_4 : decode prog_2_method_4_code 4 = .ok (.iconst 0, 1) := by decide +kernel
theorem d_Cf_isReached_5 : decode prog_2_method_4_code 5 = .ok (.iload_n 1, 1) := by decide +kernel
theorem d_Cf_isReached_6 : decode prog_2_method_4_code 6 = .ok (.iconst 1, 1) := by decide +kernel
theorem d_Cf_isReached_7 : decode prog_2_method_4_code 7 = .ok (.iand, 1) := by decide +kernel
theorem d_Cf_isReached_8 : decode prog_2_method_4_code 8 = .ok (.iload_n 2, 1) := by decide +kernel
theorem d_Cf_isReached_9 : decode prog_2_method_4_code 9 = .ok (.invokestatic 23, 3) := by decide +kernel
theorem d_Cf_isReached_12 : decode prog_2_method_4_code 12 = .ok (.baload, 1) := by decide +kernel
theorem d_Cf_isReached_13 : decode prog_2_method_4_code 13 = .ok (.ifCond .ne 35, 3) := by decide +kernel
theorem d_Cf_isReached_16 : decode prog_2_method_4_code 16 = .ok (.aload_n 0, 1) := by decide +kernel
theorem d_Cf_isReached_17 : decode prog_2_method_4_code 17 = .ok (.getfield 15, 3) := by decide +kernel
theorem d_Cf_isReached_20 : decode prog_2_method_4_code 20 = .ok (.iconst 1, 1) := by decide +kernel
theorem d_Cf_isReached_21 : decode prog_2_method_4_code 21 = .ok (.iload_n 1, 1) := by decide +kernel
theorem d_Cf_isReached_22 : decode prog_2_method_4_code 22 = .ok (.iconst 1, 1) := by decide +kernel
theorem d_Cf_isReached_23 : decode prog_2_method_4_code 23 = .ok (.iand, 1) := by decide +kernel
theorem d_Cf_isReached_24 : decode prog_2_method_4_code 24 = .ok (.iload_n 2, 1) := by decide +kernel
theorem d_Cf_isReached_25 : decode prog_2_method_4_code 25 = .ok (.invokestatic 23, 3) := by decide +kernel
theorem d_Cf_isReached_28 : decode prog_2_method_4_code 28 = .ok (.baload, 1) := by decide +kernel
theorem d_Cf_isReached_29 : decode prog_2_method_4_code 29 = .ok (.ifCond .ne 19, 3) := by decide +kernel
theorem d_Cf_isReached_32 : decode prog_2_method_4_code 32 = .ok (.aload_n 0, 1) := by decide +kernel
theorem d_Cf_isReached_33 : decode prog_2_method_4_code 33 = .ok (.getfield 15, 3) := by decide +kernel
theorem d_Cf_isReached_36 : decode prog_2_method_4_code 36 = .ok (.iconst 2, 1) := by decide +kernel
theorem d_Cf_isReached_37 : decode prog_2_method_4_code 37 = .ok (.iload_n 1, 1) := by decide +kernel
theorem d_Cf_isReached_38 : decode prog_2_method_4_code 38 = .ok (.iconst 1, 1) := by decide +kernel
theorem d_Cf_isReached_39 : decode prog_2_method_4_code 39 = .ok (.iand, 1) := by decide +kernel
theorem d_Cf_isReached_40 : decode prog_2_method_4_code 40 = .ok (.iload_n 2, 1) := by decide +kernel
theorem d_Cf_isReached_41 : decode prog_2_method_4_code 41 = .ok (.invokestatic 23, 3) := by decide +kernel
theorem d_Cf_isReached_44 : decode prog_2_method_4_code 44 = .ok (.baload, 1) := by decide +kernel
theorem d_Cf_isReached_45 : decode prog_2_method_4_code 45 = .ok (.ifCond .eq 7, 3) := by decide +kernel
theorem d_Cf_isReached_48 : decode prog_2_method_4_code 48 = .ok (.iconst 1, 1) := by decide +kernel
theorem d_Cf_isReached_49 : decode prog_2_method_4_code 49 = .ok (.goto 4, 3) := by decide +kernel
theorem d_Cf_isReached_52 : decode prog_2_method_4_code 52 = .ok (.iconst 0, 1) := by decide +kernel
theorem d_Cf_isReached_53 : decode prog_2_method_4_code 53 = .ok (.ireturn, 1) := by decide +kernel
theorem d_Cf_goOnFrom_0 : decode prog_2_method_5_code 0 = .ok (.aload_n 1, 1) := by decide +kernel
theorem d_Cf_goOnFrom_1 : decode prog_2_method_5_code 1 = .ok (.iload_n 2, 1) := by decide +kernel
theorem d_Cf_goOnFrom_2 : decode prog_2_method_5_code 2 = .ok (.iload_n 3, 1) := by decide +kernel
theorem d_Cf_goOnFrom_3 : decode prog_2_method_5_code 3 = .ok (.invokevirtual 56, 3) := by decide +kernel
theorem d_Cf_goOnFrom_6 : decode prog_2_method_5_code 6 = .ok (.iconst 0, 1) := by decide +kernel
theorem d_Cf_goOnFrom_7 : decode prog_2_method_5_code 7 = .ok (.istore 4, 2) := by decide +kernel
theorem d_Cf_goOnFrom_9 : decode prog_2_method_5_code 9 = .ok (.iload 4, 2) := by decide +kernel
theorem d_Cf_goOnFrom_11 : decode prog_2_method_5_code 11 = .ok (.iconst 3, 1) := by decide +kernel
theorem d_Cf_goOnFrom_12 : decode prog_2_method_5_code 12 = .ok (.if_icmp .ge 38, 3) := by decide +kernel
theorem d_Cf_goOnFrom_15 : decode prog_2_method_5_code 15 = .ok (.aload_n 0, 1) := by decide +kernel
theorem d_Cf_goOnFrom_16 : decode prog_2_method_5_code 16 = .ok (.getfield 15, 3) := by decide +kernel
theorem d_Cf_goOnFrom_19 : decode prog_2_method_5_code 19 = .ok (.iload 4, 2) := by decide +kernel
theorem d_Cf_goOnFrom_21 : decode prog_2_method_5_code 21 = .ok (.iload_n 2, 1) := by decide +kernel
theorem d_Cf_goOnFrom_22 : decode prog_2_method_5_code 22 = .ok (.iconst 1, 1) := by decide +kernel
theorem d_Cf_goOnFrom_23 : decode prog_2_method_5_code 23 = .ok (.iand, 1) := by decide +kernel
theorem d_Cf_goOnFrom_24 : decode prog_2_method_5_code 24 = .ok (.iload_n 3, 1) := by decide +kernel
theorem d_Cf_goOnFrom_25 : decode prog_2_method_5_code 25 = .ok (.invokestatic 23, 3) := by decide +kernel
theorem d_Cf_goOnFrom_28 : decode prog_2_method_5_code 28 = .ok (.baload, 1) := by decide +kernel
theorem d_Cf_goOnFrom_29 : decode prog_2_method_5_code 29 = .ok (.ifCond .eq 15, 3) := by decide +kernel
theorem d_Cf_goOnFrom_32 : decode prog_2_method_5_code 32 = .ok (.aload_n 0, 1) := by decide +kernel
theorem d_Cf_goOnFrom_33 : decode prog_2_method_5_code 33 = .ok (.aload_n 1, 1) := by decide +kernel
theorem d_Cf_goOnFrom_34 : decode prog_2_method_5_code 34 = .ok (.getfield 60, 3) := by decide +kernel
theorem d_Cf_goOnFrom_37 : decode prog_2_method_5_code 37 = .ok (.iload 4, 2) := by decide +kernel
theorem d_Cf_goOnFrom_39 : decode prog_2_method_5_code 39 = .ok (.iload_n 2, 1) := by decide +kernel
theorem d_Cf_goOnFrom_40 : decode prog_2_method_5_code 40 = .ok (.iload_n 3, 1) := by decide +kernel
theorem d_Cf_goOnFrom_41 : decode prog_2_method_5_code 41 = .ok (.invokevirtual 64, 3) := by decide +kernel
theorem d_Cf_goOnFrom_44 : decode prog_2_method_5_code 44 = .ok (.iinc 4 1, 3) := by decide +kernel
theorem d_Cf_goOnFrom_47 : decode prog_2_method_5_code 47 = .ok (.goto (-38), 3) := by decide +kernel
theorem d_Cf_goOnFrom_50 : decode prog_2_method_5_code 50 = .ok (.return_, 1) := by decide +kernel
theorem d_Cf_goOnBehind_0 : decode prog_2_method_6_code 0 = .ok (.aload_n 1, 1) := by decide +kernel
theorem d_Cf_goOnBehind_1 : decode prog_2_method_6_code 1 = .ok (.iload_n 2, 1) := by decide +kernel
theorem d_Cf_goOnBehind_2 : decode prog_2_method_6_code 2 = .ok (.invokevirtual 68, 3) := by decide +kernel
theorem d_Cf_goOnBehind_5 : decode prog_2_method_6_code 5 = .ok (.istore 5, 2) := by decide +kernel
theorem d_Cf_goOnBehind_7 : decode prog_2_method_6_code 7 = .ok (.iconst 0, 1) := by decide +kernel
theorem d_Cf_goOnBehind_8 : decode prog_2_method_6_code 8 = .ok (.istore 6, 2) := by decide +kernel
theorem d_Cf_goOnBehind_10 : decode prog_2_method_6_code 10 = .ok (.iload 6, 2) := by decide +kernel
theorem d_Cf_goOnBehind_12 : decode prog_2_method_6_code 12 = .ok (.iconst 3, 1) := by decide +kernel
theorem d_Cf_goOnBehind_13 : decode prog_2_method_6_code 13 = .ok (.if_icmp .ge 49, 3) := by decide +kernel
theorem d_Cf_goOnBehind_16 : decode prog_2_method_6_code 16 = .ok (.aload_n 1, 1) := by decide +kernel
theorem d_Cf_goOnBehind_17 : decode prog_2_method_6_code 17 = .ok (.iload_n 2, 1) := by decide +kernel
theorem d_Cf_goOnBehind_18 : decode prog_2_method_6_code 18 = .ok (.iload 6, 2) := by decide +kernel
theorem d_Cf_goOnBehind_20 : decode prog_2_method_6_code 20 = .ok (.invokevirtual 74, 3) := by decide +kernel
theorem d_Cf_goOnBehind_23 : decode prog_2_method_6_code 23 = .ok (.iload 5, 2) := by decide +kernel
theorem d_Cf_goOnBehind_25 : decode prog_2_method_6_code 25 = .ok (.if_icmp .ne 31, 3) := by decide +kernel
theorem d_Cf_goOnBehind_28 : decode prog_2_method_6_code 28 = .ok (.aload_n 0, 1) := by decide +kernel
theorem d_Cf_goOnBehind_29 : decode prog_2_method_6_code 29 = .ok (.getfield 15, 3) := by decide +kernel
theorem d_Cf_goOnBehind_32 : decode prog_2_method_6_code 32 = .ok (.iload 6, 2) := by decide +kernel
theorem d_Cf_goOnBehind_34 : decode prog_2_method_6_code 34 = .ok (.iload_n 3, 1) := by decide +kernel
theorem d_Cf_goOnBehind_35 : decode prog_2_method_6_code 35 = .ok (.iload 6, 2) := by decide +kernel
theorem d_Cf_goOnBehind_37 : decode prog_2_method_6_code 37 = .ok (.invokestatic 78, 3) := by decide +kernel
theorem d_Cf_goOnBehind_40 : decode prog_2_method_6_code 40 = .ok (.iadd, 1) := by decide +kernel
theorem d_Cf_goOnBehind_41 : decode prog_2_method_6_code 41 = .ok (.iconst 1, 1) := by decide +kernel
theorem d_Cf_goOnBehind_42 : decode prog_2_method_6_code 42 = .ok (.iand, 1) := by decide +kernel
theorem d_Cf_goOnBehind_43 : decode prog_2_method_6_code 43 = .ok (.iload 4, 2) := by decide +kernel
theorem d_Cf_goOnBehind_45 : decode prog_2_method_6_code 45 = .ok (.iload 6, 2) := by decide +kernel
theorem d_Cf_goOnBehind_47 : decode prog_2_method_6_code 47 = .ok (.invokestatic 81, 3) := by decide +kernel
theorem d_Cf_goOnBehind_50 : decode prog_2_method_6_code 50 = .ok (.iadd, 1) := by decide +kernel
theorem d_Cf_goOnBehind_51 : decode prog_2_method_6_code 51 = .ok (.invokestatic 23, 3) := by decide +kernel
theorem d_Cf_goOnBehind_54 : decode prog_2_method_6_code 54 = .ok (.iconst 1, 1) := by decide +kernel
theorem d_Cf_goOnBehind_55 : decode prog_2_method_6_code 55 = .ok (.bastore, 1) := by decide +kernel
theorem d_Cf_goOnBehind_56 : decode prog_2_method_6_code 56 = .ok (.iinc 6 1, 3) := by decide +kernel
theorem d_Cf_goOnBehind_59 : decode prog_2_method_6_code 59 = .ok (.goto (-49), 3) := by decide +kernel
theorem d_Cf_goOnBehind_62 : decode prog_2_method_6_code 62 = .ok (.return_, 1) := by decide +kernel
theorem d_Ra_draw_0 : decode prog_1_method_19_code 0 = .ok (.iload_n 1, 1) := by decide +kernel
theorem d_Ra_draw_1 : decode prog_1_method_19_code 1 = .ok (.ifCond .lt 8, 3) := by decide +kernel
theorem d_Ra_draw_4 : decode prog_1_method_19_code 4 = .ok (.iload_n 1, 1) := by decide +kernel
theorem d_Ra_draw_5 : decode prog_1_method_19_code 5 = .ok (.iconst 3, 1) := by decide +kernel
theorem d_Ra_draw_6 : decode prog_1_method_19_code 6 = .ok (.if_icmp .lt 11, 3) := by decide +kernel
theorem d_Ra_draw_9 : decode prog_1_method_19_code 9 = .ok (.new 61, 3) := by decide +kernel
theorem d_Ra_draw_12 : decode prog_1_method_19_code 12 = .ok (.dup, 1) := by decide +kernel
theorem d_Ra_draw_13 : decode prog_1_method_19_code 13 = .ok (.invokespecial 63, 3) := by decide +kernel
theorem d_Ra_draw_16 : decode prog_1_method_19_code 16 = .ok (.athrow, 1) := by decide +kernel
theorem d_Ra_draw_17 : decode prog_1_method_19_code 17 = .ok (.aload_n 0, 1) := by decide +kernel
theorem d_Ra_draw_18 : decode prog_1_method_19_code 18 = .ok (.getfield 49, 3) := by decide +kernel
theorem d_Ra_draw_21 : decode prog_1_method_19_code 21 = .ok (.getfield 201, 3) := by decide +kernel
theorem d_Ra_draw_24 : decode prog_1_method_19_code 24 = .ok (.sipush 200, 3) := by decide +kernel
theorem d_Ra_draw_27 : decode prog_1_method_19_code 27 = .ok (.if_icmp .lt 11, 3) := by decide +kernel
theorem d_Ra_draw_30 : decode prog_1_method_19_code 30 = .ok (.new 70, 3) := by decide +kernel
theorem d_Ra_draw_33 : decode prog_1_method_19_code 33 = .ok (.dup, 1) := by decide +kernel
theorem d_Ra_draw_34 : decode prog_1_method_19_code 34 = .ok (.invokespecial 72, 3) := by decide +kernel
theorem d_Ra_draw_37 : decode prog_1_method_19_code 37 = .ok (.athrow, 1) := by decide +kernel
theorem d_Ra_draw_38 : decode prog_1_method_19_code 38 = .ok (.aload_n 0, 1) := by decide +kernel
theorem d_Ra_draw_39 : decode prog_1_method_19_code 39 = .ok (.getfield 49, 3) := by decide +kernel
theorem d_Ra_draw_42 : decode prog_1_method_19_code 42 = .ok (.iload_n 1, 1) := by decide +kernel
theorem d_Ra_draw_43 : decode prog_1_method_19_code 43 = .ok (.invokevirtual 202, 3) := by decide +kernel
theorem d_Ra_draw_46 : decode prog_1_method_19_code 46 = .ok (.aload_n 0, 1) := by decide +kernel
theorem d_Ra_draw_47 : decode prog_1_method_19_code 47 = .ok (.getfield 49, 3) := by decide +kernel
theorem d_Ra_draw_50 : decode prog_1_method_19_code 50 = .ok (.getfield 201, 3) := by decide +kernel
theorem d_Ra_draw_53 : decode prog_1_method_19_code 53 = .ok (.ireturn, 1) := by decide +kernel
theorem d_Dr_append_0 : decode prog_3_method_2_code 0 = .ok (.aload_n 0, 1) := by decide +kernel
theorem d_Dr_append_1 : decode prog_3_method_2_code 1 = .ok (.getfield 9, 3) := by decide +kernel
theorem d_Dr_append_4 : decode prog_3_method_2_code 4 = .ok (.aload_n 0, 1) := by decide +kernel
theorem d_Dr_append_5 : decode prog_3_method_2_code 5 = .ok (.getfield 15, 3) := by decide +kernel
theorem d_Dr_append_8 : decode prog_3_method_2_code 8 = .ok (.iload_n 1, 1) := by decide +kernel
theorem d_Dr_append_9 : decode prog_3_method_2_code 9 = .ok (.iastore, 1) := by decide +kernel
theorem d_Dr_append_10 : decode prog_3_method_2_code 10 = .ok (.aload_n 0, 1) := by decide +kernel
theorem d_Dr_append_11 : decode prog_3_method_2_code 11 = .ok (.dup, 1) := by decide +kernel
theorem d_Dr_append_12 : decode prog_3_method_2_code 12 = .ok (.getfield 15, 3) := by decide +kernel
theorem d_Dr_append_15 : decode prog_3_method_2_code 15 = .ok (.iconst 1, 1) := by decide +kernel
theorem d_Dr_append_16 : decode prog_3_method_2_code 16 = .ok (.iadd, 1) := by decide +kernel
theorem d_Dr_append_17 : decode prog_3_method_2_code 17 = .ok (.putfield 15, 3) := by decide +kernel
theorem d_Dr_append_20 : decode prog_3_method_2_code 20 = .ok (.return_, 1) := by decide +kernel
theorem d_Ra_worth_0 : decode prog_1_method_21_code 0 = .ok (.iload_n 1, 1) := by decide +kernel
theorem d_Ra_worth_1 : decode prog_1_method_21_code 1 = .ok (.invokestatic 118, 3) := by decide +kernel
theorem d_Ra_worth_4 : decode prog_1_method_21_code 4 = .ok (.aload_n 0, 1) := by decide +kernel
theorem d_Ra_worth_5 : decode prog_1_method_21_code 5 = .ok (.getfield 49, 3) := by decide +kernel
theorem d_Ra_worth_8 : decode prog_1_method_21_code 8 = .ok (.aload_n 0, 1) := by decide +kernel
theorem d_Ra_worth_9 : decode prog_1_method_21_code 9 = .ok (.getfield 12, 3) := by decide +kernel
theorem d_Ra_worth_12 : decode prog_1_method_21_code 12 = .ok (.invokevirtual 203, 3) := by decide +kernel
theorem d_Ra_worth_15 : decode prog_1_method_21_code 15 = .ok (.ifCond .eq 18, 3) := by decide +kernel
theorem d_Ra_worth_18 : decode prog_1_method_21_code 18 = .ok (.aload_n 0, 1) := by decide +kernel
theorem d_Ra_worth_19 : decode prog_1_method_21_code 19 = .ok (.getfield 49, 3) := by decide +kernel
theorem d_Ra_worth_22 : decode prog_1_method_21_code 22 = .ok (.aload_n 0, 1) := by decide +kernel
theorem d_Ra_worth_23 : decode prog_1_method_21_code 23 = .ok (.getfield 12, 3) := by decide +kernel
theorem d_Ra_worth_26 : decode prog_1_method_21_code 26 = .ok (.iload_n 1, 1) := by decide +kernel
theorem d_Ra_worth_27 : decode prog_1_method_21_code 27 = .ok (.invokevirtual 207, 3) := by decide +kernel
theorem d_Ra_worth_30 : decode prog_1_method_21_code 30 = .ok (.goto 5, 3) := by decide +kernel
theorem d_Ra_worth_33 : decode prog_1_method_21_code 33 = .ok (.ldc 211, 2) := by decide +kernel
theorem d_Ra_worth_35 : decode prog_1_method_21_code 35 = .ok (.ireturn, 1) := by decide +kernel
theorem d_Dr_isWholeLaying_0 : decode prog_3_method_3_code 0 = .ok (.iconst 0, 1) := by decide +kernel
theorem d_Dr_isWholeLaying_1 : decode prog_3_method_3_code 1 = .ok (.istore_n 2, 1) := by decide +kernel
theorem d_Dr_isWholeLaying_2 : decode prog_3_method_3_code 2 = .ok (.iconst 0, 1) := by decide +kernel
theorem d_Dr_isWholeLaying_3 : decode prog_3_method_3_code 3 = .ok (.istore_n 3, 1) := by decide +kernel
theorem d_Dr_isWholeLaying_4 : decode prog_3_method_3_code 4 = .ok (.iconst 0, 1) := by decide +kernel
theorem d_Dr_isWholeLaying_5 : decode prog_3_method_3_code 5 = .ok (.istore 4, 2) := by decide +kernel
theorem d_Dr_isWholeLaying_7 : decode prog_3_method_3_code 7 = .ok (.iload 4, 2) := by decide +kernel
theorem d_Dr_isWholeLaying_9 : decode prog_3_method_3_code 9 = .ok (.aload_n 0, 1) := by decide +kernel
theorem d_Dr_isWholeLaying_10 : decode prog_3_method_3_code 10 = .ok (.getfield 15, 3) := by decide +kernel
theorem d_Dr_isWholeLaying_13 : decode prog_3_method_3_code 13 = .ok (.if_icmp .ge 35, 3) := by decide +kernel
theorem d_Dr_isWholeLaying_16 : decode prog_3_method_3_code 16 = .ok (.iload_n 2, 1) := by decide +kernel
theorem d_Dr_isWholeLaying_17 : decode prog_3_method_3_code 17 = .ok (.aload_n 0, 1) := by decide +kernel
theorem d_Dr_isWholeLaying_18 : decode prog_3_method_3_code 18 = .ok (.getfield 9, 3) := by decide +kernel
theorem d_Dr_isWholeLaying_21 : decode prog_3_method_3_code 21 = .ok (.iload 4, 2) := by decide +kernel
theorem d_Dr_isWholeLaying_23 : decode prog_3_method_3_code 23 = .ok (.iaload, 1) := by decide +kernel
theorem d_Dr_isWholeLaying_24 : decode prog_3_method_3_code 24 = .ok (.invokestatic 19, 3) := by decide +kernel
theorem d_Dr_isWholeLaying_27 : decode prog_3_method_3_code 27 = .ok (.iadd, 1) := by decide +kernel
theorem d_Dr_isWholeLaying_28 : decode prog_3_method_3_code 28 = .ok (.istore_n 2, 1) := by decide +kernel
theorem d_Dr_isWholeLaying_29 : decode prog_3_method_3_code 29 = .ok (.iload_n 3, 1) := by decide +kernel
theorem d_Dr_isWholeLaying_30 : decode prog_3_method_3_code 30 = .ok (.aload_n 0, 1) := by decide +kernel
theorem d_Dr_isWholeLaying_31 : decode prog_3_method_3_code 31 = .ok (.getfield 9, 3) := by decide +kernel
theorem d_Dr_isWholeLaying_34 : decode prog_3_method_3_code 34 = .ok (.iload 4, 2) := by decide +kernel
theorem d_Dr_isWholeLaying_36 : decode prog_3_method_3_code 36 = .ok (.iaload, 1) := by decide +kernel
theorem d_Dr_isWholeLaying_37 : decode prog_3_method_3_code 37 = .ok (.invokestatic 23, 3) := by decide +kernel
theorem d_Dr_isWholeLaying_40 : decode prog_3_method_3_code 40 = .ok (.iadd, 1) := by decide +kernel
theorem d_Dr_isWholeLaying_41 : decode prog_3_method_3_code 41 = .ok (.istore_n 3, 1) := by decide +kernel
theorem d_Dr_isWholeLaying_42 : decode prog_3_method_3_code 42 = .ok (.iinc 4 1, 3) := by decide +kernel
theorem d_Dr_isWholeLaying_45 : decode prog_3_method_3_code 45 = .ok (.goto (-38), 3) := by decide +kernel
theorem d_Dr_isWholeLaying_48 : decode prog_3_method_3_code 48 = .ok (.iload_n 2, 1) := by decide +kernel
theorem d_Dr_isWholeLaying_49 : decode prog_3_method_3_code 49 = .ok (.aload_n 1, 1) := by decide +kernel
theorem d_Dr_isWholeLaying_50 : decode prog_3_method_3_code 50 = .ok (.getfield 26, 3) := by decide +kernel
theorem d_Dr_isWholeLaying_53 : decode prog_3_method_3_code 53 = .ok (.getfield 32, 3) := by decide +kernel
theorem d_Dr_isWholeLaying_56 : decode prog_3_method_3_code 56 = .ok (.if_icmp .ne 18, 3) := by decide +kernel
theorem d_Dr_isWholeLaying_59 : decode prog_3_method_3_code 59 = .ok (.iload_n 3, 1) := by decide +kernel
theorem d_Dr_isWholeLaying_60 : decode prog_3_method_3_code 60 = .ok (.aload_n 1, 1) := by decide +kernel
theorem d_Dr_isWholeLaying_61 : decode prog_3_method_3_code 61 = .ok (.getfield 35, 3) := by decide +kernel
theorem d_Dr_isWholeLaying_64 : decode prog_3_method_3_code 64 = .ok (.getfield 32, 3) := by decide +kernel
theorem d_Dr_isWholeLaying_67 : decode prog_3_method_3_code 67 = .ok (.if_icmp .ne 7, 3) := by decide +kernel
theorem d_Dr_isWholeLaying_70 : decode prog_3_method_3_code 70 = .ok (.iconst 1, 1) := by decide +kernel
theorem d_Dr_isWholeLaying_71 : decode prog_3_method_3_code 71 = .ok (.goto 4, 3) := by decide +kernel
theorem d_Dr_isWholeLaying_74 : decode prog_3_method_3_code 74 = .ok (.iconst 0, 1) := by decide +kernel
theorem d_Dr_isWholeLaying_75 : decode prog_3_method_3_code 75 = .ok (.ireturn, 1) := by decide +kernel
theorem d_Dr_sumUp_0 : decode prog_3_method_4_code 0 = .ok (.iconst 0, 1) := by decide +kernel
theorem d_Dr_sumUp_1 : decode prog_3_method_4_code 1 = .ok (.istore_n 3, 1) := by decide +kernel
theorem d_Dr_sumUp_2 : decode prog_3_method_4_code 2 = .ok (.iconst 0, 1) := by decide +kernel
theorem d_Dr_sumUp_3 : decode prog_3_method_4_code 3 = .ok (.istore 4, 2) := by decide +kernel
theorem d_Dr_sumUp_5 : decode prog_3_method_4_code 5 = .ok (.iconst 0, 1) := by decide +kernel
theorem d_Dr_sumUp_6 : decode prog_3_method_4_code 6 = .ok (.istore 5, 2) := by decide +kernel
theorem d_Dr_sumUp_8 : decode prog_3_method_4_code 8 = .ok (.iconst 0, 1) := by decide +kernel
theorem d_Dr_sumUp_9 : decode prog_3_method_4_code 9 = .ok (.istore 6, 2) := by decide +kernel
theorem d_Dr_sumUp_11 : decode prog_3_method_4_code 11 = .ok (.iconst 0, 1) := by decide +kernel
theorem d_Dr_sumUp_12 : decode prog_3_method_4_code 12 = .ok (.istore 7, 2) := by decide +kernel
theorem d_Dr_sumUp_14 : decode prog_3_method_4_code 14 = .ok (.iload 7, 2) := by decide +kernel
theorem d_Dr_sumUp_16 : decode prog_3_method_4_code 16 = .ok (.aload_n 0, 1) := by decide +kernel
theorem d_Dr_sumUp_17 : decode prog_3_method_4_code 17 = .ok (.getfield 15, 3) := by decide +kernel
theorem d_Dr_sumUp_20 : decode prog_3_method_4_code 20 = .ok (.if_icmp .ge 119, 3) := by decide +kernel
theorem d_Dr_sumUp_23 : decode prog_3_method_4_code 23 = .ok (.aload_n 0, 1) := by decide +kernel
theorem d_Dr_sumUp_24 : decode prog_3_method_4_code 24 = .ok (.getfield 9, 3) := by decide +kernel
theorem d_Dr_sumUp_27 : decode prog_3_method_4_code 27 = .ok (.iload 7, 2) := by decide +kernel
theorem d_Dr_sumUp_29 : decode prog_3_method_4_code 29 = .ok (.iaload, 1) := by decide +kernel
theorem d_Dr_sumUp_30 : decode prog_3_method_4_code 30 = .ok (.istore 8, 2) := by decide +kernel
theorem d_Dr_sumUp_32 : decode prog_3_method_4_code 32 = .ok (.iload 8, 2) := by decide +kernel
theorem d_Dr_sumUp_34 : decode prog_3_method_4_code 34 = .ok (.ifCond .ne 17, 3) := by decide +kernel
theorem d_Dr_sumUp_37 : decode prog_3_method_4_code 37 = .ok (.iload_n 3, 1) := by decide +kernel
theorem d_Dr_sumUp_38 : decode prog_3_method_4_code 38 = .ok (.aload_n 1, 1) := by decide +kernel
theorem d_Dr_sumUp_39 : decode prog_3_method_4_code 39 = .ok (.iload 4, 2) := by decide +kernel
theorem d_Dr_sumUp_41 : decode prog_3_method_4_code 41 = .ok (.iload 5, 2) := by decide +kernel
theorem d_Dr_sumUp_43 : decode prog_3_method_4_code 43 = .ok (.invokevirtual 38, 3) := by decide +kernel
theorem d_Dr_sumUp_46 : decode prog_3_method_4_code 46 = .ok (.iadd, 1) := by decide +kernel
theorem d_Dr_sumUp_47 : decode prog_3_method_4_code 47 = .ok (.istore_n 3, 1) := by decide +kernel
theorem d_Dr_sumUp_48 : decode prog_3_method_4_code 48 = .ok (.goto 61, 3) := by decide +kernel
theorem d_Dr_sumUp_51 : decode prog_3_method_4_code 51 = .ok (.iload 8, 2) := by decide +kernel
theorem d_Dr_sumUp_53 : decode prog_3_method_4_code 53 = .ok (.iconst 1, 1) := by decide +kernel
theorem d_Dr_sumUp_54 : decode prog_3_method_4_code 54 = .ok (.if_icmp .ne 16, 3) := by decide +kernel
theorem d_Dr_sumUp_57 : decode prog_3_method_4_code 57 = .ok (.aload_n 1, 1) := by decide +kernel
theorem d_Dr_sumUp_58 : decode prog_3_method_4_code 58 = .ok (.iload 5, 2) := by decide +kernel
theorem d_Dr_sumUp_60 : decode prog_3_method_4_code 60 = .ok (.iload_n 2, 1) := by decide +kernel
theorem d_Dr_sumUp_61 : decode prog_3_method_4_code 61 = .ok (.invokevirtual 42, 3) := by decide +kernel
theorem d_Dr_sumUp_64 : decode prog_3_method_4_code 64 = .ok (.ifCond .ne 45, 3) := by decide +kernel
theorem d_Dr_sumUp_67 : decode prog_3_method_4_code 67 = .ok (.goto 13, 3) := by decide +kernel
theorem d_Dr_sumUp_70 : decode prog_3_method_4_code 70 = .ok (.aload_n 1, 1) := by decide +kernel
theorem d_Dr_sumUp_71 : decode prog_3_method_4_code 71 = .ok (.iload 4, 2) := by decide +kernel
theorem d_Dr_sumUp_73 : decode prog_3_method_4_code 73 = .ok (.iload_n 2, 1) := by decide +kernel
theorem d_Dr_sumUp_74 : decode prog_3_method_4_code 74 = .ok (.invokevirtual 46, 3) := by decide +kernel
theorem d_Dr_sumUp_77 : decode prog_3_method_4_code 77 = .ok (.ifCond .ne 32, 3) := by decide +kernel
theorem d_Dr_sumUp_80 : decode prog_3_method_4_code 80 = .ok (.iload_n 3, 1) := by decide +kernel
theorem d_Dr_sumUp_81 : decode prog_3_method_4_code 81 = .ok (.aload_n 1, 1) := by decide +kernel
theorem d_Dr_sumUp_82 : decode prog_3_method_4_code 82 = .ok (.getfield 49, 3) := by decide +kernel
theorem d_Dr_sumUp_85 : decode prog_3_method_4_code 85 = .ok (.getfield 53, 3) := by decide +kernel
theorem d_Dr_sumUp_88 : decode prog_3_method_4_code 88 = .ok (.iload 8, 2) := by decide +kernel
theorem d_Dr_sumUp_90 : decode prog_3_method_4_code 90 = .ok (.iload 6, 2) := by decide +kernel
theorem d_Dr_sumUp_92 : decode prog_3_method_4_code 92 = .ok (.if_icmp .ne 7, 3) := by decide +kernel
theorem d_Dr_sumUp_95 : decode prog_3_method_4_code 95 = .ok (.iconst 0, 1) := by decide +kernel
theorem d_Dr_sumUp_96 : decode prog_3_method_4_code 96 = .ok (.goto 10, 3) := by decide +kernel
theorem d_Dr_sumUp_99 : decode prog_3_method_4_code 99 = .ok (.aload_n 1, 1) := by decide +kernel
theorem d_Dr_sumUp_100 : decode prog_3_method_4_code 100 = .ok (.getfield 49, 3) := by decide +kernel
theorem d_Dr_sumUp_103 : decode prog_3_method_4_code 103 = .ok (.getfield 58, 3) := by decide +kernel
theorem d_Dr_sumUp_106 : decode prog_3_method_4_code 106 = .ok (.iadd, 1) := by decide +kernel
theorem d_Dr_sumUp_107 : decode prog_3_method_4_code 107 = .ok (.isub, 1) := by decide +kernel
theorem d_Dr_sumUp_108 : decode prog_3_method_4_code 108 = .ok (.istore_n 3, 1) := by decide +kernel
theorem d_Dr_sumUp_109 : decode prog_3_method_4_code 109 = .ok (.iload 4, 2) := by decide +kernel
theorem d_Dr_sumUp_111 : decode prog_3_method_4_code 111 = .ok (.iload 8, 2) := by decide +kernel
theorem d_Dr_sumUp_113 : decode prog_3_method_4_code 113 = .ok (.invokestatic 19, 3) := by decide +kernel
theorem d_Dr_sumUp_116 : decode prog_3_method_4_code 116 = .ok (.iadd, 1) := by decide +kernel
theorem d_Dr_sumUp_117 : decode prog_3_method_4_code 117 = .ok (.istore 4, 2) := by decide +kernel
theorem d_Dr_sumUp_119 : decode prog_3_method_4_code 119 = .ok (.iload 5, 2) := by decide +kernel
theorem d_Dr_sumUp_121 : decode prog_3_method_4_code 121 = .ok (.iload 8, 2) := by decide +kernel
theorem d_Dr_sumUp_123 : decode prog_3_method_4_code 123 = .ok (.invokestatic 23, 3) := by decide +kernel
theorem d_Dr_sumUp_126 : decode prog_3_method_4_code 126 = .ok (.iadd, 1) := by decide +kernel
theorem d_Dr_sumUp_127 : decode prog_3_method_4_code 127 = .ok (.istore 5, 2) := by decide +kernel
theorem d_Dr_sumUp_129 : decode prog_3_method_4_code 129 = .ok (.iload 8, 2) := by decide +kernel
theorem d_Dr_sumUp_131 : decode prog_3_method_4_code 131 = .ok (.istore 6, 2) := by decide +kernel
theorem d_Dr_sumUp_133 : decode prog_3_method_4_code 133 = .ok (.iinc 7 1, 3) := by decide +kernel
theorem d_Dr_sumUp_136 : decode prog_3_method_4_code 136 = .ok (.goto (-122), 3) := by decide +kernel
theorem d_Dr_sumUp_139 : decode prog_3_method_4_code 139 = .ok (.iload_n 3, 1) := by decide +kernel
theorem d_Dr_sumUp_140 : decode prog_3_method_4_code 140 = .ok (.ireturn, 1) := by decide +kernel
