theorem dHd_init_0 : decode cHd_init 0 = .ok (.aload_n 0, 1) := by decide +kernel
theorem dHd_init_1 : decode cHd_init 1 = .ok (.invokespecial 3, 3) := by decide +kernel
theorem dHd_init_4 : decode cHd_init 4 = .ok (.aload_n 0, 1) := by decide +kernel
theorem dHd_init_5 : decode cHd_init 5 = .ok (.iload_n 1, 1) := by decide +kernel
theorem dHd_init_6 : decode cHd_init 6 = .ok (.newarray .int, 2) := by decide +kernel
theorem dHd_init_8 : decode cHd_init 8 = .ok (.putfield 9, 3) := by decide +kernel
theorem dHd_init_11 : decode cHd_init 11 = .ok (.aload_n 0, 1) := by decide +kernel
theorem dHd_init_12 : decode cHd_init 12 = .ok (.iload_n 1, 1) := by decide +kernel
theorem dHd_init_13 : decode cHd_init 13 = .ok (.newarray .int, 2) := by decide +kernel
theorem dHd_init_15 : decode cHd_init 15 = .ok (.putfield 15, 3) := by decide +kernel
theorem dHd_init_18 : decode cHd_init 18 = .ok (.aload_n 0, 1) := by decide +kernel
theorem dHd_init_19 : decode cHd_init 19 = .ok (.iload_n 1, 1) := by decide +kernel
theorem dHd_init_20 : decode cHd_init 20 = .ok (.newarray .int, 2) := by decide +kernel
theorem dHd_init_22 : decode cHd_init 22 = .ok (.putfield 18, 3) := by decide +kernel
theorem dHd_init_25 : decode cHd_init 25 = .ok (.return_, 1) := by decide +kernel
theorem dPt_init_0 : decode cPt_init 0 = .ok (.aload_n 0, 1) := by decide +kernel
theorem dPt_init_1 : decode cPt_init 1 = .ok (.invokespecial 3, 3) := by decide +kernel
theorem dPt_init_4 : decode cPt_init 4 = .ok (.aload_n 0, 1) := by decide +kernel
theorem dPt_init_5 : decode cPt_init 5 = .ok (.bipush 14, 2) := by decide +kernel
theorem dPt_init_7 : decode cPt_init 7 = .ok (.newarray .int, 2) := by decide +kernel
theorem dPt_init_9 : decode cPt_init 9 = .ok (.putfield 9, 3) := by decide +kernel
theorem dPt_init_12 : decode cPt_init 12 = .ok (.aload_n 0, 1) := by decide +kernel
theorem dPt_init_13 : decode cPt_init 13 = .ok (.bipush 14, 2) := by decide +kernel
theorem dPt_init_15 : decode cPt_init 15 = .ok (.newarray .int, 2) := by decide +kernel
theorem dPt_init_17 : decode cPt_init 17 = .ok (.putfield 15, 3) := by decide +kernel
theorem dPt_init_20 : decode cPt_init 20 = .ok (.aload_n 0, 1) := by decide +kernel
theorem dPt_init_21 : decode cPt_init 21 = .ok (.bipush 14, 2) := by decide +kernel
theorem dPt_init_23 : decode cPt_init 23 = .ok (.newarray .int, 2) := by decide +kernel
theorem dPt_init_25 : decode cPt_init 25 = .ok (.putfield 18, 3) := by decide +kernel
theorem dPt_init_28 : decode cPt_init 28 = .ok (.aload_n 0, 1) := by decide +kernel
theorem dPt_init_29 : decode cPt_init 29 = .ok (.bipush 14, 2) := by decide +kernel
theorem dPt_init_31 : decode cPt_init 31 = .ok (.newarray .int, 2) := by decide +kernel
theorem dPt_init_33 : decode cPt_init 33 = .ok (.putfield 21, 3) := by decide +kernel
theorem dPt_init_36 : decode cPt_init 36 = .ok (.aload_n 0, 1) := by decide +kernel
theorem dPt_init_37 : decode cPt_init 37 = .ok (.bipush 14, 2) := by decide +kernel
theorem dPt_init_39 : decode cPt_init 39 = .ok (.newarray .int, 2) := by decide +kernel
theorem dPt_init_41 : decode cPt_init 41 = .ok (.putfield 24, 3) := by decide +kernel
theorem dPt_init_44 : decode cPt_init 44 = .ok (.aload_n 0, 1) := by decide +kernel
theorem dPt_init_45 : decode cPt_init 45 = .ok (.bipush 14, 2) := by decide +kernel
theorem dPt_init_47 : decode cPt_init 47 = .ok (.newarray .boolean, 2) := by decide +kernel
theorem dPt_init_49 : decode cPt_init 49 = .ok (.putfield 27, 3) := by decide +kernel
theorem dPt_init_52 : decode cPt_init 52 = .ok (.return_, 1) := by decide +kernel
theorem dCl_init_0 : decode cCl_init 0 = .ok (.aload_n 0, 1) := by decide +kernel
theorem dCl_init_1 : decode cCl_init 1 = .ok (.invokespecial 3, 3) := by decide +kernel
theorem dCl_init_4 : decode cCl_init 4 = .ok (.aload_n 0, 1) := by decide +kernel
theorem dCl_init_5 : decode cCl_init 5 = .ok (.bipush 6, 2) := by decide +kernel
theorem dCl_init_7 : decode cCl_init 7 = .ok (.newarray .int, 2) := by decide +kernel
theorem dCl_init_9 : decode cCl_init 9 = .ok (.putfield 9, 3) := by decide +kernel
theorem dCl_init_12 : decode cCl_init 12 = .ok (.aload_n 0, 1) := by decide +kernel
theorem dCl_init_13 : decode cCl_init 13 = .ok (.bipush 6, 2) := by decide +kernel
theorem dCl_init_15 : decode cCl_init 15 = .ok (.newarray .int, 2) := by decide +kernel
theorem dCl_init_17 : decode cCl_init 17 = .ok (.putfield 15, 3) := by decide +kernel
theorem dCl_init_20 : decode cCl_init 20 = .ok (.aload_n 0, 1) := by decide +kernel
theorem dCl_init_21 : decode cCl_init 21 = .ok (.bipush 6, 2) := by decide +kernel
theorem dCl_init_23 : decode cCl_init 23 = .ok (.newarray .int, 2) := by decide +kernel
theorem dCl_init_25 : decode cCl_init 25 = .ok (.putfield 18, 3) := by decide +kernel
theorem dCl_init_28 : decode cCl_init 28 = .ok (.aload_n 0, 1) := by decide +kernel
theorem dCl_init_29 : decode cCl_init 29 = .ok (.bipush 6, 2) := by decide +kernel
theorem dCl_init_31 : decode cCl_init 31 = .ok (.newarray .int, 2) := by decide +kernel
theorem dCl_init_33 : decode cCl_init 33 = .ok (.putfield 21, 3) := by decide +kernel
theorem dCl_init_36 : decode cCl_init 36 = .ok (.return_, 1) := by decide +kernel
theorem dPl_init_0 : decode cPl_init 0 = .ok (.aload_n 0, 1) := by decide +kernel
theorem dPl_init_1 : decode cPl_init 1 = .ok (.invokespecial 3, 3) := by decide +kernel
theorem dPl_init_4 : decode cPl_init 4 = .ok (.aload_n 0, 1) := by decide +kernel
theorem dPl_init_5 : decode cPl_init 5 = .ok (.bipush 16, 2) := by decide +kernel
theorem dPl_init_7 : decode cPl_init 7 = .ok (.newarray .int, 2) := by decide +kernel
theorem dPl_init_9 : decode cPl_init 9 = .ok (.putfield 9, 3) := by decide +kernel
theorem dPl_init_12 : decode cPl_init 12 = .ok (.aload_n 0, 1) := by decide +kernel
theorem dPl_init_13 : decode cPl_init 13 = .ok (.bipush 16, 2) := by decide +kernel
theorem dPl_init_15 : decode cPl_init 15 = .ok (.newarray .int, 2) := by decide +kernel
theorem dPl_init_17 : decode cPl_init 17 = .ok (.putfield 15, 3) := by decide +kernel
theorem dPl_init_20 : decode cPl_init 20 = .ok (.aload_n 0, 1) := by decide +kernel
theorem dPl_init_21 : decode cPl_init 21 = .ok (.bipush 16, 2) := by decide +kernel
theorem dPl_init_23 : decode cPl_init 23 = .ok (.newarray .int, 2) := by decide +kernel
theorem dPl_init_25 : decode cPl_init 25 = .ok (.putfield 18, 3) := by decide +kernel
theorem dPl_init_28 : decode cPl_init 28 = .ok (.return_, 1) := by decide +kernel
theorem dHt_init_0 : decode cHt_init 0 = .ok (.aload_n 0, 1) := by decide +kernel
theorem dHt_init_1 : decode cHt_init 1 = .ok (.invokespecial 3, 3) := by decide +kernel
theorem dHt_init_4 : decode cHt_init 4 = .ok (.aload_n 0, 1) := by decide +kernel
theorem dHt_init_5 : decode cHt_init 5 = .ok (.bipush 14, 2) := by decide +kernel
theorem dHt_init_7 : decode cHt_init 7 = .ok (.newarray .int, 2) := by decide +kernel
theorem dHt_init_9 : decode cHt_init 9 = .ok (.putfield 9, 3) := by decide +kernel
theorem dHt_init_12 : decode cHt_init 12 = .ok (.aload_n 0, 1) := by decide +kernel
theorem dHt_init_13 : decode cHt_init 13 = .ok (.bipush 14, 2) := by decide +kernel
theorem dHt_init_15 : decode cHt_init 15 = .ok (.newarray .int, 2) := by decide +kernel
theorem dHt_init_17 : decode cHt_init 17 = .ok (.putfield 15, 3) := by decide +kernel
theorem dHt_init_20 : decode cHt_init 20 = .ok (.aload_n 0, 1) := by decide +kernel
theorem dHt_init_21 : decode cHt_init 21 = .ok (.bipush 14, 2) := by decide +kernel
theorem dHt_init_23 : decode cHt_init 23 = .ok (.newarray .int, 2) := by decide +kernel
theorem dHt_init_25 : decode cHt_init 25 = .ok (.putfield 18, 3) := by decide +kernel
theorem dHt_init_28 : decode cHt_init 28 = .ok (.aload_n 0, 1) := by decide +kernel
theorem dHt_init_29 : decode cHt_init 29 = .ok (.bipush 14, 2) := by decide +kernel
theorem dHt_init_31 : decode cHt_init 31 = .ok (.newarray .int, 2) := by decide +kernel
theorem dHt_init_33 : decode cHt_init 33 = .ok (.putfield 21, 3) := by decide +kernel
theorem dHt_init_36 : decode cHt_init 36 = .ok (.return_, 1) := by decide +kernel
theorem dTb_init_0 : decode cTb_init 0 = .ok (.aload_n 0, 1) := by decide +kernel
theorem dTb_init_1 : decode cTb_init 1 = .ok (.invokespecial 3, 3) := by decide +kernel
theorem dTb_init_4 : decode cTb_init 4 = .ok (.aload_n 0, 1) := by decide +kernel
theorem dTb_init_5 : decode cTb_init 5 = .ok (.iconst 1, 1) := by decide +kernel
theorem dTb_init_6 : decode cTb_init 6 = .ok (.newarray .int, 2) := by decide +kernel
theorem dTb_init_8 : decode cTb_init 8 = .ok (.putfield 9, 3) := by decide +kernel
theorem dTb_init_11 : decode cTb_init 11 = .ok (.return_, 1) := by decide +kernel
theorem dWy_init_0 : decode cWy_init 0 = .ok (.aload_n 0, 1) := by decide +kernel
theorem dWy_init_1 : decode cWy_init 1 = .ok (.invokespecial 3, 3) := by decide +kernel
theorem dWy_init_4 : decode cWy_init 4 = .ok (.aload_n 0, 1) := by decide +kernel
theorem dWy_init_5 : decode cWy_init 5 = .ok (.bipush 14, 2) := by decide +kernel
theorem dWy_init_7 : decode cWy_init 7 = .ok (.newarray .int, 2) := by decide +kernel
theorem dWy_init_9 : decode cWy_init 9 = .ok (.putfield 9, 3) := by decide +kernel
theorem dWy_init_12 : decode cWy_init 12 = .ok (.aload_n 0, 1) := by decide +kernel
theorem dWy_init_13 : decode cWy_init 13 = .ok (.iconst 0, 1) := by decide +kernel
theorem dWy_init_14 : decode cWy_init 14 = .ok (.newarray .int, 2) := by decide +kernel
theorem dWy_init_16 : decode cWy_init 16 = .ok (.putfield 15, 3) := by decide +kernel
theorem dWy_init_19 : decode cWy_init 19 = .ok (.return_, 1) := by decide +kernel
theorem dPl_find_0 : decode cPl_find 0 = .ok (.aload_n 0, 1) := by decide +kernel
theorem dPl_find_1 : decode cPl_find 1 = .ok (.iconst 0, 1) := by decide +kernel
theorem dPl_find_2 : decode cPl_find 2 = .ok (.putfield 21, 3) := by decide +kernel
theorem dPl_find_5 : decode cPl_find 5 = .ok (.iconst 0, 1) := by decide +kernel
theorem dPl_find_6 : decode cPl_find 6 = .ok (.istore 5, 2) := by decide +kernel
theorem dPl_find_8 : decode cPl_find 8 = .ok (.iload 5, 2) := by decide +kernel
theorem dPl_find_10 : decode cPl_find 10 = .ok (.aload_n 3, 1) := by decide +kernel
theorem dPl_find_11 : decode cPl_find 11 = .ok (.getfield 25, 3) := by decide +kernel
theorem dPl_find_14 : decode cPl_find 14 = .ok (.arraylength, 1) := by decide +kernel
theorem dPl_find_15 : decode cPl_find 15 = .ok (.if_icmp .ge 78, 3) := by decide +kernel
theorem dPl_find_18 : decode cPl_find 18 = .ok (.aload_n 3, 1) := by decide +kernel
theorem dPl_find_19 : decode cPl_find 19 = .ok (.getfield 25, 3) := by decide +kernel
theorem dPl_find_22 : decode cPl_find 22 = .ok (.iload 5, 2) := by decide +kernel
theorem dPl_find_24 : decode cPl_find 24 = .ok (.iaload, 1) := by decide +kernel
theorem dPl_find_25 : decode cPl_find 25 = .ok (.aload_n 2, 1) := by decide +kernel
theorem dPl_find_26 : decode cPl_find 26 = .ok (.getfield 30, 3) := by decide +kernel
theorem dPl_find_29 : decode cPl_find 29 = .ok (.iload_n 1, 1) := by decide +kernel
theorem dPl_find_30 : decode cPl_find 30 = .ok (.iaload, 1) := by decide +kernel
theorem dPl_find_31 : decode cPl_find 31 = .ok (.if_icmp .ne 56, 3) := by decide +kernel
theorem dPl_find_34 : decode cPl_find 34 = .ok (.aload_n 2, 1) := by decide +kernel
theorem dPl_find_35 : decode cPl_find 35 = .ok (.getfield 33, 3) := by decide +kernel
theorem dPl_find_38 : decode cPl_find 38 = .ok (.iload_n 1, 1) := by decide +kernel
theorem dPl_find_39 : decode cPl_find 39 = .ok (.iaload, 1) := by decide +kernel
theorem dPl_find_40 : decode cPl_find 40 = .ok (.aload_n 3, 1) := by decide +kernel
theorem dPl_find_41 : decode cPl_find 41 = .ok (.getfield 34, 3) := by decide +kernel
theorem dPl_find_44 : decode cPl_find 44 = .ok (.iload 5, 2) := by decide +kernel
theorem dPl_find_46 : decode cPl_find 46 = .ok (.iaload, 1) := by decide +kernel
theorem dPl_find_47 : decode cPl_find 47 = .ok (.isub, 1) := by decide +kernel
theorem dPl_find_48 : decode cPl_find 48 = .ok (.istore 6, 2) := by decide +kernel
theorem dPl_find_50 : decode cPl_find 50 = .ok (.aload_n 2, 1) := by decide +kernel
theorem dPl_find_51 : decode cPl_find 51 = .ok (.getfield 35, 3) := by decide +kernel
theorem dPl_find_54 : decode cPl_find 54 = .ok (.iload_n 1, 1) := by decide +kernel
theorem dPl_find_55 : decode cPl_find 55 = .ok (.iaload, 1) := by decide +kernel
theorem dPl_find_56 : decode cPl_find 56 = .ok (.aload_n 3, 1) := by decide +kernel
theorem dPl_find_57 : decode cPl_find 57 = .ok (.getfield 36, 3) := by decide +kernel
theorem dPl_find_60 : decode cPl_find 60 = .ok (.iload 5, 2) := by decide +kernel
theorem dPl_find_62 : decode cPl_find 62 = .ok (.iaload, 1) := by decide +kernel
theorem dPl_find_63 : decode cPl_find 63 = .ok (.isub, 1) := by decide +kernel
theorem dPl_find_64 : decode cPl_find 64 = .ok (.istore 7, 2) := by decide +kernel
theorem dPl_find_66 : decode cPl_find 66 = .ok (.aload 4, 2) := by decide +kernel
theorem dPl_find_68 : decode cPl_find 68 = .ok (.aload_n 3, 1) := by decide +kernel
theorem dPl_find_69 : decode cPl_find 69 = .ok (.iload 6, 2) := by decide +kernel
theorem dPl_find_71 : decode cPl_find 71 = .ok (.iload 7, 2) := by decide +kernel
theorem dPl_find_73 : decode cPl_find 73 = .ok (.invokevirtual 37, 3) := by decide +kernel
theorem dPl_find_76 : decode cPl_find 76 = .ok (.ifCond .ne 11, 3) := by decide +kernel
theorem dPl_find_79 : decode cPl_find 79 = .ok (.aload_n 0, 1) := by decide +kernel
theorem dPl_find_80 : decode cPl_find 80 = .ok (.iload 6, 2) := by decide +kernel
theorem dPl_find_82 : decode cPl_find 82 = .ok (.iload 7, 2) := by decide +kernel
theorem dPl_find_84 : decode cPl_find 84 = .ok (.invokevirtual 43, 3) := by decide +kernel
theorem dPl_find_87 : decode cPl_find 87 = .ok (.iinc 5 1, 3) := by decide +kernel
theorem dPl_find_90 : decode cPl_find 90 = .ok (.goto (-82), 3) := by decide +kernel
theorem dPl_find_93 : decode cPl_find 93 = .ok (.return_, 1) := by decide +kernel
theorem dCl_bar_0 : decode cCl_bar 0 = .ok (.iconst 0, 1) := by decide +kernel
theorem dCl_bar_1 : decode cCl_bar 1 = .ok (.istore 4, 2) := by decide +kernel
theorem dCl_bar_3 : decode cCl_bar 3 = .ok (.iload 4, 2) := by decide +kernel
theorem dCl_bar_5 : decode cCl_bar 5 = .ok (.aload_n 0, 1) := by decide +kernel
theorem dCl_bar_6 : decode cCl_bar 6 = .ok (.getfield 24, 3) := by decide +kernel
theorem dCl_bar_9 : decode cCl_bar 9 = .ok (.if_icmp .ge 75, 3) := by decide +kernel
theorem dCl_bar_12 : decode cCl_bar 12 = .ok (.aload_n 0, 1) := by decide +kernel
theorem dCl_bar_13 : decode cCl_bar 13 = .ok (.getfield 9, 3) := by decide +kernel
theorem dCl_bar_16 : decode cCl_bar 16 = .ok (.iload 4, 2) := by decide +kernel
theorem dCl_bar_18 : decode cCl_bar 18 = .ok (.iaload, 1) := by decide +kernel
theorem dCl_bar_19 : decode cCl_bar 19 = .ok (.aload_n 0, 1) := by decide +kernel
theorem dCl_bar_20 : decode cCl_bar 20 = .ok (.getfield 18, 3) := by decide +kernel
theorem dCl_bar_23 : decode cCl_bar 23 = .ok (.iload 4, 2) := by decide +kernel
theorem dCl_bar_25 : decode cCl_bar 25 = .ok (.iaload, 1) := by decide +kernel
theorem dCl_bar_26 : decode cCl_bar 26 = .ok (.iload_n 2, 1) := by decide +kernel
theorem dCl_bar_27 : decode cCl_bar 27 = .ok (.aload_n 1, 1) := by decide +kernel
theorem dCl_bar_28 : decode cCl_bar 28 = .ok (.getfield 28, 3) := by decide +kernel
theorem dCl_bar_31 : decode cCl_bar 31 = .ok (.iadd, 1) := by decide +kernel
theorem dCl_bar_32 : decode cCl_bar 32 = .ok (.iload_n 2, 1) := by decide +kernel
theorem dCl_bar_33 : decode cCl_bar 33 = .ok (.aload_n 1, 1) := by decide +kernel
theorem dCl_bar_34 : decode cCl_bar 34 = .ok (.getfield 33, 3) := by decide +kernel
theorem dCl_bar_37 : decode cCl_bar 37 = .ok (.iadd, 1) := by decide +kernel
theorem dCl_bar_38 : decode cCl_bar 38 = .ok (.invokestatic 36, 3) := by decide +kernel
theorem dCl_bar_41 : decode cCl_bar 41 = .ok (.ifCond .eq 37, 3) := by decide +kernel
theorem dCl_bar_44 : decode cCl_bar 44 = .ok (.aload_n 0, 1) := by decide +kernel
theorem dCl_bar_45 : decode cCl_bar 45 = .ok (.getfield 15, 3) := by decide +kernel
theorem dCl_bar_48 : decode cCl_bar 48 = .ok (.iload 4, 2) := by decide +kernel
theorem dCl_bar_50 : decode cCl_bar 50 = .ok (.iaload, 1) := by decide +kernel
theorem dCl_bar_51 : decode cCl_bar 51 = .ok (.aload_n 0, 1) := by decide +kernel
theorem dCl_bar_52 : decode cCl_bar 52 = .ok (.getfield 21, 3) := by decide +kernel
theorem dCl_bar_55 : decode cCl_bar 55 = .ok (.iload 4, 2) := by decide +kernel
theorem dCl_bar_57 : decode cCl_bar 57 = .ok (.iaload, 1) := by decide +kernel
theorem dCl_bar_58 : decode cCl_bar 58 = .ok (.iload_n 3, 1) := by decide +kernel
theorem dCl_bar_59 : decode cCl_bar 59 = .ok (.aload_n 1, 1) := by decide +kernel
theorem dCl_bar_60 : decode cCl_bar 60 = .ok (.getfield 40, 3) := by decide +kernel
theorem dCl_bar_63 : decode cCl_bar 63 = .ok (.iadd, 1) := by decide +kernel
theorem dCl_bar_64 : decode cCl_bar 64 = .ok (.iload_n 3, 1) := by decide +kernel
theorem dCl_bar_65 : decode cCl_bar 65 = .ok (.aload_n 1, 1) := by decide +kernel
theorem dCl_bar_66 : decode cCl_bar 66 = .ok (.getfield 43, 3) := by decide +kernel
theorem dCl_bar_69 : decode cCl_bar 69 = .ok (.iadd, 1) := by decide +kernel
theorem dCl_bar_70 : decode cCl_bar 70 = .ok (.invokestatic 36, 3) := by decide +kernel
theorem dCl_bar_73 : decode cCl_bar 73 = .ok (.ifCond .eq 5, 3) := by decide +kernel
theorem dCl_bar_76 : decode cCl_bar 76 = .ok (.iconst 1, 1) := by decide +kernel
theorem dCl_bar_77 : decode cCl_bar 77 = .ok (.ireturn, 1) := by decide +kernel
theorem dCl_bar_78 : decode cCl_bar 78 = .ok (.iinc 4 1, 3) := by decide +kernel
theorem dCl_bar_81 : decode cCl_bar 81 = .ok (.goto (-78), 3) := by decide +kernel
theorem dCl_bar_84 : decode cCl_bar 84 = .ok (.iconst 0, 1) := by decide +kernel
theorem dCl_bar_85 : decode cCl_bar 85 = .ok (.ireturn, 1) := by decide +kernel
theorem dCl_overlap_0 : decode cCl_overlap 0 = .ok (.iload_n 0, 1) := by decide +kernel
theorem dCl_overlap_1 : decode cCl_overlap 1 = .ok (.iload_n 2, 1) := by decide +kernel
theorem dCl_overlap_2 : decode cCl_overlap 2 = .ok (.invokestatic 46, 3) := by decide +kernel
theorem dCl_overlap_5 : decode cCl_overlap 5 = .ok (.iload_n 1, 1) := by decide +kernel
theorem dCl_overlap_6 : decode cCl_overlap 6 = .ok (.iload_n 3, 1) := by decide +kernel
theorem dCl_overlap_7 : decode cCl_overlap 7 = .ok (.invokestatic 52, 3) := by decide +kernel
theorem dCl_overlap_10 : decode cCl_overlap 10 = .ok (.if_icmp .ge 7, 3) := by decide +kernel
theorem dCl_overlap_13 : decode cCl_overlap 13 = .ok (.iconst 1, 1) := by decide +kernel
theorem dCl_overlap_14 : decode cCl_overlap 14 = .ok (.goto 4, 3) := by decide +kernel
theorem dCl_overlap_17 : decode cCl_overlap 17 = .ok (.iconst 0, 1) := by decide +kernel
theorem dCl_overlap_18 : decode cCl_overlap 18 = .ok (.ireturn, 1) := by decide +kernel
theorem dPl_insert_0 : decode cPl_insert 0 = .ok (.iconst 0, 1) := by decide +kernel
theorem dPl_insert_1 : decode cPl_insert 1 = .ok (.istore_n 3, 1) := by decide +kernel
theorem dPl_insert_2 : decode cPl_insert 2 = .ok (.iload_n 3, 1) := by decide +kernel
theorem dPl_insert_3 : decode cPl_insert 3 = .ok (.aload_n 0, 1) := by decide +kernel
theorem dPl_insert_4 : decode cPl_insert 4 = .ok (.getfield 21, 3) := by decide +kernel
theorem dPl_insert_7 : decode cPl_insert 7 = .ok (.if_icmp .ge 39, 3) := by decide +kernel
theorem dPl_insert_10 : decode cPl_insert 10 = .ok (.aload_n 0, 1) := by decide +kernel
theorem dPl_insert_11 : decode cPl_insert 11 = .ok (.getfield 9, 3) := by decide +kernel
theorem dPl_insert_14 : decode cPl_insert 14 = .ok (.iload_n 3, 1) := by decide +kernel
theorem dPl_insert_15 : decode cPl_insert 15 = .ok (.iaload, 1) := by decide +kernel
theorem dPl_insert_16 : decode cPl_insert 16 = .ok (.iload_n 1, 1) := by decide +kernel
theorem dPl_insert_17 : decode cPl_insert 17 = .ok (.if_icmp .lt 23, 3) := by decide +kernel
theorem dPl_insert_20 : decode cPl_insert 20 = .ok (.aload_n 0, 1) := by decide +kernel
theorem dPl_insert_21 : decode cPl_insert 21 = .ok (.getfield 9, 3) := by decide +kernel
theorem dPl_insert_24 : decode cPl_insert 24 = .ok (.iload_n 3, 1) := by decide +kernel
theorem dPl_insert_25 : decode cPl_insert 25 = .ok (.iaload, 1) := by decide +kernel
theorem dPl_insert_26 : decode cPl_insert 26 = .ok (.iload_n 1, 1) := by decide +kernel
theorem dPl_insert_27 : decode cPl_insert 27 = .ok (.if_icmp .ne 19, 3) := by decide +kernel
theorem dPl_insert_30 : decode cPl_insert 30 = .ok (.aload_n 0, 1) := by decide +kernel
theorem dPl_insert_31 : decode cPl_insert 31 = .ok (.getfield 15, 3) := by decide +kernel
theorem dPl_insert_34 : decode cPl_insert 34 = .ok (.iload_n 3, 1) := by decide +kernel
theorem dPl_insert_35 : decode cPl_insert 35 = .ok (.iaload, 1) := by decide +kernel
theorem dPl_insert_36 : decode cPl_insert 36 = .ok (.iload_n 2, 1) := by decide +kernel
theorem dPl_insert_37 : decode cPl_insert 37 = .ok (.if_icmp .ge 9, 3) := by decide +kernel
theorem dPl_insert_40 : decode cPl_insert 40 = .ok (.iinc 3 1, 3) := by decide +kernel
theorem dPl_insert_43 : decode cPl_insert 43 = .ok (.goto (-41), 3) := by decide +kernel
theorem dPl_insert_46 : decode cPl_insert 46 = .ok (.iload_n 3, 1) := by decide +kernel
theorem dPl_insert_47 : decode cPl_insert 47 = .ok (.aload_n 0, 1) := by decide +kernel
theorem dPl_insert_48 : decode cPl_insert 48 = .ok (.getfield 21, 3) := by decide +kernel
theorem dPl_insert_51 : decode cPl_insert 51 = .ok (.if_icmp .ge 27, 3) := by decide +kernel
theorem dPl_insert_54 : decode cPl_insert 54 = .ok (.aload_n 0, 1) := by decide +kernel
theorem dPl_insert_55 : decode cPl_insert 55 = .ok (.getfield 9, 3) := by decide +kernel
theorem dPl_insert_58 : decode cPl_insert 58 = .ok (.iload_n 3, 1) := by decide +kernel
theorem dPl_insert_59 : decode cPl_insert 59 = .ok (.iaload, 1) := by decide +kernel
theorem dPl_insert_60 : decode cPl_insert 60 = .ok (.iload_n 1, 1) := by decide +kernel
theorem dPl_insert_61 : decode cPl_insert 61 = .ok (.if_icmp .ne 17, 3) := by decide +kernel
theorem dPl_insert_64 : decode cPl_insert 64 = .ok (.aload_n 0, 1) := by decide +kernel
theorem dPl_insert_65 : decode cPl_insert 65 = .ok (.getfield 15, 3) := by decide +kernel
theorem dPl_insert_68 : decode cPl_insert 68 = .ok (.iload_n 3, 1) := by decide +kernel
theorem dPl_insert_69 : decode cPl_insert 69 = .ok (.iaload, 1) := by decide +kernel
theorem dPl_insert_70 : decode cPl_insert 70 = .ok (.iload_n 2, 1) := by decide +kernel
theorem dPl_insert_71 : decode cPl_insert 71 = .ok (.if_icmp .ne 7, 3) := by decide +kernel
theorem dPl_insert_74 : decode cPl_insert 74 = .ok (.iconst 1, 1) := by decide +kernel
theorem dPl_insert_75 : decode cPl_insert 75 = .ok (.goto 4, 3) := by decide +kernel
theorem dPl_insert_78 : decode cPl_insert 78 = .ok (.iconst 0, 1) := by decide +kernel
theorem dPl_insert_79 : decode cPl_insert 79 = .ok (.istore 4, 2) := by decide +kernel
theorem dPl_insert_81 : decode cPl_insert 81 = .ok (.iload 4, 2) := by decide +kernel
theorem dPl_insert_83 : decode cPl_insert 83 = .ok (.ifCond .ne 12, 3) := by decide +kernel
theorem dPl_insert_86 : decode cPl_insert 86 = .ok (.aload_n 0, 1) := by decide +kernel
theorem dPl_insert_87 : decode cPl_insert 87 = .ok (.getfield 21, 3) := by decide +kernel
theorem dPl_insert_90 : decode cPl_insert 90 = .ok (.bipush 16, 2) := by decide +kernel
theorem dPl_insert_92 : decode cPl_insert 92 = .ok (.if_icmp .lt 4, 3) := by decide +kernel
theorem dPl_insert_95 : decode cPl_insert 95 = .ok (.return_, 1) := by decide +kernel
theorem dPl_insert_96 : decode cPl_insert 96 = .ok (.aload_n 0, 1) := by decide +kernel
theorem dPl_insert_97 : decode cPl_insert 97 = .ok (.getfield 21, 3) := by decide +kernel
theorem dPl_insert_100 : decode cPl_insert 100 = .ok (.istore 5, 2) := by decide +kernel
theorem dPl_insert_102 : decode cPl_insert 102 = .ok (.iload 5, 2) := by decide +kernel
theorem dPl_insert_104 : decode cPl_insert 104 = .ok (.iload_n 3, 1) := by decide +kernel
theorem dPl_insert_105 : decode cPl_insert 105 = .ok (.if_icmp .le 41, 3) := by decide +kernel
theorem dPl_insert_108 : decode cPl_insert 108 = .ok (.aload_n 0, 1) := by decide +kernel
theorem dPl_insert_109 : decode cPl_insert 109 = .ok (.getfield 9, 3) := by decide +kernel
theorem dPl_insert_112 : decode cPl_insert 112 = .ok (.iload 5, 2) := by decide +kernel
theorem dPl_insert_114 : decode cPl_insert 114 = .ok (.aload_n 0, 1) := by decide +kernel
theorem dPl_insert_115 : decode cPl_insert 115 = .ok (.getfield 9, 3) := by decide +kernel
theorem dPl_insert_118 : decode cPl_insert 118 = .ok (.iload 5, 2) := by decide +kernel
theorem dPl_insert_120 : decode cPl_insert 120 = .ok (.iconst 1, 1) := by decide +kernel
theorem dPl_insert_121 : decode cPl_insert 121 = .ok (.isub, 1) := by decide +kernel
theorem dPl_insert_122 : decode cPl_insert 122 = .ok (.iaload, 1) := by decide +kernel
theorem dPl_insert_123 : decode cPl_insert 123 = .ok (.iastore, 1) := by decide +kernel
theorem dPl_insert_124 : decode cPl_insert 124 = .ok (.aload_n 0, 1) := by decide +kernel
theorem dPl_insert_125 : decode cPl_insert 125 = .ok (.getfield 15, 3) := by decide +kernel
theorem dPl_insert_128 : decode cPl_insert 128 = .ok (.iload 5, 2) := by decide +kernel
theorem dPl_insert_130 : decode cPl_insert 130 = .ok (.aload_n 0, 1) := by decide +kernel
theorem dPl_insert_131 : decode cPl_insert 131 = .ok (.getfield 15, 3) := by decide +kernel
theorem dPl_insert_134 : decode cPl_insert 134 = .ok (.iload 5, 2) := by decide +kernel
theorem dPl_insert_136 : decode cPl_insert 136 = .ok (.iconst 1, 1) := by decide +kernel
theorem dPl_insert_137 : decode cPl_insert 137 = .ok (.isub, 1) := by decide +kernel
theorem dPl_insert_138 : decode cPl_insert 138 = .ok (.iaload, 1) := by decide +kernel
theorem dPl_insert_139 : decode cPl_insert 139 = .ok (.iastore, 1) := by decide +kernel
theorem dPl_insert_140 : decode cPl_insert 140 = .ok (.iinc 5 (-1), 3) := by decide +kernel
theorem dPl_insert_143 : decode cPl_insert 143 = .ok (.goto (-41), 3) := by decide +kernel
theorem dPl_insert_146 : decode cPl_insert 146 = .ok (.aload_n 0, 1) := by decide +kernel
theorem dPl_insert_147 : decode cPl_insert 147 = .ok (.getfield 9, 3) := by decide +kernel
theorem dPl_insert_150 : decode cPl_insert 150 = .ok (.iload_n 3, 1) := by decide +kernel
theorem dPl_insert_151 : decode cPl_insert 151 = .ok (.iload_n 1, 1) := by decide +kernel
theorem dPl_insert_152 : decode cPl_insert 152 = .ok (.iastore, 1) := by decide +kernel
theorem dPl_insert_153 : decode cPl_insert 153 = .ok (.aload_n 0, 1) := by decide +kernel
theorem dPl_insert_154 : decode cPl_insert 154 = .ok (.getfield 15, 3) := by decide +kernel
theorem dPl_insert_157 : decode cPl_insert 157 = .ok (.iload_n 3, 1) := by decide +kernel
theorem dPl_insert_158 : decode cPl_insert 158 = .ok (.iload_n 2, 1) := by decide +kernel
theorem dPl_insert_159 : decode cPl_insert 159 = .ok (.iastore, 1) := by decide +kernel
theorem dPl_insert_160 : decode cPl_insert 160 = .ok (.aload_n 0, 1) := by decide +kernel
theorem dPl_insert_161 : decode cPl_insert 161 = .ok (.dup, 1) := by decide +kernel
theorem dPl_insert_162 : decode cPl_insert 162 = .ok (.getfield 21, 3) := by decide +kernel
theorem dPl_insert_165 : decode cPl_insert 165 = .ok (.iconst 1, 1) := by decide +kernel
theorem dPl_insert_166 : decode cPl_insert 166 = .ok (.iadd, 1) := by decide +kernel
theorem dPl_insert_167 : decode cPl_insert 167 = .ok (.putfield 21, 3) := by decide +kernel
theorem dPl_insert_170 : decode cPl_insert 170 = .ok (.return_, 1) := by decide +kernel
theorem dPl_findDrilled_0 : decode cPl_findDrilled 0 = .ok (.iconst 0, 1) := by decide +kernel
theorem dPl_findDrilled_1 : decode cPl_findDrilled 1 = .ok (.istore 4, 2) := by decide +kernel
theorem dPl_findDrilled_3 : decode cPl_findDrilled 3 = .ok (.iload 4, 2) := by decide +kernel
theorem dPl_findDrilled_5 : decode cPl_findDrilled 5 = .ok (.aload_n 0, 1) := by decide +kernel
theorem dPl_findDrilled_6 : decode cPl_findDrilled 6 = .ok (.getfield 21, 3) := by decide +kernel
theorem dPl_findDrilled_9 : decode cPl_findDrilled 9 = .ok (.if_icmp .ge 84, 3) := by decide +kernel
theorem dPl_findDrilled_12 : decode cPl_findDrilled 12 = .ok (.aload_n 0, 1) := by decide +kernel
theorem dPl_findDrilled_13 : decode cPl_findDrilled 13 = .ok (.getfield 18, 3) := by decide +kernel
theorem dPl_findDrilled_16 : decode cPl_findDrilled 16 = .ok (.iload 4, 2) := by decide +kernel
theorem dPl_findDrilled_18 : decode cPl_findDrilled 18 = .ok (.iconst 0, 1) := by decide +kernel
theorem dPl_findDrilled_19 : decode cPl_findDrilled 19 = .ok (.iastore, 1) := by decide +kernel
theorem dPl_findDrilled_20 : decode cPl_findDrilled 20 = .ok (.iload_n 1, 1) := by decide +kernel
theorem dPl_findDrilled_21 : decode cPl_findDrilled 21 = .ok (.istore 5, 2) := by decide +kernel
theorem dPl_findDrilled_23 : decode cPl_findDrilled 23 = .ok (.iload 5, 2) := by decide +kernel
theorem dPl_findDrilled_25 : decode cPl_findDrilled 25 = .ok (.aload_n 2, 1) := by decide +kernel
theorem dPl_findDrilled_26 : decode cPl_findDrilled 26 = .ok (.getfield 47, 3) := by decide +kernel
theorem dPl_findDrilled_29 : decode cPl_findDrilled 29 = .ok (.if_icmp .ge 58, 3) := by decide +kernel
theorem dPl_findDrilled_32 : decode cPl_findDrilled 32 = .ok (.aload_n 2, 1) := by decide +kernel
theorem dPl_findDrilled_33 : decode cPl_findDrilled 33 = .ok (.iload_n 1, 1) := by decide +kernel
theorem dPl_findDrilled_34 : decode cPl_findDrilled 34 = .ok (.iload 5, 2) := by decide +kernel
theorem dPl_findDrilled_36 : decode cPl_findDrilled 36 = .ok (.invokevirtual 48, 3) := by decide +kernel
theorem dPl_findDrilled_39 : decode cPl_findDrilled 39 = .ok (.ifCond .eq 42, 3) := by decide +kernel
theorem dPl_findDrilled_42 : decode cPl_findDrilled 42 = .ok (.aload_n 2, 1) := by decide +kernel
theorem dPl_findDrilled_43 : decode cPl_findDrilled 43 = .ok (.iload 5, 2) := by decide +kernel
theorem dPl_findDrilled_45 : decode cPl_findDrilled 45 = .ok (.aload_n 3, 1) := by decide +kernel
theorem dPl_findDrilled_46 : decode cPl_findDrilled 46 = .ok (.aload_n 0, 1) := by decide +kernel
theorem dPl_findDrilled_47 : decode cPl_findDrilled 47 = .ok (.getfield 9, 3) := by decide +kernel
theorem dPl_findDrilled_50 : decode cPl_findDrilled 50 = .ok (.iload 4, 2) := by decide +kernel
theorem dPl_findDrilled_52 : decode cPl_findDrilled 52 = .ok (.iaload, 1) := by decide +kernel
theorem dPl_findDrilled_53 : decode cPl_findDrilled 53 = .ok (.aload_n 0, 1) := by decide +kernel
theorem dPl_findDrilled_54 : decode cPl_findDrilled 54 = .ok (.getfield 15, 3) := by decide +kernel
theorem dPl_findDrilled_57 : decode cPl_findDrilled 57 = .ok (.iload 4, 2) := by decide +kernel
theorem dPl_findDrilled_59 : decode cPl_findDrilled 59 = .ok (.iaload, 1) := by decide +kernel
theorem dPl_findDrilled_60 : decode cPl_findDrilled 60 = .ok (.invokevirtual 52, 3) := by decide +kernel
theorem dPl_findDrilled_63 : decode cPl_findDrilled 63 = .ok (.iconst (-1), 1) := by decide +kernel
theorem dPl_findDrilled_64 : decode cPl_findDrilled 64 = .ok (.if_icmp .eq 17, 3) := by decide +kernel
theorem dPl_findDrilled_67 : decode cPl_findDrilled 67 = .ok (.aload_n 0, 1) := by decide +kernel
theorem dPl_findDrilled_68 : decode cPl_findDrilled 68 = .ok (.getfield 18, 3) := by decide +kernel
theorem dPl_findDrilled_71 : decode cPl_findDrilled 71 = .ok (.iload 4, 2) := by decide +kernel
theorem dPl_findDrilled_73 : decode cPl_findDrilled 73 = .ok (.dup2, 1) := by decide +kernel
theorem dPl_findDrilled_74 : decode cPl_findDrilled 74 = .ok (.iaload, 1) := by decide +kernel
theorem dPl_findDrilled_75 : decode cPl_findDrilled 75 = .ok (.iconst 1, 1) := by decide +kernel
theorem dPl_findDrilled_76 : decode cPl_findDrilled 76 = .ok (.iload 5, 2) := by decide +kernel
theorem dPl_findDrilled_78 : decode cPl_findDrilled 78 = .ok (.ishl, 1) := by decide +kernel
theorem dPl_findDrilled_79 : decode cPl_findDrilled 79 = .ok (.ior, 1) := by decide +kernel
theorem dPl_findDrilled_80 : decode cPl_findDrilled 80 = .ok (.iastore, 1) := by decide +kernel
theorem dPl_findDrilled_81 : decode cPl_findDrilled 81 = .ok (.iinc 5 1, 3) := by decide +kernel
theorem dPl_findDrilled_84 : decode cPl_findDrilled 84 = .ok (.goto (-61), 3) := by decide +kernel
theorem dPl_findDrilled_87 : decode cPl_findDrilled 87 = .ok (.iinc 4 1, 3) := by decide +kernel
theorem dPl_findDrilled_90 : decode cPl_findDrilled 90 = .ok (.goto (-87), 3) := by decide +kernel
theorem dPl_findDrilled_93 : decode cPl_findDrilled 93 = .ok (.return_, 1) := by decide +kernel
theorem dPt_alike_0 : decode cPt_alike 0 = .ok (.aload_n 0, 1) := by decide +kernel
theorem dPt_alike_1 : decode cPt_alike 1 = .ok (.getfield 24, 3) := by decide +kernel
theorem dPt_alike_4 : decode cPt_alike 4 = .ok (.iload_n 1, 1) := by decide +kernel
theorem dPt_alike_5 : decode cPt_alike 5 = .ok (.iaload, 1) := by decide +kernel
theorem dPt_alike_6 : decode cPt_alike 6 = .ok (.aload_n 0, 1) := by decide +kernel
theorem dPt_alike_7 : decode cPt_alike 7 = .ok (.getfield 24, 3) := by decide +kernel
theorem dPt_alike_10 : decode cPt_alike 10 = .ok (.iload_n 2, 1) := by decide +kernel
theorem dPt_alike_11 : decode cPt_alike 11 = .ok (.iaload, 1) := by decide +kernel
theorem dPt_alike_12 : decode cPt_alike 12 = .ok (.if_icmp .ne 18, 3) := by decide +kernel
theorem dPt_alike_15 : decode cPt_alike 15 = .ok (.aload_n 0, 1) := by decide +kernel
theorem dPt_alike_16 : decode cPt_alike 16 = .ok (.getfield 27, 3) := by decide +kernel
theorem dPt_alike_19 : decode cPt_alike 19 = .ok (.iload_n 1, 1) := by decide +kernel
theorem dPt_alike_20 : decode cPt_alike 20 = .ok (.baload, 1) := by decide +kernel
theorem dPt_alike_21 : decode cPt_alike 21 = .ok (.aload_n 0, 1) := by decide +kernel
theorem dPt_alike_22 : decode cPt_alike 22 = .ok (.getfield 27, 3) := by decide +kernel
theorem dPt_alike_25 : decode cPt_alike 25 = .ok (.iload_n 2, 1) := by decide +kernel
theorem dPt_alike_26 : decode cPt_alike 26 = .ok (.baload, 1) := by decide +kernel
theorem dPt_alike_27 : decode cPt_alike 27 = .ok (.if_icmp .eq 5, 3) := by decide +kernel
theorem dPt_alike_30 : decode cPt_alike 30 = .ok (.iconst 0, 1) := by decide +kernel
theorem dPt_alike_31 : decode cPt_alike 31 = .ok (.ireturn, 1) := by decide +kernel
theorem dPt_alike_32 : decode cPt_alike 32 = .ok (.aload_n 0, 1) := by decide +kernel
theorem dPt_alike_33 : decode cPt_alike 33 = .ok (.getfield 27, 3) := by decide +kernel
theorem dPt_alike_36 : decode cPt_alike 36 = .ok (.iload_n 1, 1) := by decide +kernel
theorem dPt_alike_37 : decode cPt_alike 37 = .ok (.baload, 1) := by decide +kernel
theorem dPt_alike_38 : decode cPt_alike 38 = .ok (.ifCond .ne 18, 3) := by decide +kernel
theorem dPt_alike_41 : decode cPt_alike 41 = .ok (.aload_n 0, 1) := by decide +kernel
theorem dPt_alike_42 : decode cPt_alike 42 = .ok (.getfield 21, 3) := by decide +kernel
theorem dPt_alike_45 : decode cPt_alike 45 = .ok (.iload_n 1, 1) := by decide +kernel
theorem dPt_alike_46 : decode cPt_alike 46 = .ok (.iaload, 1) := by decide +kernel
theorem dPt_alike_47 : decode cPt_alike 47 = .ok (.aload_n 0, 1) := by decide +kernel
theorem dPt_alike_48 : decode cPt_alike 48 = .ok (.getfield 21, 3) := by decide +kernel
theorem dPt_alike_51 : decode cPt_alike 51 = .ok (.iload_n 2, 1) := by decide +kernel
theorem dPt_alike_52 : decode cPt_alike 52 = .ok (.iaload, 1) := by decide +kernel
theorem dPt_alike_53 : decode cPt_alike 53 = .ok (.if_icmp .ne 7, 3) := by decide +kernel
theorem dPt_alike_56 : decode cPt_alike 56 = .ok (.iconst 1, 1) := by decide +kernel
theorem dPt_alike_57 : decode cPt_alike 57 = .ok (.goto 4, 3) := by decide +kernel
theorem dPt_alike_60 : decode cPt_alike 60 = .ok (.iconst 0, 1) := by decide +kernel
theorem dPt_alike_61 : decode cPt_alike 61 = .ok (.ireturn, 1) := by decide +kernel
theorem dPt_spindleFor_0 : decode cPt_spindleFor 0 = .ok (.aload_n 2, 1) := by decide +kernel
theorem dPt_spindleFor_1 : decode cPt_spindleFor 1 = .ok (.aload_n 0, 1) := by decide +kernel
theorem dPt_spindleFor_2 : decode cPt_spindleFor 2 = .ok (.getfield 9, 3) := by decide +kernel
theorem dPt_spindleFor_5 : decode cPt_spindleFor 5 = .ok (.iload_n 1, 1) := by decide +kernel
theorem dPt_spindleFor_6 : decode cPt_spindleFor 6 = .ok (.iaload, 1) := by decide +kernel
theorem dPt_spindleFor_7 : decode cPt_spindleFor 7 = .ok (.iload_n 3, 1) := by decide +kernel
theorem dPt_spindleFor_8 : decode cPt_spindleFor 8 = .ok (.isub, 1) := by decide +kernel
theorem dPt_spindleFor_9 : decode cPt_spindleFor 9 = .ok (.aload_n 0, 1) := by decide +kernel
theorem dPt_spindleFor_10 : decode cPt_spindleFor 10 = .ok (.getfield 15, 3) := by decide +kernel
theorem dPt_spindleFor_13 : decode cPt_spindleFor 13 = .ok (.iload_n 1, 1) := by decide +kernel
theorem dPt_spindleFor_14 : decode cPt_spindleFor 14 = .ok (.iaload, 1) := by decide +kernel
theorem dPt_spindleFor_15 : decode cPt_spindleFor 15 = .ok (.iload 4, 2) := by decide +kernel
theorem dPt_spindleFor_17 : decode cPt_spindleFor 17 = .ok (.isub, 1) := by decide +kernel
theorem dPt_spindleFor_18 : decode cPt_spindleFor 18 = .ok (.aload_n 0, 1) := by decide +kernel
theorem dPt_spindleFor_19 : decode cPt_spindleFor 19 = .ok (.getfield 18, 3) := by decide +kernel
theorem dPt_spindleFor_22 : decode cPt_spindleFor 22 = .ok (.iload_n 1, 1) := by decide +kernel
theorem dPt_spindleFor_23 : decode cPt_spindleFor 23 = .ok (.iaload, 1) := by decide +kernel
theorem dPt_spindleFor_24 : decode cPt_spindleFor 24 = .ok (.invokevirtual 35, 3) := by decide +kernel
theorem dPt_spindleFor_27 : decode cPt_spindleFor 27 = .ok (.ireturn, 1) := by decide +kernel
theorem dHd_spindleAt_0 : decode cHd_spindleAt 0 = .ok (.iconst 0, 1) := by decide +kernel
theorem dHd_spindleAt_1 : decode cHd_spindleAt 1 = .ok (.istore 4, 2) := by decide +kernel
theorem dHd_spindleAt_3 : decode cHd_spindleAt 3 = .ok (.iload 4, 2) := by decide +kernel
theorem dHd_spindleAt_5 : decode cHd_spindleAt 5 = .ok (.aload_n 0, 1) := by decide +kernel
theorem dHd_spindleAt_6 : decode cHd_spindleAt 6 = .ok (.getfield 18, 3) := by decide +kernel
theorem dHd_spindleAt_9 : decode cHd_spindleAt 9 = .ok (.arraylength, 1) := by decide +kernel
theorem dHd_spindleAt_10 : decode cHd_spindleAt 10 = .ok (.if_icmp .ge 45, 3) := by decide +kernel
theorem dHd_spindleAt_13 : decode cHd_spindleAt 13 = .ok (.aload_n 0, 1) := by decide +kernel
theorem dHd_spindleAt_14 : decode cHd_spindleAt 14 = .ok (.getfield 9, 3) := by decide +kernel
theorem dHd_spindleAt_17 : decode cHd_spindleAt 17 = .ok (.iload 4, 2) := by decide +kernel
theorem dHd_spindleAt_19 : decode cHd_spindleAt 19 = .ok (.iaload, 1) := by decide +kernel
theorem dHd_spindleAt_20 : decode cHd_spindleAt 20 = .ok (.iload_n 1, 1) := by decide +kernel
theorem dHd_spindleAt_21 : decode cHd_spindleAt 21 = .ok (.if_icmp .ne 28, 3) := by decide +kernel
theorem dHd_spindleAt_24 : decode cHd_spindleAt 24 = .ok (.aload_n 0, 1) := by decide +kernel
theorem dHd_spindleAt_25 : decode cHd_spindleAt 25 = .ok (.getfield 15, 3) := by decide +kernel
theorem dHd_spindleAt_28 : decode cHd_spindleAt 28 = .ok (.iload 4, 2) := by decide +kernel
theorem dHd_spindleAt_30 : decode cHd_spindleAt 30 = .ok (.iaload, 1) := by decide +kernel
theorem dHd_spindleAt_31 : decode cHd_spindleAt 31 = .ok (.iload_n 2, 1) := by decide +kernel
theorem dHd_spindleAt_32 : decode cHd_spindleAt 32 = .ok (.if_icmp .ne 17, 3) := by decide +kernel
theorem dHd_spindleAt_35 : decode cHd_spindleAt 35 = .ok (.aload_n 0, 1) := by decide +kernel
theorem dHd_spindleAt_36 : decode cHd_spindleAt 36 = .ok (.getfield 18, 3) := by decide +kernel
theorem dHd_spindleAt_39 : decode cHd_spindleAt 39 = .ok (.iload 4, 2) := by decide +kernel
theorem dHd_spindleAt_41 : decode cHd_spindleAt 41 = .ok (.iaload, 1) := by decide +kernel
theorem dHd_spindleAt_42 : decode cHd_spindleAt 42 = .ok (.iload_n 3, 1) := by decide +kernel
theorem dHd_spindleAt_43 : decode cHd_spindleAt 43 = .ok (.if_icmp .ne 6, 3) := by decide +kernel
theorem dHd_spindleAt_46 : decode cHd_spindleAt 46 = .ok (.iload 4, 2) := by decide +kernel
theorem dHd_spindleAt_48 : decode cHd_spindleAt 48 = .ok (.ireturn, 1) := by decide +kernel
theorem dHd_spindleAt_49 : decode cHd_spindleAt 49 = .ok (.iinc 4 1, 3) := by decide +kernel
theorem dHd_spindleAt_52 : decode cHd_spindleAt 52 = .ok (.goto (-49), 3) := by decide +kernel
theorem dHd_spindleAt_55 : decode cHd_spindleAt 55 = .ok (.iconst (-1), 1) := by decide +kernel
theorem dHd_spindleAt_56 : decode cHd_spindleAt 56 = .ok (.ireturn, 1) := by decide +kernel
theorem dTb_fill_0 : decode cTb_fill 0 = .ok (.aload_n 0, 1) := by decide +kernel
theorem dTb_fill_1 : decode cTb_fill 1 = .ok (.getfield 9, 3) := by decide +kernel
theorem dTb_fill_4 : decode cTb_fill 4 = .ok (.arraylength, 1) := by decide +kernel
theorem dTb_fill_5 : decode cTb_fill 5 = .ok (.iconst 1, 1) := by decide +kernel
theorem dTb_fill_6 : decode cTb_fill 6 = .ok (.iload_n 2, 1) := by decide +kernel
theorem dTb_fill_7 : decode cTb_fill 7 = .ok (.ishl, 1) := by decide +kernel
theorem dTb_fill_8 : decode cTb_fill 8 = .ok (.if_icmp .ge 12, 3) := by decide +kernel
theorem dTb_fill_11 : decode cTb_fill 11 = .ok (.aload_n 0, 1) := by decide +kernel
theorem dTb_fill_12 : decode cTb_fill 12 = .ok (.iconst 1, 1) := by decide +kernel
theorem dTb_fill_13 : decode cTb_fill 13 = .ok (.iload_n 2, 1) := by decide +kernel
theorem dTb_fill_14 : decode cTb_fill 14 = .ok (.ishl, 1) := by decide +kernel
theorem dTb_fill_15 : decode cTb_fill 15 = .ok (.newarray .int, 2) := by decide +kernel
theorem dTb_fill_17 : decode cTb_fill 17 = .ok (.putfield 9, 3) := by decide +kernel
theorem dTb_fill_20 : decode cTb_fill 20 = .ok (.aload_n 0, 1) := by decide +kernel
theorem dTb_fill_21 : decode cTb_fill 21 = .ok (.aload_n 1, 1) := by decide +kernel
theorem dTb_fill_22 : decode cTb_fill 22 = .ok (.iload_n 3, 1) := by decide +kernel
theorem dTb_fill_23 : decode cTb_fill 23 = .ok (.invokevirtual 15, 3) := by decide +kernel
theorem dTb_fill_26 : decode cTb_fill 26 = .ok (.aload_n 0, 1) := by decide +kernel
theorem dTb_fill_27 : decode cTb_fill 27 = .ok (.getfield 9, 3) := by decide +kernel
theorem dTb_fill_30 : decode cTb_fill 30 = .ok (.iconst 0, 1) := by decide +kernel
theorem dTb_fill_31 : decode cTb_fill 31 = .ok (.iconst 0, 1) := by decide +kernel
theorem dTb_fill_32 : decode cTb_fill 32 = .ok (.iastore, 1) := by decide +kernel
theorem dTb_fill_33 : decode cTb_fill 33 = .ok (.iconst 1, 1) := by decide +kernel
theorem dTb_fill_34 : decode cTb_fill 34 = .ok (.istore 4, 2) := by decide +kernel
theorem dTb_fill_36 : decode cTb_fill 36 = .ok (.iload 4, 2) := by decide +kernel
theorem dTb_fill_38 : decode cTb_fill 38 = .ok (.iload_n 3, 1) := by decide +kernel
theorem dTb_fill_39 : decode cTb_fill 39 = .ok (.if_icmp .gt 42, 3) := by decide +kernel
theorem dTb_fill_42 : decode cTb_fill 42 = .ok (.aload_n 0, 1) := by decide +kernel
theorem dTb_fill_43 : decode cTb_fill 43 = .ok (.getfield 9, 3) := by decide +kernel
theorem dTb_fill_46 : decode cTb_fill 46 = .ok (.iload 4, 2) := by decide +kernel
theorem dTb_fill_48 : decode cTb_fill 48 = .ok (.iaload, 1) := by decide +kernel
theorem dTb_fill_49 : decode cTb_fill 49 = .ok (.iconst (-1), 1) := by decide +kernel
theorem dTb_fill_50 : decode cTb_fill 50 = .ok (.if_icmp .ne 25, 3) := by decide +kernel
theorem dTb_fill_53 : decode cTb_fill 53 = .ok (.aload_n 0, 1) := by decide +kernel
theorem dTb_fill_54 : decode cTb_fill 54 = .ok (.getfield 9, 3) := by decide +kernel
theorem dTb_fill_57 : decode cTb_fill 57 = .ok (.iload 4, 2) := by decide +kernel
theorem dTb_fill_59 : decode cTb_fill 59 = .ok (.iconst 1, 1) := by decide +kernel
theorem dTb_fill_60 : decode cTb_fill 60 = .ok (.aload_n 0, 1) := by decide +kernel
theorem dTb_fill_61 : decode cTb_fill 61 = .ok (.aload_n 1, 1) := by decide +kernel
theorem dTb_fill_62 : decode cTb_fill 62 = .ok (.iload 4, 2) := by decide +kernel
theorem dTb_fill_64 : decode cTb_fill 64 = .ok (.invokestatic 19, 3) := by decide +kernel
theorem dTb_fill_67 : decode cTb_fill 67 = .ok (.aaload, 1) := by decide +kernel
theorem dTb_fill_68 : decode cTb_fill 68 = .ok (.iload 4, 2) := by decide +kernel
theorem dTb_fill_70 : decode cTb_fill 70 = .ok (.invokevirtual 23, 3) := by decide +kernel
theorem dTb_fill_73 : decode cTb_fill 73 = .ok (.iadd, 1) := by decide +kernel
theorem dTb_fill_74 : decode cTb_fill 74 = .ok (.iastore, 1) := by decide +kernel
theorem dTb_fill_75 : decode cTb_fill 75 = .ok (.iinc 4 1, 3) := by decide +kernel
theorem dTb_fill_78 : decode cTb_fill 78 = .ok (.goto (-42), 3) := by decide +kernel
theorem dTb_fill_81 : decode cTb_fill 81 = .ok (.return_, 1) := by decide +kernel
theorem dTb_markReached_0 : decode cTb_markReached 0 = .ok (.iconst 0, 1) := by decide +kernel
theorem dTb_markReached_1 : decode cTb_markReached 1 = .ok (.istore_n 3, 1) := by decide +kernel
theorem dTb_markReached_2 : decode cTb_markReached 2 = .ok (.iload_n 3, 1) := by decide +kernel
theorem dTb_markReached_3 : decode cTb_markReached 3 = .ok (.iload_n 2, 1) := by decide +kernel
theorem dTb_markReached_4 : decode cTb_markReached 4 = .ok (.if_icmp .ge 16, 3) := by decide +kernel
theorem dTb_markReached_7 : decode cTb_markReached 7 = .ok (.aload_n 0, 1) := by decide +kernel
theorem dTb_markReached_8 : decode cTb_markReached 8 = .ok (.getfield 9, 3) := by decide +kernel
theorem dTb_markReached_11 : decode cTb_markReached 11 = .ok (.iload_n 3, 1) := by decide +kernel
theorem dTb_markReached_12 : decode cTb_markReached 12 = .ok (.iconst 0, 1) := by decide +kernel
theorem dTb_markReached_13 : decode cTb_markReached 13 = .ok (.iastore, 1) := by decide +kernel
theorem dTb_markReached_14 : decode cTb_markReached 14 = .ok (.iinc 3 1, 3) := by decide +kernel
theorem dTb_markReached_17 : decode cTb_markReached 17 = .ok (.goto (-15), 3) := by decide +kernel
theorem dTb_markReached_20 : decode cTb_markReached 20 = .ok (.aload_n 0, 1) := by decide +kernel
theorem dTb_markReached_21 : decode cTb_markReached 21 = .ok (.getfield 9, 3) := by decide +kernel
theorem dTb_markReached_24 : decode cTb_markReached 24 = .ok (.iload_n 2, 1) := by decide +kernel
theorem dTb_markReached_25 : decode cTb_markReached 25 = .ok (.iconst (-1), 1) := by decide +kernel
theorem dTb_markReached_26 : decode cTb_markReached 26 = .ok (.iastore, 1) := by decide +kernel
theorem dTb_markReached_27 : decode cTb_markReached 27 = .ok (.iload_n 2, 1) := by decide +kernel
theorem dTb_markReached_28 : decode cTb_markReached 28 = .ok (.istore_n 3, 1) := by decide +kernel
theorem dTb_markReached_29 : decode cTb_markReached 29 = .ok (.iload_n 3, 1) := by decide +kernel
theorem dTb_markReached_30 : decode cTb_markReached 30 = .ok (.ifCond .le 64, 3) := by decide +kernel
theorem dTb_markReached_33 : decode cTb_markReached 33 = .ok (.aload_n 0, 1) := by decide +kernel
theorem dTb_markReached_34 : decode cTb_markReached 34 = .ok (.getfield 9, 3) := by decide +kernel
theorem dTb_markReached_37 : decode cTb_markReached 37 = .ok (.iload_n 3, 1) := by decide +kernel
theorem dTb_markReached_38 : decode cTb_markReached 38 = .ok (.iaload, 1) := by decide +kernel
theorem dTb_markReached_39 : decode cTb_markReached 39 = .ok (.iconst (-1), 1) := by decide +kernel
theorem dTb_markReached_40 : decode cTb_markReached 40 = .ok (.if_icmp .ne 48, 3) := by decide +kernel
theorem dTb_markReached_43 : decode cTb_markReached 43 = .ok (.aload_n 1, 1) := by decide +kernel
theorem dTb_markReached_44 : decode cTb_markReached 44 = .ok (.iload_n 3, 1) := by decide +kernel
theorem dTb_markReached_45 : decode cTb_markReached 45 = .ok (.invokestatic 19, 3) := by decide +kernel
theorem dTb_markReached_48 : decode cTb_markReached 48 = .ok (.aaload, 1) := by decide +kernel
theorem dTb_markReached_49 : decode cTb_markReached 49 = .ok (.astore 4, 2) := by decide +kernel
theorem dTb_markReached_51 : decode cTb_markReached 51 = .ok (.iconst 0, 1) := by decide +kernel
theorem dTb_markReached_52 : decode cTb_markReached 52 = .ok (.istore 5, 2) := by decide +kernel
theorem dTb_markReached_54 : decode cTb_markReached 54 = .ok (.iload 5, 2) := by decide +kernel
theorem dTb_markReached_56 : decode cTb_markReached 56 = .ok (.aload 4, 2) := by decide +kernel
theorem dTb_markReached_58 : decode cTb_markReached 58 = .ok (.getfield 27, 3) := by decide +kernel
theorem dTb_markReached_61 : decode cTb_markReached 61 = .ok (.if_icmp .ge 27, 3) := by decide +kernel
theorem dTb_markReached_64 : decode cTb_markReached 64 = .ok (.aload_n 0, 1) := by decide +kernel
theorem dTb_markReached_65 : decode cTb_markReached 65 = .ok (.getfield 9, 3) := by decide +kernel
theorem dTb_markReached_68 : decode cTb_markReached 68 = .ok (.iload_n 3, 1) := by decide +kernel
theorem dTb_markReached_69 : decode cTb_markReached 69 = .ok (.aload 4, 2) := by decide +kernel
theorem dTb_markReached_71 : decode cTb_markReached 71 = .ok (.getfield 33, 3) := by decide +kernel
theorem dTb_markReached_74 : decode cTb_markReached 74 = .ok (.iload 5, 2) := by decide +kernel
theorem dTb_markReached_76 : decode cTb_markReached 76 = .ok (.iaload, 1) := by decide +kernel
theorem dTb_markReached_77 : decode cTb_markReached 77 = .ok (.iconst (-1), 1) := by decide +kernel
theorem dTb_markReached_78 : decode cTb_markReached 78 = .ok (.ixor, 1) := by decide +kernel
theorem dTb_markReached_79 : decode cTb_markReached 79 = .ok (.iand, 1) := by decide +kernel
theorem dTb_markReached_80 : decode cTb_markReached 80 = .ok (.iconst (-1), 1) := by decide +kernel
theorem dTb_markReached_81 : decode cTb_markReached 81 = .ok (.iastore, 1) := by decide +kernel
theorem dTb_markReached_82 : decode cTb_markReached 82 = .ok (.iinc 5 1, 3) := by decide +kernel
theorem dTb_markReached_85 : decode cTb_markReached 85 = .ok (.goto (-31), 3) := by decide +kernel
theorem dTb_markReached_88 : decode cTb_markReached 88 = .ok (.iinc 3 (-1), 3) := by decide +kernel
theorem dTb_markReached_91 : decode cTb_markReached 91 = .ok (.goto (-62), 3) := by decide +kernel
theorem dTb_markReached_94 : decode cTb_markReached 94 = .ok (.return_, 1) := by decide +kernel
theorem dTb_fewestAfterHit_0 : decode cTb_fewestAfterHit 0 = .ok (.bipush 14, 2) := by decide +kernel
theorem dTb_fewestAfterHit_2 : decode cTb_fewestAfterHit 2 = .ok (.istore_n 3, 1) := by decide +kernel
theorem dTb_fewestAfterHit_3 : decode cTb_fewestAfterHit 3 = .ok (.iconst 0, 1) := by decide +kernel
theorem dTb_fewestAfterHit_4 : decode cTb_fewestAfterHit 4 = .ok (.istore 4, 2) := by decide +kernel
theorem dTb_fewestAfterHit_6 : decode cTb_fewestAfterHit 6 = .ok (.iload 4, 2) := by decide +kernel
theorem dTb_fewestAfterHit_8 : decode cTb_fewestAfterHit 8 = .ok (.aload_n 1, 1) := by decide +kernel
theorem dTb_fewestAfterHit_9 : decode cTb_fewestAfterHit 9 = .ok (.getfield 27, 3) := by decide +kernel
theorem dTb_fewestAfterHit_12 : decode cTb_fewestAfterHit 12 = .ok (.if_icmp .ge 30, 3) := by decide +kernel
theorem dTb_fewestAfterHit_15 : decode cTb_fewestAfterHit 15 = .ok (.iload_n 3, 1) := by decide +kernel
theorem dTb_fewestAfterHit_16 : decode cTb_fewestAfterHit 16 = .ok (.aload_n 0, 1) := by decide +kernel
theorem dTb_fewestAfterHit_17 : decode cTb_fewestAfterHit 17 = .ok (.getfield 9, 3) := by decide +kernel
theorem dTb_fewestAfterHit_20 : decode cTb_fewestAfterHit 20 = .ok (.iload_n 2, 1) := by decide +kernel
theorem dTb_fewestAfterHit_21 : decode cTb_fewestAfterHit 21 = .ok (.aload_n 1, 1) := by decide +kernel
theorem dTb_fewestAfterHit_22 : decode cTb_fewestAfterHit 22 = .ok (.getfield 33, 3) := by decide +kernel
theorem dTb_fewestAfterHit_25 : decode cTb_fewestAfterHit 25 = .ok (.iload 4, 2) := by decide +kernel
theorem dTb_fewestAfterHit_27 : decode cTb_fewestAfterHit 27 = .ok (.iaload, 1) := by decide +kernel
theorem dTb_fewestAfterHit_28 : decode cTb_fewestAfterHit 28 = .ok (.iconst (-1), 1) := by decide +kernel
theorem dTb_fewestAfterHit_29 : decode cTb_fewestAfterHit 29 = .ok (.ixor, 1) := by decide +kernel
theorem dTb_fewestAfterHit_30 : decode cTb_fewestAfterHit 30 = .ok (.iand, 1) := by decide +kernel
theorem dTb_fewestAfterHit_31 : decode cTb_fewestAfterHit 31 = .ok (.iaload, 1) := by decide +kernel
theorem dTb_fewestAfterHit_32 : decode cTb_fewestAfterHit 32 = .ok (.invokestatic 36, 3) := by decide +kernel
theorem dTb_fewestAfterHit_35 : decode cTb_fewestAfterHit 35 = .ok (.istore_n 3, 1) := by decide +kernel
theorem dTb_fewestAfterHit_36 : decode cTb_fewestAfterHit 36 = .ok (.iinc 4 1, 3) := by decide +kernel
theorem dTb_fewestAfterHit_39 : decode cTb_fewestAfterHit 39 = .ok (.goto (-33), 3) := by decide +kernel
theorem dTb_fewestAfterHit_42 : decode cTb_fewestAfterHit 42 = .ok (.iload_n 3, 1) := by decide +kernel
theorem dTb_fewestAfterHit_43 : decode cTb_fewestAfterHit 43 = .ok (.ireturn, 1) := by decide +kernel
theorem dTb_firstBest_0 : decode cTb_firstBest 0 = .ok (.aload_n 0, 1) := by decide +kernel
theorem dTb_firstBest_1 : decode cTb_firstBest 1 = .ok (.aload_n 1, 1) := by decide +kernel
theorem dTb_firstBest_2 : decode cTb_firstBest 2 = .ok (.iload_n 2, 1) := by decide +kernel
theorem dTb_firstBest_3 : decode cTb_firstBest 3 = .ok (.invokevirtual 23, 3) := by decide +kernel
theorem dTb_firstBest_6 : decode cTb_firstBest 6 = .ok (.istore_n 3, 1) := by decide +kernel
theorem dTb_firstBest_7 : decode cTb_firstBest 7 = .ok (.iconst 0, 1) := by decide +kernel
theorem dTb_firstBest_8 : decode cTb_firstBest 8 = .ok (.istore 4, 2) := by decide +kernel
theorem dTb_firstBest_10 : decode cTb_firstBest 10 = .ok (.iload 4, 2) := by decide +kernel
theorem dTb_firstBest_12 : decode cTb_firstBest 12 = .ok (.aload_n 1, 1) := by decide +kernel
theorem dTb_firstBest_13 : decode cTb_firstBest 13 = .ok (.getfield 27, 3) := by decide +kernel
theorem dTb_firstBest_16 : decode cTb_firstBest 16 = .ok (.if_icmp .ge 32, 3) := by decide +kernel
theorem dTb_firstBest_19 : decode cTb_firstBest 19 = .ok (.aload_n 0, 1) := by decide +kernel
theorem dTb_firstBest_20 : decode cTb_firstBest 20 = .ok (.getfield 9, 3) := by decide +kernel
theorem dTb_firstBest_23 : decode cTb_firstBest 23 = .ok (.iload_n 2, 1) := by decide +kernel
theorem dTb_firstBest_24 : decode cTb_firstBest 24 = .ok (.aload_n 1, 1) := by decide +kernel
theorem dTb_firstBest_25 : decode cTb_firstBest 25 = .ok (.getfield 33, 3) := by decide +kernel
theorem dTb_firstBest_28 : decode cTb_firstBest 28 = .ok (.iload 4, 2) := by decide +kernel
theorem dTb_firstBest_30 : decode cTb_firstBest 30 = .ok (.iaload, 1) := by decide +kernel
theorem dTb_firstBest_31 : decode cTb_firstBest 31 = .ok (.iconst (-1), 1) := by decide +kernel
theorem dTb_firstBest_32 : decode cTb_firstBest 32 = .ok (.ixor, 1) := by decide +kernel
theorem dTb_firstBest_33 : decode cTb_firstBest 33 = .ok (.iand, 1) := by decide +kernel
theorem dTb_firstBest_34 : decode cTb_firstBest 34 = .ok (.iaload, 1) := by decide +kernel
theorem dTb_firstBest_35 : decode cTb_firstBest 35 = .ok (.iload_n 3, 1) := by decide +kernel
theorem dTb_firstBest_36 : decode cTb_firstBest 36 = .ok (.if_icmp .ne 6, 3) := by decide +kernel
theorem dTb_firstBest_39 : decode cTb_firstBest 39 = .ok (.iload 4, 2) := by decide +kernel
theorem dTb_firstBest_41 : decode cTb_firstBest 41 = .ok (.ireturn, 1) := by decide +kernel
theorem dTb_firstBest_42 : decode cTb_firstBest 42 = .ok (.iinc 4 1, 3) := by decide +kernel
theorem dTb_firstBest_45 : decode cTb_firstBest 45 = .ok (.goto (-35), 3) := by decide +kernel
theorem dTb_firstBest_48 : decode cTb_firstBest 48 = .ok (.iconst 0, 1) := by decide +kernel
theorem dTb_firstBest_49 : decode cTb_firstBest 49 = .ok (.ireturn, 1) := by decide +kernel
theorem dHt_add_0 : decode cHt_add 0 = .ok (.aload_n 0, 1) := by decide +kernel
theorem dHt_add_1 : decode cHt_add 1 = .ok (.getfield 24, 3) := by decide +kernel
theorem dHt_add_4 : decode cHt_add 4 = .ok (.bipush 14, 2) := by decide +kernel
theorem dHt_add_6 : decode cHt_add 6 = .ok (.if_icmp .lt 4, 3) := by decide +kernel
theorem dHt_add_9 : decode cHt_add 9 = .ok (.return_, 1) := by decide +kernel
theorem dHt_add_10 : decode cHt_add 10 = .ok (.aload_n 0, 1) := by decide +kernel
theorem dHt_add_11 : decode cHt_add 11 = .ok (.getfield 9, 3) := by decide +kernel
theorem dHt_add_14 : decode cHt_add 14 = .ok (.aload_n 0, 1) := by decide +kernel
theorem dHt_add_15 : decode cHt_add 15 = .ok (.getfield 24, 3) := by decide +kernel
theorem dHt_add_18 : decode cHt_add 18 = .ok (.iload_n 1, 1) := by decide +kernel
theorem dHt_add_19 : decode cHt_add 19 = .ok (.iastore, 1) := by decide +kernel
theorem dHt_add_20 : decode cHt_add 20 = .ok (.aload_n 0, 1) := by decide +kernel
theorem dHt_add_21 : decode cHt_add 21 = .ok (.getfield 15, 3) := by decide +kernel
theorem dHt_add_24 : decode cHt_add 24 = .ok (.aload_n 0, 1) := by decide +kernel
theorem dHt_add_25 : decode cHt_add 25 = .ok (.getfield 24, 3) := by decide +kernel
theorem dHt_add_28 : decode cHt_add 28 = .ok (.iload_n 2, 1) := by decide +kernel
theorem dHt_add_29 : decode cHt_add 29 = .ok (.iastore, 1) := by decide +kernel
theorem dHt_add_30 : decode cHt_add 30 = .ok (.aload_n 0, 1) := by decide +kernel
theorem dHt_add_31 : decode cHt_add 31 = .ok (.getfield 18, 3) := by decide +kernel
theorem dHt_add_34 : decode cHt_add 34 = .ok (.aload_n 0, 1) := by decide +kernel
theorem dHt_add_35 : decode cHt_add 35 = .ok (.getfield 24, 3) := by decide +kernel
theorem dHt_add_38 : decode cHt_add 38 = .ok (.iload_n 3, 1) := by decide +kernel
theorem dHt_add_39 : decode cHt_add 39 = .ok (.iastore, 1) := by decide +kernel
theorem dHt_add_40 : decode cHt_add 40 = .ok (.aload_n 0, 1) := by decide +kernel
theorem dHt_add_41 : decode cHt_add 41 = .ok (.getfield 21, 3) := by decide +kernel
theorem dHt_add_44 : decode cHt_add 44 = .ok (.aload_n 0, 1) := by decide +kernel
theorem dHt_add_45 : decode cHt_add 45 = .ok (.getfield 24, 3) := by decide +kernel
theorem dHt_add_48 : decode cHt_add 48 = .ok (.iload 4, 2) := by decide +kernel
theorem dHt_add_50 : decode cHt_add 50 = .ok (.iastore, 1) := by decide +kernel
theorem dHt_add_51 : decode cHt_add 51 = .ok (.aload_n 0, 1) := by decide +kernel
theorem dHt_add_52 : decode cHt_add 52 = .ok (.dup, 1) := by decide +kernel
theorem dHt_add_53 : decode cHt_add 53 = .ok (.getfield 24, 3) := by decide +kernel
theorem dHt_add_56 : decode cHt_add 56 = .ok (.iconst 1, 1) := by decide +kernel
theorem dHt_add_57 : decode cHt_add 57 = .ok (.iadd, 1) := by decide +kernel
theorem dHt_add_58 : decode cHt_add 58 = .ok (.putfield 24, 3) := by decide +kernel
theorem dHt_add_61 : decode cHt_add 61 = .ok (.return_, 1) := by decide +kernel
theorem dWy_find_0 : decode cWy_find 0 = .ok (.aload_n 1, 1) := by decide +kernel
theorem dWy_find_1 : decode cWy_find 1 = .ok (.getfield 18, 3) := by decide +kernel
theorem dWy_find_4 : decode cWy_find 4 = .ok (.bipush 10, 2) := by decide +kernel
theorem dWy_find_6 : decode cWy_find 6 = .ok (.if_icmp .gt 16, 3) := by decide +kernel
theorem dWy_find_9 : decode cWy_find 9 = .ok (.aload_n 0, 1) := by decide +kernel
theorem dWy_find_10 : decode cWy_find 10 = .ok (.aload_n 1, 1) := by decide +kernel
theorem dWy_find_11 : decode cWy_find 11 = .ok (.invokevirtual 24, 3) := by decide +kernel
theorem dWy_find_14 : decode cWy_find 14 = .ok (.aload_n 0, 1) := by decide +kernel
theorem dWy_find_15 : decode cWy_find 15 = .ok (.aload_n 1, 1) := by decide +kernel
theorem dWy_find_16 : decode cWy_find 16 = .ok (.invokevirtual 28, 3) := by decide +kernel
theorem dWy_find_19 : decode cWy_find 19 = .ok (.goto 8, 3) := by decide +kernel
theorem dWy_find_22 : decode cWy_find 22 = .ok (.aload_n 0, 1) := by decide +kernel
theorem dWy_find_23 : decode cWy_find 23 = .ok (.aload_n 1, 1) := by decide +kernel
theorem dWy_find_24 : decode cWy_find 24 = .ok (.invokevirtual 31, 3) := by decide +kernel
theorem dWy_find_27 : decode cWy_find 27 = .ok (.aload_n 0, 1) := by decide +kernel
theorem dWy_find_28 : decode cWy_find 28 = .ok (.aload_n 1, 1) := by decide +kernel
theorem dWy_find_29 : decode cWy_find 29 = .ok (.invokevirtual 34, 3) := by decide +kernel
theorem dWy_find_32 : decode cWy_find 32 = .ok (.return_, 1) := by decide +kernel
theorem dWy_fillShortest_0 : decode cWy_fillShortest 0 = .ok (.iconst 1, 1) := by decide +kernel
theorem dWy_fillShortest_1 : decode cWy_fillShortest 1 = .ok (.aload_n 1, 1) := by decide +kernel
theorem dWy_fillShortest_2 : decode cWy_fillShortest 2 = .ok (.getfield 18, 3) := by decide +kernel
theorem dWy_fillShortest_5 : decode cWy_fillShortest 5 = .ok (.ishl, 1) := by decide +kernel
theorem dWy_fillShortest_6 : decode cWy_fillShortest 6 = .ok (.istore_n 2, 1) := by decide +kernel
theorem dWy_fillShortest_7 : decode cWy_fillShortest 7 = .ok (.aload_n 0, 1) := by decide +kernel
theorem dWy_fillShortest_8 : decode cWy_fillShortest 8 = .ok (.getfield 15, 3) := by decide +kernel
theorem dWy_fillShortest_11 : decode cWy_fillShortest 11 = .ok (.arraylength, 1) := by decide +kernel
theorem dWy_fillShortest_12 : decode cWy_fillShortest 12 = .ok (.iload_n 2, 1) := by decide +kernel
theorem dWy_fillShortest_13 : decode cWy_fillShortest 13 = .ok (.aload_n 1, 1) := by decide +kernel
theorem dWy_fillShortest_14 : decode cWy_fillShortest 14 = .ok (.getfield 18, 3) := by decide +kernel
theorem dWy_fillShortest_17 : decode cWy_fillShortest 17 = .ok (.imul, 1) := by decide +kernel
theorem dWy_fillShortest_18 : decode cWy_fillShortest 18 = .ok (.if_icmp .ge 15, 3) := by decide +kernel
theorem dWy_fillShortest_21 : decode cWy_fillShortest 21 = .ok (.aload_n 0, 1) := by decide +kernel
theorem dWy_fillShortest_22 : decode cWy_fillShortest 22 = .ok (.iload_n 2, 1) := by decide +kernel
theorem dWy_fillShortest_23 : decode cWy_fillShortest 23 = .ok (.aload_n 1, 1) := by decide +kernel
theorem dWy_fillShortest_24 : decode cWy_fillShortest 24 = .ok (.getfield 18, 3) := by decide +kernel
theorem dWy_fillShortest_27 : decode cWy_fillShortest 27 = .ok (.imul, 1) := by decide +kernel
theorem dWy_fillShortest_28 : decode cWy_fillShortest 28 = .ok (.newarray .int, 2) := by decide +kernel
theorem dWy_fillShortest_30 : decode cWy_fillShortest 30 = .ok (.putfield 15, 3) := by decide +kernel
theorem dWy_fillShortest_33 : decode cWy_fillShortest 33 = .ok (.iconst 0, 1) := by decide +kernel
theorem dWy_fillShortest_34 : decode cWy_fillShortest 34 = .ok (.istore_n 3, 1) := by decide +kernel
theorem dWy_fillShortest_35 : decode cWy_fillShortest 35 = .ok (.iload_n 3, 1) := by decide +kernel
theorem dWy_fillShortest_36 : decode cWy_fillShortest 36 = .ok (.iload_n 2, 1) := by decide +kernel
theorem dWy_fillShortest_37 : decode cWy_fillShortest 37 = .ok (.if_icmp .ge 108, 3) := by decide +kernel
theorem dWy_fillShortest_40 : decode cWy_fillShortest 40 = .ok (.iconst 0, 1) := by decide +kernel
theorem dWy_fillShortest_41 : decode cWy_fillShortest 41 = .ok (.istore 4, 2) := by decide +kernel
theorem dWy_fillShortest_43 : decode cWy_fillShortest 43 = .ok (.iload 4, 2) := by decide +kernel
theorem dWy_fillShortest_45 : decode cWy_fillShortest 45 = .ok (.aload_n 1, 1) := by decide +kernel
theorem dWy_fillShortest_46 : decode cWy_fillShortest 46 = .ok (.getfield 18, 3) := by decide +kernel
theorem dWy_fillShortest_49 : decode cWy_fillShortest 49 = .ok (.if_icmp .ge 90, 3) := by decide +kernel
theorem dWy_fillShortest_52 : decode cWy_fillShortest 52 = .ok (.iload_n 3, 1) := by decide +kernel
theorem dWy_fillShortest_53 : decode cWy_fillShortest 53 = .ok (.iload 4, 2) := by decide +kernel
theorem dWy_fillShortest_55 : decode cWy_fillShortest 55 = .ok (.invokestatic 37, 3) := by decide +kernel
theorem dWy_fillShortest_58 : decode cWy_fillShortest 58 = .ok (.ifCond .ne 75, 3) := by decide +kernel
theorem dWy_fillShortest_61 : decode cWy_fillShortest 61 = .ok (.aload_n 0, 1) := by decide +kernel
theorem dWy_fillShortest_62 : decode cWy_fillShortest 62 = .ok (.aload_n 1, 1) := by decide +kernel
theorem dWy_fillShortest_63 : decode cWy_fillShortest 63 = .ok (.iload_n 3, 1) := by decide +kernel
theorem dWy_fillShortest_64 : decode cWy_fillShortest 64 = .ok (.aload_n 1, 1) := by decide +kernel
theorem dWy_fillShortest_65 : decode cWy_fillShortest 65 = .ok (.getfield 41, 3) := by decide +kernel
theorem dWy_fillShortest_68 : decode cWy_fillShortest 68 = .ok (.iload 4, 2) := by decide +kernel
theorem dWy_fillShortest_70 : decode cWy_fillShortest 70 = .ok (.iaload, 1) := by decide +kernel
theorem dWy_fillShortest_71 : decode cWy_fillShortest 71 = .ok (.aload_n 1, 1) := by decide +kernel
theorem dWy_fillShortest_72 : decode cWy_fillShortest 72 = .ok (.getfield 44, 3) := by decide +kernel
theorem dWy_fillShortest_75 : decode cWy_fillShortest 75 = .ok (.iload 4, 2) := by decide +kernel
theorem dWy_fillShortest_77 : decode cWy_fillShortest 77 = .ok (.iaload, 1) := by decide +kernel
theorem dWy_fillShortest_78 : decode cWy_fillShortest 78 = .ok (.invokevirtual 47, 3) := by decide +kernel
theorem dWy_fillShortest_81 : decode cWy_fillShortest 81 = .ok (.istore 5, 2) := by decide +kernel
theorem dWy_fillShortest_83 : decode cWy_fillShortest 83 = .ok (.iload 5, 2) := by decide +kernel
theorem dWy_fillShortest_85 : decode cWy_fillShortest 85 = .ok (.iconst (-1), 1) := by decide +kernel
theorem dWy_fillShortest_86 : decode cWy_fillShortest 86 = .ok (.if_icmp .ne 7, 3) := by decide +kernel
theorem dWy_fillShortest_89 : decode cWy_fillShortest 89 = .ok (.iconst 0, 1) := by decide +kernel
theorem dWy_fillShortest_90 : decode cWy_fillShortest 90 = .ok (.goto 25, 3) := by decide +kernel
theorem dWy_fillShortest_93 : decode cWy_fillShortest 93 = .ok (.aload_n 0, 1) := by decide +kernel
theorem dWy_fillShortest_94 : decode cWy_fillShortest 94 = .ok (.aload_n 1, 1) := by decide +kernel
theorem dWy_fillShortest_95 : decode cWy_fillShortest 95 = .ok (.iload 5, 2) := by decide +kernel
theorem dWy_fillShortest_97 : decode cWy_fillShortest 97 = .ok (.iload_n 3, 1) := by decide +kernel
theorem dWy_fillShortest_98 : decode cWy_fillShortest 98 = .ok (.aload_n 1, 1) := by decide +kernel
theorem dWy_fillShortest_99 : decode cWy_fillShortest 99 = .ok (.getfield 41, 3) := by decide +kernel
theorem dWy_fillShortest_102 : decode cWy_fillShortest 102 = .ok (.iload 4, 2) := by decide +kernel
theorem dWy_fillShortest_104 : decode cWy_fillShortest 104 = .ok (.iaload, 1) := by decide +kernel
theorem dWy_fillShortest_105 : decode cWy_fillShortest 105 = .ok (.aload_n 1, 1) := by decide +kernel
theorem dWy_fillShortest_106 : decode cWy_fillShortest 106 = .ok (.getfield 44, 3) := by decide +kernel
theorem dWy_fillShortest_109 : decode cWy_fillShortest 109 = .ok (.iload 4, 2) := by decide +kernel
theorem dWy_fillShortest_111 : decode cWy_fillShortest 111 = .ok (.iaload, 1) := by decide +kernel
theorem dWy_fillShortest_112 : decode cWy_fillShortest 112 = .ok (.invokevirtual 51, 3) := by decide +kernel
theorem dWy_fillShortest_115 : decode cWy_fillShortest 115 = .ok (.istore 6, 2) := by decide +kernel
theorem dWy_fillShortest_117 : decode cWy_fillShortest 117 = .ok (.aload_n 0, 1) := by decide +kernel
theorem dWy_fillShortest_118 : decode cWy_fillShortest 118 = .ok (.getfield 15, 3) := by decide +kernel
theorem dWy_fillShortest_121 : decode cWy_fillShortest 121 = .ok (.iload_n 3, 1) := by decide +kernel
theorem dWy_fillShortest_122 : decode cWy_fillShortest 122 = .ok (.aload_n 1, 1) := by decide +kernel
theorem dWy_fillShortest_123 : decode cWy_fillShortest 123 = .ok (.getfield 18, 3) := by decide +kernel
theorem dWy_fillShortest_126 : decode cWy_fillShortest 126 = .ok (.imul, 1) := by decide +kernel
theorem dWy_fillShortest_127 : decode cWy_fillShortest 127 = .ok (.iload 4, 2) := by decide +kernel
theorem dWy_fillShortest_129 : decode cWy_fillShortest 129 = .ok (.iadd, 1) := by decide +kernel
theorem dWy_fillShortest_130 : decode cWy_fillShortest 130 = .ok (.iload 6, 2) := by decide +kernel
theorem dWy_fillShortest_132 : decode cWy_fillShortest 132 = .ok (.iastore, 1) := by decide +kernel
theorem dWy_fillShortest_133 : decode cWy_fillShortest 133 = .ok (.iinc 4 1, 3) := by decide +kernel
theorem dWy_fillShortest_136 : decode cWy_fillShortest 136 = .ok (.goto (-93), 3) := by decide +kernel
theorem dWy_fillShortest_139 : decode cWy_fillShortest 139 = .ok (.iinc 3 1, 3) := by decide +kernel
theorem dWy_fillShortest_142 : decode cWy_fillShortest 142 = .ok (.goto (-107), 3) := by decide +kernel
theorem dWy_fillShortest_145 : decode cWy_fillShortest 145 = .ok (.return_, 1) := by decide +kernel
theorem dWy_nextHit_0 : decode cWy_nextHit 0 = .ok (.iconst (-1), 1) := by decide +kernel
theorem dWy_nextHit_1 : decode cWy_nextHit 1 = .ok (.istore 5, 2) := by decide +kernel
theorem dWy_nextHit_3 : decode cWy_nextHit 3 = .ok (.iconst 0, 1) := by decide +kernel
theorem dWy_nextHit_4 : decode cWy_nextHit 4 = .ok (.istore 6, 2) := by decide +kernel
theorem dWy_nextHit_6 : decode cWy_nextHit 6 = .ok (.iconst 0, 1) := by decide +kernel
theorem dWy_nextHit_7 : decode cWy_nextHit 7 = .ok (.istore 7, 2) := by decide +kernel
theorem dWy_nextHit_9 : decode cWy_nextHit 9 = .ok (.iload 7, 2) := by decide +kernel
theorem dWy_nextHit_11 : decode cWy_nextHit 11 = .ok (.aload_n 1, 1) := by decide +kernel
theorem dWy_nextHit_12 : decode cWy_nextHit 12 = .ok (.getfield 18, 3) := by decide +kernel
theorem dWy_nextHit_15 : decode cWy_nextHit 15 = .ok (.if_icmp .ge 52, 3) := by decide +kernel
theorem dWy_nextHit_18 : decode cWy_nextHit 18 = .ok (.iload_n 2, 1) := by decide +kernel
theorem dWy_nextHit_19 : decode cWy_nextHit 19 = .ok (.iload 7, 2) := by decide +kernel
theorem dWy_nextHit_21 : decode cWy_nextHit 21 = .ok (.invokestatic 37, 3) := by decide +kernel
theorem dWy_nextHit_24 : decode cWy_nextHit 24 = .ok (.ifCond .eq 37, 3) := by decide +kernel
theorem dWy_nextHit_27 : decode cWy_nextHit 27 = .ok (.aload_n 0, 1) := by decide +kernel
theorem dWy_nextHit_28 : decode cWy_nextHit 28 = .ok (.aload_n 1, 1) := by decide +kernel
theorem dWy_nextHit_29 : decode cWy_nextHit 29 = .ok (.iload 7, 2) := by decide +kernel
theorem dWy_nextHit_31 : decode cWy_nextHit 31 = .ok (.iload_n 2, 1) := by decide +kernel
theorem dWy_nextHit_32 : decode cWy_nextHit 32 = .ok (.iload_n 3, 1) := by decide +kernel
theorem dWy_nextHit_33 : decode cWy_nextHit 33 = .ok (.iload 4, 2) := by decide +kernel
theorem dWy_nextHit_35 : decode cWy_nextHit 35 = .ok (.invokevirtual 51, 3) := by decide +kernel
theorem dWy_nextHit_38 : decode cWy_nextHit 38 = .ok (.istore 8, 2) := by decide +kernel
theorem dWy_nextHit_40 : decode cWy_nextHit 40 = .ok (.iload 5, 2) := by decide +kernel
theorem dWy_nextHit_42 : decode cWy_nextHit 42 = .ok (.iconst (-1), 1) := by decide +kernel
theorem dWy_nextHit_43 : decode cWy_nextHit 43 = .ok (.if_icmp .eq 10, 3) := by decide +kernel
theorem dWy_nextHit_46 : decode cWy_nextHit 46 = .ok (.iload 8, 2) := by decide +kernel
theorem dWy_nextHit_48 : decode cWy_nextHit 48 = .ok (.iload 6, 2) := by decide +kernel
theorem dWy_nextHit_50 : decode cWy_nextHit 50 = .ok (.if_icmp .ge 11, 3) := by decide +kernel
theorem dWy_nextHit_53 : decode cWy_nextHit 53 = .ok (.iload 7, 2) := by decide +kernel
theorem dWy_nextHit_55 : decode cWy_nextHit 55 = .ok (.istore 5, 2) := by decide +kernel
theorem dWy_nextHit_57 : decode cWy_nextHit 57 = .ok (.iload 8, 2) := by decide +kernel
theorem dWy_nextHit_59 : decode cWy_nextHit 59 = .ok (.istore 6, 2) := by decide +kernel
theorem dWy_nextHit_61 : decode cWy_nextHit 61 = .ok (.iinc 7 1, 3) := by decide +kernel
theorem dWy_nextHit_64 : decode cWy_nextHit 64 = .ok (.goto (-55), 3) := by decide +kernel
theorem dWy_nextHit_67 : decode cWy_nextHit 67 = .ok (.iload 5, 2) := by decide +kernel
theorem dWy_nextHit_69 : decode cWy_nextHit 69 = .ok (.ireturn, 1) := by decide +kernel
theorem dWy_wayOver_0 : decode cWy_wayOver 0 = .ok (.aload_n 1, 1) := by decide +kernel
theorem dWy_wayOver_1 : decode cWy_wayOver 1 = .ok (.iload_n 2, 1) := by decide +kernel
theorem dWy_wayOver_2 : decode cWy_wayOver 2 = .ok (.iload 4, 2) := by decide +kernel
theorem dWy_wayOver_4 : decode cWy_wayOver 4 = .ok (.iload 5, 2) := by decide +kernel
theorem dWy_wayOver_6 : decode cWy_wayOver 6 = .ok (.invokestatic 63, 3) := by decide +kernel
theorem dWy_wayOver_9 : decode cWy_wayOver 9 = .ok (.aload_n 0, 1) := by decide +kernel
theorem dWy_wayOver_10 : decode cWy_wayOver 10 = .ok (.getfield 15, 3) := by decide +kernel
theorem dWy_wayOver_13 : decode cWy_wayOver 13 = .ok (.iload_n 3, 1) := by decide +kernel
theorem dWy_wayOver_14 : decode cWy_wayOver 14 = .ok (.iload_n 2, 1) := by decide +kernel
theorem dWy_wayOver_15 : decode cWy_wayOver 15 = .ok (.invokestatic 55, 3) := by decide +kernel
theorem dWy_wayOver_18 : decode cWy_wayOver 18 = .ok (.aload_n 1, 1) := by decide +kernel
theorem dWy_wayOver_19 : decode cWy_wayOver 19 = .ok (.getfield 18, 3) := by decide +kernel
theorem dWy_wayOver_22 : decode cWy_wayOver 22 = .ok (.imul, 1) := by decide +kernel
theorem dWy_wayOver_23 : decode cWy_wayOver 23 = .ok (.iload_n 2, 1) := by decide +kernel
theorem dWy_wayOver_24 : decode cWy_wayOver 24 = .ok (.iadd, 1) := by decide +kernel
theorem dWy_wayOver_25 : decode cWy_wayOver 25 = .ok (.iaload, 1) := by decide +kernel
theorem dWy_wayOver_26 : decode cWy_wayOver 26 = .ok (.iadd, 1) := by decide +kernel
theorem dWy_wayOver_27 : decode cWy_wayOver 27 = .ok (.ireturn, 1) := by decide +kernel
theorem dWy_distance_0 : decode cWy_distance 0 = .ok (.aload_n 0, 1) := by decide +kernel
theorem dWy_distance_1 : decode cWy_distance 1 = .ok (.getfield 41, 3) := by decide +kernel
theorem dWy_distance_4 : decode cWy_distance 4 = .ok (.iload_n 1, 1) := by decide +kernel
theorem dWy_distance_5 : decode cWy_distance 5 = .ok (.iaload, 1) := by decide +kernel
theorem dWy_distance_6 : decode cWy_distance 6 = .ok (.iload_n 2, 1) := by decide +kernel
theorem dWy_distance_7 : decode cWy_distance 7 = .ok (.isub, 1) := by decide +kernel
theorem dWy_distance_8 : decode cWy_distance 8 = .ok (.invokestatic 66, 3) := by decide +kernel
theorem dWy_distance_11 : decode cWy_distance 11 = .ok (.aload_n 0, 1) := by decide +kernel
theorem dWy_distance_12 : decode cWy_distance 12 = .ok (.getfield 44, 3) := by decide +kernel
theorem dWy_distance_15 : decode cWy_distance 15 = .ok (.iload_n 1, 1) := by decide +kernel
theorem dWy_distance_16 : decode cWy_distance 16 = .ok (.iaload, 1) := by decide +kernel
theorem dWy_distance_17 : decode cWy_distance 17 = .ok (.iload_n 3, 1) := by decide +kernel
theorem dWy_distance_18 : decode cWy_distance 18 = .ok (.isub, 1) := by decide +kernel
theorem dWy_distance_19 : decode cWy_distance 19 = .ok (.invokestatic 66, 3) := by decide +kernel
theorem dWy_distance_22 : decode cWy_distance 22 = .ok (.iadd, 1) := by decide +kernel
theorem dWy_distance_23 : decode cWy_distance 23 = .ok (.ireturn, 1) := by decide +kernel
theorem dWy_takeShortest_0 : decode cWy_takeShortest 0 = .ok (.iconst 1, 1) := by decide +kernel
theorem dWy_takeShortest_1 : decode cWy_takeShortest 1 = .ok (.aload_n 1, 1) := by decide +kernel
theorem dWy_takeShortest_2 : decode cWy_takeShortest 2 = .ok (.getfield 18, 3) := by decide +kernel
theorem dWy_takeShortest_5 : decode cWy_takeShortest 5 = .ok (.ishl, 1) := by decide +kernel
theorem dWy_takeShortest_6 : decode cWy_takeShortest 6 = .ok (.iconst 1, 1) := by decide +kernel
theorem dWy_takeShortest_7 : decode cWy_takeShortest 7 = .ok (.isub, 1) := by decide +kernel
theorem dWy_takeShortest_8 : decode cWy_takeShortest 8 = .ok (.istore_n 2, 1) := by decide +kernel
theorem dWy_takeShortest_9 : decode cWy_takeShortest 9 = .ok (.iconst 0, 1) := by decide +kernel
theorem dWy_takeShortest_10 : decode cWy_takeShortest 10 = .ok (.istore_n 3, 1) := by decide +kernel
theorem dWy_takeShortest_11 : decode cWy_takeShortest 11 = .ok (.iconst 0, 1) := by decide +kernel
theorem dWy_takeShortest_12 : decode cWy_takeShortest 12 = .ok (.istore 4, 2) := by decide +kernel
theorem dWy_takeShortest_14 : decode cWy_takeShortest 14 = .ok (.iconst 0, 1) := by decide +kernel
theorem dWy_takeShortest_15 : decode cWy_takeShortest 15 = .ok (.istore 5, 2) := by decide +kernel
theorem dWy_takeShortest_17 : decode cWy_takeShortest 17 = .ok (.iload 5, 2) := by decide +kernel
theorem dWy_takeShortest_19 : decode cWy_takeShortest 19 = .ok (.aload_n 1, 1) := by decide +kernel
theorem dWy_takeShortest_20 : decode cWy_takeShortest 20 = .ok (.getfield 18, 3) := by decide +kernel
theorem dWy_takeShortest_23 : decode cWy_takeShortest 23 = .ok (.if_icmp .ge 60, 3) := by decide +kernel
theorem dWy_takeShortest_26 : decode cWy_takeShortest 26 = .ok (.aload_n 0, 1) := by decide +kernel
theorem dWy_takeShortest_27 : decode cWy_takeShortest 27 = .ok (.aload_n 1, 1) := by decide +kernel
theorem dWy_takeShortest_28 : decode cWy_takeShortest 28 = .ok (.iload_n 2, 1) := by decide +kernel
theorem dWy_takeShortest_29 : decode cWy_takeShortest 29 = .ok (.iload_n 3, 1) := by decide +kernel
theorem dWy_takeShortest_30 : decode cWy_takeShortest 30 = .ok (.iload 4, 2) := by decide +kernel
theorem dWy_takeShortest_32 : decode cWy_takeShortest 32 = .ok (.invokevirtual 47, 3) := by decide +kernel
theorem dWy_takeShortest_35 : decode cWy_takeShortest 35 = .ok (.istore 6, 2) := by decide +kernel
theorem dWy_takeShortest_37 : decode cWy_takeShortest 37 = .ok (.iload 6, 2) := by decide +kernel
theorem dWy_takeShortest_39 : decode cWy_takeShortest 39 = .ok (.iconst (-1), 1) := by decide +kernel
theorem dWy_takeShortest_40 : decode cWy_takeShortest 40 = .ok (.if_icmp .ne 4, 3) := by decide +kernel
theorem dWy_takeShortest_43 : decode cWy_takeShortest 43 = .ok (.return_, 1) := by decide +kernel
theorem dWy_takeShortest_44 : decode cWy_takeShortest 44 = .ok (.aload_n 0, 1) := by decide +kernel
theorem dWy_takeShortest_45 : decode cWy_takeShortest 45 = .ok (.getfield 9, 3) := by decide +kernel
theorem dWy_takeShortest_48 : decode cWy_takeShortest 48 = .ok (.iload 5, 2) := by decide +kernel
theorem dWy_takeShortest_50 : decode cWy_takeShortest 50 = .ok (.iload 6, 2) := by decide +kernel
theorem dWy_takeShortest_52 : decode cWy_takeShortest 52 = .ok (.iastore, 1) := by decide +kernel
theorem dWy_takeShortest_53 : decode cWy_takeShortest 53 = .ok (.iload_n 2, 1) := by decide +kernel
theorem dWy_takeShortest_54 : decode cWy_takeShortest 54 = .ok (.iload 6, 2) := by decide +kernel
theorem dWy_takeShortest_56 : decode cWy_takeShortest 56 = .ok (.invokestatic 55, 3) := by decide +kernel
theorem dWy_takeShortest_59 : decode cWy_takeShortest 59 = .ok (.istore_n 2, 1) := by decide +kernel
theorem dWy_takeShortest_60 : decode cWy_takeShortest 60 = .ok (.aload_n 1, 1) := by decide +kernel
theorem dWy_takeShortest_61 : decode cWy_takeShortest 61 = .ok (.getfield 41, 3) := by decide +kernel
theorem dWy_takeShortest_64 : decode cWy_takeShortest 64 = .ok (.iload 6, 2) := by decide +kernel
theorem dWy_takeShortest_66 : decode cWy_takeShortest 66 = .ok (.iaload, 1) := by decide +kernel
theorem dWy_takeShortest_67 : decode cWy_takeShortest 67 = .ok (.istore_n 3, 1) := by decide +kernel
theorem dWy_takeShortest_68 : decode cWy_takeShortest 68 = .ok (.aload_n 1, 1) := by decide +kernel
theorem dWy_takeShortest_69 : decode cWy_takeShortest 69 = .ok (.getfield 44, 3) := by decide +kernel
theorem dWy_takeShortest_72 : decode cWy_takeShortest 72 = .ok (.iload 6, 2) := by decide +kernel
theorem dWy_takeShortest_74 : decode cWy_takeShortest 74 = .ok (.iaload, 1) := by decide +kernel
theorem dWy_takeShortest_75 : decode cWy_takeShortest 75 = .ok (.istore 4, 2) := by decide +kernel
theorem dWy_takeShortest_77 : decode cWy_takeShortest 77 = .ok (.iinc 5 1, 3) := by decide +kernel
theorem dWy_takeShortest_80 : decode cWy_takeShortest 80 = .ok (.goto (-63), 3) := by decide +kernel
theorem dWy_takeShortest_83 : decode cWy_takeShortest 83 = .ok (.return_, 1) := by decide +kernel
theorem dWy_takeOwnOrder_0 : decode cWy_takeOwnOrder 0 = .ok (.iconst 0, 1) := by decide +kernel
theorem dWy_takeOwnOrder_1 : decode cWy_takeOwnOrder 1 = .ok (.istore_n 2, 1) := by decide +kernel
theorem dWy_takeOwnOrder_2 : decode cWy_takeOwnOrder 2 = .ok (.iload_n 2, 1) := by decide +kernel
theorem dWy_takeOwnOrder_3 : decode cWy_takeOwnOrder 3 = .ok (.aload_n 1, 1) := by decide +kernel
theorem dWy_takeOwnOrder_4 : decode cWy_takeOwnOrder 4 = .ok (.getfield 18, 3) := by decide +kernel
theorem dWy_takeOwnOrder_7 : decode cWy_takeOwnOrder 7 = .ok (.if_icmp .ge 16, 3) := by decide +kernel
theorem dWy_takeOwnOrder_10 : decode cWy_takeOwnOrder 10 = .ok (.aload_n 0, 1) := by decide +kernel
theorem dWy_takeOwnOrder_11 : decode cWy_takeOwnOrder 11 = .ok (.getfield 9, 3) := by decide +kernel
theorem dWy_takeOwnOrder_14 : decode cWy_takeOwnOrder 14 = .ok (.iload_n 2, 1) := by decide +kernel
theorem dWy_takeOwnOrder_15 : decode cWy_takeOwnOrder 15 = .ok (.iload_n 2, 1) := by decide +kernel
theorem dWy_takeOwnOrder_16 : decode cWy_takeOwnOrder 16 = .ok (.iastore, 1) := by decide +kernel
theorem dWy_takeOwnOrder_17 : decode cWy_takeOwnOrder 17 = .ok (.iinc 2 1, 3) := by decide +kernel
theorem dWy_takeOwnOrder_20 : decode cWy_takeOwnOrder 20 = .ok (.goto (-18), 3) := by decide +kernel
theorem dWy_takeOwnOrder_23 : decode cWy_takeOwnOrder 23 = .ok (.return_, 1) := by decide +kernel
theorem dWy_measure_0 : decode cWy_measure 0 = .ok (.aload_n 0, 1) := by decide +kernel
theorem dWy_measure_1 : decode cWy_measure 1 = .ok (.lconst 0, 1) := by decide +kernel
theorem dWy_measure_2 : decode cWy_measure 2 = .ok (.putfield 59, 3) := by decide +kernel
theorem dWy_measure_5 : decode cWy_measure 5 = .ok (.iconst 0, 1) := by decide +kernel
theorem dWy_measure_6 : decode cWy_measure 6 = .ok (.istore_n 2, 1) := by decide +kernel
theorem dWy_measure_7 : decode cWy_measure 7 = .ok (.iconst 0, 1) := by decide +kernel
theorem dWy_measure_8 : decode cWy_measure 8 = .ok (.istore_n 3, 1) := by decide +kernel
theorem dWy_measure_9 : decode cWy_measure 9 = .ok (.iconst 0, 1) := by decide +kernel
theorem dWy_measure_10 : decode cWy_measure 10 = .ok (.istore 4, 2) := by decide +kernel
theorem dWy_measure_12 : decode cWy_measure 12 = .ok (.iload 4, 2) := by decide +kernel
theorem dWy_measure_14 : decode cWy_measure 14 = .ok (.aload_n 1, 1) := by decide +kernel
theorem dWy_measure_15 : decode cWy_measure 15 = .ok (.getfield 18, 3) := by decide +kernel
theorem dWy_measure_18 : decode cWy_measure 18 = .ok (.if_icmp .ge 52, 3) := by decide +kernel
theorem dWy_measure_21 : decode cWy_measure 21 = .ok (.aload_n 0, 1) := by decide +kernel
theorem dWy_measure_22 : decode cWy_measure 22 = .ok (.getfield 9, 3) := by decide +kernel
theorem dWy_measure_25 : decode cWy_measure 25 = .ok (.iload 4, 2) := by decide +kernel
theorem dWy_measure_27 : decode cWy_measure 27 = .ok (.iaload, 1) := by decide +kernel
theorem dWy_measure_28 : decode cWy_measure 28 = .ok (.istore 5, 2) := by decide +kernel
theorem dWy_measure_30 : decode cWy_measure 30 = .ok (.aload_n 0, 1) := by decide +kernel
theorem dWy_measure_31 : decode cWy_measure 31 = .ok (.dup, 1) := by decide +kernel
theorem dWy_measure_32 : decode cWy_measure 32 = .ok (.getfield 59, 3) := by decide +kernel
theorem dWy_measure_35 : decode cWy_measure 35 = .ok (.aload_n 1, 1) := by decide +kernel
theorem dWy_measure_36 : decode cWy_measure 36 = .ok (.iload 5, 2) := by decide +kernel
theorem dWy_measure_38 : decode cWy_measure 38 = .ok (.iload_n 2, 1) := by decide +kernel
theorem dWy_measure_39 : decode cWy_measure 39 = .ok (.iload_n 3, 1) := by decide +kernel
theorem dWy_measure_40 : decode cWy_measure 40 = .ok (.invokestatic 63, 3) := by decide +kernel
theorem dWy_measure_43 : decode cWy_measure 43 = .ok (.i2l, 1) := by decide +kernel
theorem dWy_measure_44 : decode cWy_measure 44 = .ok (.ladd, 1) := by decide +kernel
theorem dWy_measure_45 : decode cWy_measure 45 = .ok (.putfield 59, 3) := by decide +kernel
theorem dWy_measure_48 : decode cWy_measure 48 = .ok (.aload_n 1, 1) := by decide +kernel
theorem dWy_measure_49 : decode cWy_measure 49 = .ok (.getfield 41, 3) := by decide +kernel
theorem dWy_measure_52 : decode cWy_measure 52 = .ok (.iload 5, 2) := by decide +kernel
theorem dWy_measure_54 : decode cWy_measure 54 = .ok (.iaload, 1) := by decide +kernel
theorem dWy_measure_55 : decode cWy_measure 55 = .ok (.istore_n 2, 1) := by decide +kernel
theorem dWy_measure_56 : decode cWy_measure 56 = .ok (.aload_n 1, 1) := by decide +kernel
theorem dWy_measure_57 : decode cWy_measure 57 = .ok (.getfield 44, 3) := by decide +kernel
theorem dWy_measure_60 : decode cWy_measure 60 = .ok (.iload 5, 2) := by decide +kernel
theorem dWy_measure_62 : decode cWy_measure 62 = .ok (.iaload, 1) := by decide +kernel
theorem dWy_measure_63 : decode cWy_measure 63 = .ok (.istore_n 3, 1) := by decide +kernel
theorem dWy_measure_64 : decode cWy_measure 64 = .ok (.iinc 4 1, 3) := by decide +kernel
theorem dWy_measure_67 : decode cWy_measure 67 = .ok (.goto (-55), 3) := by decide +kernel
theorem dWy_measure_70 : decode cWy_measure 70 = .ok (.return_, 1) := by decide +kernel
theorem dHd_change_0 : decode cHd_change 0 = .ok (.aload_n 0, 1) := by decide +kernel
theorem dHd_change_1 : decode cHd_change 1 = .ok (.getfield 9, 3) := by decide +kernel
theorem dHd_change_4 : decode cHd_change 4 = .ok (.iload_n 1, 1) := by decide +kernel
theorem dHd_change_5 : decode cHd_change 5 = .ok (.iaload, 1) := by decide +kernel
theorem dHd_change_6 : decode cHd_change 6 = .ok (.iload_n 2, 1) := by decide +kernel
theorem dHd_change_7 : decode cHd_change 7 = .ok (.if_icmp .ne 26, 3) := by decide +kernel
theorem dHd_change_10 : decode cHd_change 10 = .ok (.aload_n 0, 1) := by decide +kernel
theorem dHd_change_11 : decode cHd_change 11 = .ok (.getfield 15, 3) := by decide +kernel
theorem dHd_change_14 : decode cHd_change 14 = .ok (.iload_n 1, 1) := by decide +kernel
theorem dHd_change_15 : decode cHd_change 15 = .ok (.iaload, 1) := by decide +kernel
theorem dHd_change_16 : decode cHd_change 16 = .ok (.iload_n 3, 1) := by decide +kernel
theorem dHd_change_17 : decode cHd_change 17 = .ok (.if_icmp .ne 16, 3) := by decide +kernel
theorem dHd_change_20 : decode cHd_change 20 = .ok (.aload_n 0, 1) := by decide +kernel
theorem dHd_change_21 : decode cHd_change 21 = .ok (.getfield 18, 3) := by decide +kernel
theorem dHd_change_24 : decode cHd_change 24 = .ok (.iload_n 1, 1) := by decide +kernel
theorem dHd_change_25 : decode cHd_change 25 = .ok (.iaload, 1) := by decide +kernel
theorem dHd_change_26 : decode cHd_change 26 = .ok (.iload 4, 2) := by decide +kernel
theorem dHd_change_28 : decode cHd_change 28 = .ok (.if_icmp .ne 5, 3) := by decide +kernel
theorem dHd_change_31 : decode cHd_change 31 = .ok (.iconst 0, 1) := by decide +kernel
theorem dHd_change_32 : decode cHd_change 32 = .ok (.ireturn, 1) := by decide +kernel
theorem dHd_change_33 : decode cHd_change 33 = .ok (.aload_n 0, 1) := by decide +kernel
theorem dHd_change_34 : decode cHd_change 34 = .ok (.getfield 9, 3) := by decide +kernel
theorem dHd_change_37 : decode cHd_change 37 = .ok (.iload_n 1, 1) := by decide +kernel
theorem dHd_change_38 : decode cHd_change 38 = .ok (.iload_n 2, 1) := by decide +kernel
theorem dHd_change_39 : decode cHd_change 39 = .ok (.iastore, 1) := by decide +kernel
theorem dHd_change_40 : decode cHd_change 40 = .ok (.aload_n 0, 1) := by decide +kernel
theorem dHd_change_41 : decode cHd_change 41 = .ok (.getfield 15, 3) := by decide +kernel
theorem dHd_change_44 : decode cHd_change 44 = .ok (.iload_n 1, 1) := by decide +kernel
theorem dHd_change_45 : decode cHd_change 45 = .ok (.iload_n 3, 1) := by decide +kernel
theorem dHd_change_46 : decode cHd_change 46 = .ok (.iastore, 1) := by decide +kernel
theorem dHd_change_47 : decode cHd_change 47 = .ok (.aload_n 0, 1) := by decide +kernel
theorem dHd_change_48 : decode cHd_change 48 = .ok (.getfield 18, 3) := by decide +kernel
theorem dHd_change_51 : decode cHd_change 51 = .ok (.iload_n 1, 1) := by decide +kernel
theorem dHd_change_52 : decode cHd_change 52 = .ok (.iload 4, 2) := by decide +kernel
theorem dHd_change_54 : decode cHd_change 54 = .ok (.iastore, 1) := by decide +kernel
theorem dHd_change_55 : decode cHd_change 55 = .ok (.aload_n 0, 1) := by decide +kernel
theorem dHd_change_56 : decode cHd_change 56 = .ok (.invokevirtual 21, 3) := by decide +kernel
theorem dHd_change_59 : decode cHd_change 59 = .ok (.iconst 1, 1) := by decide +kernel
theorem dHd_change_60 : decode cHd_change 60 = .ok (.ireturn, 1) := by decide +kernel
theorem dHd_measureFrame_0 : decode cHd_measureFrame 0 = .ok (.sipush 10000, 3) := by decide +kernel
theorem dHd_measureFrame_3 : decode cHd_measureFrame 3 = .ok (.istore_n 1, 1) := by decide +kernel
theorem dHd_measureFrame_4 : decode cHd_measureFrame 4 = .ok (.sipush 10000, 3) := by decide +kernel
theorem dHd_measureFrame_7 : decode cHd_measureFrame 7 = .ok (.istore_n 2, 1) := by decide +kernel
theorem dHd_measureFrame_8 : decode cHd_measureFrame 8 = .ok (.sipush (-10000), 3) := by decide +kernel
theorem dHd_measureFrame_11 : decode cHd_measureFrame 11 = .ok (.istore_n 3, 1) := by decide +kernel
theorem dHd_measureFrame_12 : decode cHd_measureFrame 12 = .ok (.sipush (-10000), 3) := by decide +kernel
theorem dHd_measureFrame_15 : decode cHd_measureFrame 15 = .ok (.istore 4, 2) := by decide +kernel
theorem dHd_measureFrame_17 : decode cHd_measureFrame 17 = .ok (.iconst 0, 1) := by decide +kernel
theorem dHd_measureFrame_18 : decode cHd_measureFrame 18 = .ok (.istore 5, 2) := by decide +kernel
theorem dHd_measureFrame_20 : decode cHd_measureFrame 20 = .ok (.iload 5, 2) := by decide +kernel
theorem dHd_measureFrame_22 : decode cHd_measureFrame 22 = .ok (.aload_n 0, 1) := by decide +kernel
theorem dHd_measureFrame_23 : decode cHd_measureFrame 23 = .ok (.getfield 18, 3) := by decide +kernel
theorem dHd_measureFrame_26 : decode cHd_measureFrame 26 = .ok (.arraylength, 1) := by decide +kernel
theorem dHd_measureFrame_27 : decode cHd_measureFrame 27 = .ok (.if_icmp .ge 69, 3) := by decide +kernel
theorem dHd_measureFrame_30 : decode cHd_measureFrame 30 = .ok (.aload_n 0, 1) := by decide +kernel
theorem dHd_measureFrame_31 : decode cHd_measureFrame 31 = .ok (.getfield 18, 3) := by decide +kernel
theorem dHd_measureFrame_34 : decode cHd_measureFrame 34 = .ok (.iload 5, 2) := by decide +kernel
theorem dHd_measureFrame_36 : decode cHd_measureFrame 36 = .ok (.iaload, 1) := by decide +kernel
theorem dHd_measureFrame_37 : decode cHd_measureFrame 37 = .ok (.ifCond .le 53, 3) := by decide +kernel
theorem dHd_measureFrame_40 : decode cHd_measureFrame 40 = .ok (.iload_n 1, 1) := by decide +kernel
theorem dHd_measureFrame_41 : decode cHd_measureFrame 41 = .ok (.aload_n 0, 1) := by decide +kernel
theorem dHd_measureFrame_42 : decode cHd_measureFrame 42 = .ok (.getfield 9, 3) := by decide +kernel
theorem dHd_measureFrame_45 : decode cHd_measureFrame 45 = .ok (.iload 5, 2) := by decide +kernel
theorem dHd_measureFrame_47 : decode cHd_measureFrame 47 = .ok (.iaload, 1) := by decide +kernel
theorem dHd_measureFrame_48 : decode cHd_measureFrame 48 = .ok (.invokestatic 24, 3) := by decide +kernel
theorem dHd_measureFrame_51 : decode cHd_measureFrame 51 = .ok (.istore_n 1, 1) := by decide +kernel
theorem dHd_measureFrame_52 : decode cHd_measureFrame 52 = .ok (.iload_n 2, 1) := by decide +kernel
theorem dHd_measureFrame_53 : decode cHd_measureFrame 53 = .ok (.aload_n 0, 1) := by decide +kernel
theorem dHd_measureFrame_54 : decode cHd_measureFrame 54 = .ok (.getfield 15, 3) := by decide +kernel
theorem dHd_measureFrame_57 : decode cHd_measureFrame 57 = .ok (.iload 5, 2) := by decide +kernel
theorem dHd_measureFrame_59 : decode cHd_measureFrame 59 = .ok (.iaload, 1) := by decide +kernel
theorem dHd_measureFrame_60 : decode cHd_measureFrame 60 = .ok (.invokestatic 24, 3) := by decide +kernel
theorem dHd_measureFrame_63 : decode cHd_measureFrame 63 = .ok (.istore_n 2, 1) := by decide +kernel
theorem dHd_measureFrame_64 : decode cHd_measureFrame 64 = .ok (.iload_n 3, 1) := by decide +kernel
theorem dHd_measureFrame_65 : decode cHd_measureFrame 65 = .ok (.aload_n 0, 1) := by decide +kernel
theorem dHd_measureFrame_66 : decode cHd_measureFrame 66 = .ok (.getfield 9, 3) := by decide +kernel
theorem dHd_measureFrame_69 : decode cHd_measureFrame 69 = .ok (.iload 5, 2) := by decide +kernel
theorem dHd_measureFrame_71 : decode cHd_measureFrame 71 = .ok (.iaload, 1) := by decide +kernel
theorem dHd_measureFrame_72 : decode cHd_measureFrame 72 = .ok (.invokestatic 30, 3) := by decide +kernel
theorem dHd_measureFrame_75 : decode cHd_measureFrame 75 = .ok (.istore_n 3, 1) := by decide +kernel
theorem dHd_measureFrame_76 : decode cHd_measureFrame 76 = .ok (.iload 4, 2) := by decide +kernel
theorem dHd_measureFrame_78 : decode cHd_measureFrame 78 = .ok (.aload_n 0, 1) := by decide +kernel
theorem dHd_measureFrame_79 : decode cHd_measureFrame 79 = .ok (.getfield 15, 3) := by decide +kernel
theorem dHd_measureFrame_82 : decode cHd_measureFrame 82 = .ok (.iload 5, 2) := by decide +kernel
theorem dHd_measureFrame_84 : decode cHd_measureFrame 84 = .ok (.iaload, 1) := by decide +kernel
theorem dHd_measureFrame_85 : decode cHd_measureFrame 85 = .ok (.invokestatic 30, 3) := by decide +kernel
theorem dHd_measureFrame_88 : decode cHd_measureFrame 88 = .ok (.istore 4, 2) := by decide +kernel
theorem dHd_measureFrame_90 : decode cHd_measureFrame 90 = .ok (.iinc 5 1, 3) := by decide +kernel
theorem dHd_measureFrame_93 : decode cHd_measureFrame 93 = .ok (.goto (-73), 3) := by decide +kernel
theorem dHd_measureFrame_96 : decode cHd_measureFrame 96 = .ok (.aload_n 0, 1) := by decide +kernel
theorem dHd_measureFrame_97 : decode cHd_measureFrame 97 = .ok (.iload_n 1, 1) := by decide +kernel
theorem dHd_measureFrame_98 : decode cHd_measureFrame 98 = .ok (.iconst 1, 1) := by decide +kernel
theorem dHd_measureFrame_99 : decode cHd_measureFrame 99 = .ok (.isub, 1) := by decide +kernel
theorem dHd_measureFrame_100 : decode cHd_measureFrame 100 = .ok (.putfield 33, 3) := by decide +kernel
theorem dHd_measureFrame_103 : decode cHd_measureFrame 103 = .ok (.aload_n 0, 1) := by decide +kernel
theorem dHd_measureFrame_104 : decode cHd_measureFrame 104 = .ok (.iload_n 2, 1) := by decide +kernel
theorem dHd_measureFrame_105 : decode cHd_measureFrame 105 = .ok (.iconst 1, 1) := by decide +kernel
theorem dHd_measureFrame_106 : decode cHd_measureFrame 106 = .ok (.isub, 1) := by decide +kernel
theorem dHd_measureFrame_107 : decode cHd_measureFrame 107 = .ok (.putfield 37, 3) := by decide +kernel
theorem dHd_measureFrame_110 : decode cHd_measureFrame 110 = .ok (.aload_n 0, 1) := by decide +kernel
theorem dHd_measureFrame_111 : decode cHd_measureFrame 111 = .ok (.iload_n 3, 1) := by decide +kernel
theorem dHd_measureFrame_112 : decode cHd_measureFrame 112 = .ok (.iconst 1, 1) := by decide +kernel
theorem dHd_measureFrame_113 : decode cHd_measureFrame 113 = .ok (.iadd, 1) := by decide +kernel
theorem dHd_measureFrame_114 : decode cHd_measureFrame 114 = .ok (.putfield 40, 3) := by decide +kernel
theorem dHd_measureFrame_117 : decode cHd_measureFrame 117 = .ok (.aload_n 0, 1) := by decide +kernel
theorem dHd_measureFrame_118 : decode cHd_measureFrame 118 = .ok (.iload 4, 2) := by decide +kernel
theorem dHd_measureFrame_120 : decode cHd_measureFrame 120 = .ok (.iconst 1, 1) := by decide +kernel
theorem dHd_measureFrame_121 : decode cHd_measureFrame 121 = .ok (.iadd, 1) := by decide +kernel
theorem dHd_measureFrame_122 : decode cHd_measureFrame 122 = .ok (.putfield 43, 3) := by decide +kernel
theorem dHd_measureFrame_125 : decode cHd_measureFrame 125 = .ok (.return_, 1) := by decide +kernel
theorem dPt_add_0 : decode cPt_add 0 = .ok (.aload_n 0, 1) := by decide +kernel
theorem dPt_add_1 : decode cPt_add 1 = .ok (.getfield 31, 3) := by decide +kernel
theorem dPt_add_4 : decode cPt_add 4 = .ok (.istore 6, 2) := by decide +kernel
theorem dPt_add_6 : decode cPt_add 6 = .ok (.aload_n 0, 1) := by decide +kernel
theorem dPt_add_7 : decode cPt_add 7 = .ok (.getfield 9, 3) := by decide +kernel
theorem dPt_add_10 : decode cPt_add 10 = .ok (.iload 6, 2) := by decide +kernel
theorem dPt_add_12 : decode cPt_add 12 = .ok (.iload_n 1, 1) := by decide +kernel
theorem dPt_add_13 : decode cPt_add 13 = .ok (.iastore, 1) := by decide +kernel
theorem dPt_add_14 : decode cPt_add 14 = .ok (.aload_n 0, 1) := by decide +kernel
theorem dPt_add_15 : decode cPt_add 15 = .ok (.getfield 15, 3) := by decide +kernel
theorem dPt_add_18 : decode cPt_add 18 = .ok (.iload 6, 2) := by decide +kernel
theorem dPt_add_20 : decode cPt_add 20 = .ok (.iload_n 2, 1) := by decide +kernel
theorem dPt_add_21 : decode cPt_add 21 = .ok (.iastore, 1) := by decide +kernel
theorem dPt_add_22 : decode cPt_add 22 = .ok (.aload_n 0, 1) := by decide +kernel
theorem dPt_add_23 : decode cPt_add 23 = .ok (.getfield 18, 3) := by decide +kernel
theorem dPt_add_26 : decode cPt_add 26 = .ok (.iload 6, 2) := by decide +kernel
theorem dPt_add_28 : decode cPt_add 28 = .ok (.iload_n 3, 1) := by decide +kernel
theorem dPt_add_29 : decode cPt_add 29 = .ok (.iastore, 1) := by decide +kernel
theorem dPt_add_30 : decode cPt_add 30 = .ok (.aload_n 0, 1) := by decide +kernel
theorem dPt_add_31 : decode cPt_add 31 = .ok (.getfield 21, 3) := by decide +kernel
theorem dPt_add_34 : decode cPt_add 34 = .ok (.iload 6, 2) := by decide +kernel
theorem dPt_add_36 : decode cPt_add 36 = .ok (.iload 4, 2) := by decide +kernel
theorem dPt_add_38 : decode cPt_add 38 = .ok (.iastore, 1) := by decide +kernel
theorem dPt_add_39 : decode cPt_add 39 = .ok (.aload_n 0, 1) := by decide +kernel
theorem dPt_add_40 : decode cPt_add 40 = .ok (.getfield 24, 3) := by decide +kernel
theorem dPt_add_43 : decode cPt_add 43 = .ok (.iload 6, 2) := by decide +kernel
theorem dPt_add_45 : decode cPt_add 45 = .ok (.iload 5, 2) := by decide +kernel
theorem dPt_add_47 : decode cPt_add 47 = .ok (.iastore, 1) := by decide +kernel
theorem dPt_add_48 : decode cPt_add 48 = .ok (.aload_n 0, 1) := by decide +kernel
theorem dPt_add_49 : decode cPt_add 49 = .ok (.dup, 1) := by decide +kernel
theorem dPt_add_50 : decode cPt_add 50 = .ok (.getfield 31, 3) := by decide +kernel
theorem dPt_add_53 : decode cPt_add 53 = .ok (.iconst 1, 1) := by decide +kernel
theorem dPt_add_54 : decode cPt_add 54 = .ok (.iadd, 1) := by decide +kernel
theorem dPt_add_55 : decode cPt_add 55 = .ok (.putfield 31, 3) := by decide +kernel
theorem dPt_add_58 : decode cPt_add 58 = .ok (.iload 6, 2) := by decide +kernel
theorem dPt_add_60 : decode cPt_add 60 = .ok (.ireturn, 1) := by decide +kernel
theorem dCl_add_0 : decode cCl_add 0 = .ok (.aload_n 0, 1) := by decide +kernel
theorem dCl_add_1 : decode cCl_add 1 = .ok (.getfield 9, 3) := by decide +kernel
theorem dCl_add_4 : decode cCl_add 4 = .ok (.aload_n 0, 1) := by decide +kernel
theorem dCl_add_5 : decode cCl_add 5 = .ok (.getfield 24, 3) := by decide +kernel
theorem dCl_add_8 : decode cCl_add 8 = .ok (.iload_n 1, 1) := by decide +kernel
theorem dCl_add_9 : decode cCl_add 9 = .ok (.iastore, 1) := by decide +kernel
theorem dCl_add_10 : decode cCl_add 10 = .ok (.aload_n 0, 1) := by decide +kernel
theorem dCl_add_11 : decode cCl_add 11 = .ok (.getfield 15, 3) := by decide +kernel
theorem dCl_add_14 : decode cCl_add 14 = .ok (.aload_n 0, 1) := by decide +kernel
theorem dCl_add_15 : decode cCl_add 15 = .ok (.getfield 24, 3) := by decide +kernel
theorem dCl_add_18 : decode cCl_add 18 = .ok (.iload_n 2, 1) := by decide +kernel
theorem dCl_add_19 : decode cCl_add 19 = .ok (.iastore, 1) := by decide +kernel
theorem dCl_add_20 : decode cCl_add 20 = .ok (.aload_n 0, 1) := by decide +kernel
theorem dCl_add_21 : decode cCl_add 21 = .ok (.getfield 18, 3) := by decide +kernel
theorem dCl_add_24 : decode cCl_add 24 = .ok (.aload_n 0, 1) := by decide +kernel
theorem dCl_add_25 : decode cCl_add 25 = .ok (.getfield 24, 3) := by decide +kernel
theorem dCl_add_28 : decode cCl_add 28 = .ok (.iload_n 3, 1) := by decide +kernel
theorem dCl_add_29 : decode cCl_add 29 = .ok (.iastore, 1) := by decide +kernel
theorem dCl_add_30 : decode cCl_add 30 = .ok (.aload_n 0, 1) := by decide +kernel
theorem dCl_add_31 : decode cCl_add 31 = .ok (.getfield 21, 3) := by decide +kernel
theorem dCl_add_34 : decode cCl_add 34 = .ok (.aload_n 0, 1) := by decide +kernel
theorem dCl_add_35 : decode cCl_add 35 = .ok (.getfield 24, 3) := by decide +kernel
theorem dCl_add_38 : decode cCl_add 38 = .ok (.iload 4, 2) := by decide +kernel
theorem dCl_add_40 : decode cCl_add 40 = .ok (.iastore, 1) := by decide +kernel
theorem dCl_add_41 : decode cCl_add 41 = .ok (.aload_n 0, 1) := by decide +kernel
theorem dCl_add_42 : decode cCl_add 42 = .ok (.dup, 1) := by decide +kernel
theorem dCl_add_43 : decode cCl_add 43 = .ok (.getfield 24, 3) := by decide +kernel
theorem dCl_add_46 : decode cCl_add 46 = .ok (.iconst 1, 1) := by decide +kernel
theorem dCl_add_47 : decode cCl_add 47 = .ok (.iadd, 1) := by decide +kernel
theorem dCl_add_48 : decode cCl_add 48 = .ok (.putfield 24, 3) := by decide +kernel
theorem dCl_add_51 : decode cCl_add 51 = .ok (.return_, 1) := by decide +kernel
theorem dHt_drilling_0 : decode cHt_drilling 0 = .ok (.iconst 0, 1) := by decide +kernel
theorem dHt_drilling_1 : decode cHt_drilling 1 = .ok (.istore_n 2, 1) := by decide +kernel
theorem dHt_drilling_2 : decode cHt_drilling 2 = .ok (.iload_n 2, 1) := by decide +kernel
theorem dHt_drilling_3 : decode cHt_drilling 3 = .ok (.aload_n 0, 1) := by decide +kernel
theorem dHt_drilling_4 : decode cHt_drilling 4 = .ok (.getfield 24, 3) := by decide +kernel
theorem dHt_drilling_7 : decode cHt_drilling 7 = .ok (.if_icmp .ge 24, 3) := by decide +kernel
theorem dHt_drilling_10 : decode cHt_drilling 10 = .ok (.aload_n 0, 1) := by decide +kernel
theorem dHt_drilling_11 : decode cHt_drilling 11 = .ok (.getfield 21, 3) := by decide +kernel
theorem dHt_drilling_14 : decode cHt_drilling 14 = .ok (.iload_n 2, 1) := by decide +kernel
theorem dHt_drilling_15 : decode cHt_drilling 15 = .ok (.iaload, 1) := by decide +kernel
theorem dHt_drilling_16 : decode cHt_drilling 16 = .ok (.iload_n 1, 1) := by decide +kernel
theorem dHt_drilling_17 : decode cHt_drilling 17 = .ok (.invokestatic 28, 3) := by decide +kernel
theorem dHt_drilling_20 : decode cHt_drilling 20 = .ok (.ifCond .eq 5, 3) := by decide +kernel
theorem dHt_drilling_23 : decode cHt_drilling 23 = .ok (.iload_n 2, 1) := by decide +kernel
theorem dHt_drilling_24 : decode cHt_drilling 24 = .ok (.ireturn, 1) := by decide +kernel
theorem dHt_drilling_25 : decode cHt_drilling 25 = .ok (.iinc 2 1, 3) := by decide +kernel
theorem dHt_drilling_28 : decode cHt_drilling 28 = .ok (.goto (-26), 3) := by decide +kernel
theorem dHt_drilling_31 : decode cHt_drilling 31 = .ok (.iconst (-1), 1) := by decide +kernel
theorem dHt_drilling_32 : decode cHt_drilling 32 = .ok (.ireturn, 1) := by decide +kernel
theorem dHd_countThere_0 : decode cHd_countThere 0 = .ok (.iconst 0, 1) := by decide +kernel
theorem dHd_countThere_1 : decode cHd_countThere 1 = .ok (.istore_n 1, 1) := by decide +kernel
theorem dHd_countThere_2 : decode cHd_countThere 2 = .ok (.iconst 0, 1) := by decide +kernel
theorem dHd_countThere_3 : decode cHd_countThere 3 = .ok (.istore_n 2, 1) := by decide +kernel
theorem dHd_countThere_4 : decode cHd_countThere 4 = .ok (.iload_n 2, 1) := by decide +kernel
theorem dHd_countThere_5 : decode cHd_countThere 5 = .ok (.aload_n 0, 1) := by decide +kernel
theorem dHd_countThere_6 : decode cHd_countThere 6 = .ok (.getfield 18, 3) := by decide +kernel
theorem dHd_countThere_9 : decode cHd_countThere 9 = .ok (.arraylength, 1) := by decide +kernel
theorem dHd_countThere_10 : decode cHd_countThere 10 = .ok (.if_icmp .ge 21, 3) := by decide +kernel
theorem dHd_countThere_13 : decode cHd_countThere 13 = .ok (.aload_n 0, 1) := by decide +kernel
theorem dHd_countThere_14 : decode cHd_countThere 14 = .ok (.getfield 18, 3) := by decide +kernel
theorem dHd_countThere_17 : decode cHd_countThere 17 = .ok (.iload_n 2, 1) := by decide +kernel
theorem dHd_countThere_18 : decode cHd_countThere 18 = .ok (.iaload, 1) := by decide +kernel
theorem dHd_countThere_19 : decode cHd_countThere 19 = .ok (.ifCond .le 6, 3) := by decide +kernel
theorem dHd_countThere_22 : decode cHd_countThere 22 = .ok (.iinc 1 1, 3) := by decide +kernel
theorem dHd_countThere_25 : decode cHd_countThere 25 = .ok (.iinc 2 1, 3) := by decide +kernel
theorem dHd_countThere_28 : decode cHd_countThere 28 = .ok (.goto (-24), 3) := by decide +kernel
theorem dHd_countThere_31 : decode cHd_countThere 31 = .ok (.iload_n 1, 1) := by decide +kernel
theorem dHd_countThere_32 : decode cHd_countThere 32 = .ok (.ireturn, 1) := by decide +kernel
