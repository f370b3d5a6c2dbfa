theorem dDH_init_0 : decode cDH_init 0 = .ok (.aload_n 0, 1) := by decide +kernel
theorem dDH_init_1 : decode cDH_init 1 = .ok (.invokespecial 1, 3) := by decide +kernel
theorem dDH_init_4 : decode cDH_init 4 = .ok (.aload_n 0, 1) := by decide +kernel
theorem dDH_init_5 : decode cDH_init 5 = .ok (.new 7, 3) := by decide +kernel
theorem dDH_init_8 : decode cDH_init 8 = .ok (.dup, 1) := by decide +kernel
theorem dDH_init_9 : decode cDH_init 9 = .ok (.iconst 1, 1) := by decide +kernel
theorem dDH_init_10 : decode cDH_init 10 = .ok (.bipush 16, 2) := by decide +kernel
theorem dDH_init_12 : decode cDH_init 12 = .ok (.iload_n 1, 1) := by decide +kernel
theorem dDH_init_13 : decode cDH_init 13 = .ok (.invokestatic 11, 3) := by decide +kernel
theorem dDH_init_16 : decode cDH_init 16 = .ok (.invokestatic 17, 3) := by decide +kernel
theorem dDH_init_19 : decode cDH_init 19 = .ok (.invokespecial 20, 3) := by decide +kernel
theorem dDH_init_22 : decode cDH_init 22 = .ok (.putfield 23, 3) := by decide +kernel
theorem dDH_init_25 : decode cDH_init 25 = .ok (.aload_n 0, 1) := by decide +kernel
theorem dDH_init_26 : decode cDH_init 26 = .ok (.new 27, 3) := by decide +kernel
theorem dDH_init_29 : decode cDH_init 29 = .ok (.dup, 1) := by decide +kernel
theorem dDH_init_30 : decode cDH_init 30 = .ok (.invokespecial 29, 3) := by decide +kernel
theorem dDH_init_33 : decode cDH_init 33 = .ok (.putfield 30, 3) := by decide +kernel
theorem dDH_init_36 : decode cDH_init 36 = .ok (.aload_n 0, 1) := by decide +kernel
theorem dDH_init_37 : decode cDH_init 37 = .ok (.new 34, 3) := by decide +kernel
theorem dDH_init_40 : decode cDH_init 40 = .ok (.dup, 1) := by decide +kernel
theorem dDH_init_41 : decode cDH_init 41 = .ok (.invokespecial 36, 3) := by decide +kernel
theorem dDH_init_44 : decode cDH_init 44 = .ok (.putfield 37, 3) := by decide +kernel
theorem dDH_init_47 : decode cDH_init 47 = .ok (.aload_n 0, 1) := by decide +kernel
theorem dDH_init_48 : decode cDH_init 48 = .ok (.bipush 14, 2) := by decide +kernel
theorem dDH_init_50 : decode cDH_init 50 = .ok (.anewarray 41, 3) := by decide +kernel
theorem dDH_init_53 : decode cDH_init 53 = .ok (.putfield 43, 3) := by decide +kernel
theorem dDH_init_56 : decode cDH_init 56 = .ok (.iconst 0, 1) := by decide +kernel
theorem dDH_init_57 : decode cDH_init 57 = .ok (.istore_n 2, 1) := by decide +kernel
theorem dDH_init_58 : decode cDH_init 58 = .ok (.iload_n 2, 1) := by decide +kernel
theorem dDH_init_59 : decode cDH_init 59 = .ok (.bipush 14, 2) := by decide +kernel
theorem dDH_init_61 : decode cDH_init 61 = .ok (.if_icmp .ge 22, 3) := by decide +kernel
theorem dDH_init_64 : decode cDH_init 64 = .ok (.aload_n 0, 1) := by decide +kernel
theorem dDH_init_65 : decode cDH_init 65 = .ok (.getfield 43, 3) := by decide +kernel
theorem dDH_init_68 : decode cDH_init 68 = .ok (.iload_n 2, 1) := by decide +kernel
theorem dDH_init_69 : decode cDH_init 69 = .ok (.new 41, 3) := by decide +kernel
theorem dDH_init_72 : decode cDH_init 72 = .ok (.dup, 1) := by decide +kernel
theorem dDH_init_73 : decode cDH_init 73 = .ok (.invokespecial 47, 3) := by decide +kernel
theorem dDH_init_76 : decode cDH_init 76 = .ok (.aastore, 1) := by decide +kernel
theorem dDH_init_77 : decode cDH_init 77 = .ok (.iinc 2 1, 3) := by decide +kernel
theorem dDH_init_80 : decode cDH_init 80 = .ok (.goto (-22), 3) := by decide +kernel
theorem dDH_init_83 : decode cDH_init 83 = .ok (.aload_n 0, 1) := by decide +kernel
theorem dDH_init_84 : decode cDH_init 84 = .ok (.new 48, 3) := by decide +kernel
theorem dDH_init_87 : decode cDH_init 87 = .ok (.dup, 1) := by decide +kernel
theorem dDH_init_88 : decode cDH_init 88 = .ok (.invokespecial 50, 3) := by decide +kernel
theorem dDH_init_91 : decode cDH_init 91 = .ok (.putfield 51, 3) := by decide +kernel
theorem dDH_init_94 : decode cDH_init 94 = .ok (.aload_n 0, 1) := by decide +kernel
theorem dDH_init_95 : decode cDH_init 95 = .ok (.new 55, 3) := by decide +kernel
theorem dDH_init_98 : decode cDH_init 98 = .ok (.dup, 1) := by decide +kernel
theorem dDH_init_99 : decode cDH_init 99 = .ok (.invokespecial 57, 3) := by decide +kernel
theorem dDH_init_102 : decode cDH_init 102 = .ok (.putfield 58, 3) := by decide +kernel
theorem dDH_init_105 : decode cDH_init 105 = .ok (.aload_n 0, 1) := by decide +kernel
theorem dDH_init_106 : decode cDH_init 106 = .ok (.new 62, 3) := by decide +kernel
theorem dDH_init_109 : decode cDH_init 109 = .ok (.dup, 1) := by decide +kernel
theorem dDH_init_110 : decode cDH_init 110 = .ok (.invokespecial 64, 3) := by decide +kernel
theorem dDH_init_113 : decode cDH_init 113 = .ok (.putfield 65, 3) := by decide +kernel
theorem dDH_init_116 : decode cDH_init 116 = .ok (.return_, 1) := by decide +kernel
theorem dDH_run_0 : decode cDH_run 0 = .ok (.aload_n 0, 1) := by decide +kernel
theorem dDH_run_1 : decode cDH_run 1 = .ok (.getfield 92, 3) := by decide +kernel
theorem dDH_run_4 : decode cDH_run 4 = .ok (.ifCond .ne 27, 3) := by decide +kernel
theorem dDH_run_7 : decode cDH_run 7 = .ok (.aload_n 0, 1) := by decide +kernel
theorem dDH_run_8 : decode cDH_run 8 = .ok (.invokevirtual 130, 3) := by decide +kernel
theorem dDH_run_11 : decode cDH_run 11 = .ok (.aload_n 0, 1) := by decide +kernel
theorem dDH_run_12 : decode cDH_run 12 = .ok (.invokevirtual 133, 3) := by decide +kernel
theorem dDH_run_15 : decode cDH_run 15 = .ok (.aload_n 0, 1) := by decide +kernel
theorem dDH_run_16 : decode cDH_run 16 = .ok (.getfield 65, 3) := by decide +kernel
theorem dDH_run_19 : decode cDH_run 19 = .ok (.aload_n 0, 1) := by decide +kernel
theorem dDH_run_20 : decode cDH_run 20 = .ok (.getfield 51, 3) := by decide +kernel
theorem dDH_run_23 : decode cDH_run 23 = .ok (.invokevirtual 136, 3) := by decide +kernel
theorem dDH_run_26 : decode cDH_run 26 = .ok (.aload_n 0, 1) := by decide +kernel
theorem dDH_run_27 : decode cDH_run 27 = .ok (.iconst 1, 1) := by decide +kernel
theorem dDH_run_28 : decode cDH_run 28 = .ok (.putfield 92, 3) := by decide +kernel
theorem dDH_run_31 : decode cDH_run 31 = .ok (.aload_n 0, 1) := by decide +kernel
theorem dDH_run_32 : decode cDH_run 32 = .ok (.getfield 51, 3) := by decide +kernel
theorem dDH_run_35 : decode cDH_run 35 = .ok (.getfield 140, 3) := by decide +kernel
theorem dDH_run_38 : decode cDH_run 38 = .ok (.ireturn, 1) := by decide +kernel
theorem dDH_findPlaces_0 : decode cDH_findPlaces 0 = .ok (.aload_n 0, 1) := by decide +kernel
theorem dDH_findPlaces_1 : decode cDH_findPlaces 1 = .ok (.iconst 0, 1) := by decide +kernel
theorem dDH_findPlaces_2 : decode cDH_findPlaces 2 = .ok (.putfield 172, 3) := by decide +kernel
theorem dDH_findPlaces_5 : decode cDH_findPlaces 5 = .ok (.iconst 0, 1) := by decide +kernel
theorem dDH_findPlaces_6 : decode cDH_findPlaces 6 = .ok (.istore_n 1, 1) := by decide +kernel
theorem dDH_findPlaces_7 : decode cDH_findPlaces 7 = .ok (.iload_n 1, 1) := by decide +kernel
theorem dDH_findPlaces_8 : decode cDH_findPlaces 8 = .ok (.aload_n 0, 1) := by decide +kernel
theorem dDH_findPlaces_9 : decode cDH_findPlaces 9 = .ok (.getfield 30, 3) := by decide +kernel
theorem dDH_findPlaces_12 : decode cDH_findPlaces 12 = .ok (.getfield 96, 3) := by decide +kernel
theorem dDH_findPlaces_15 : decode cDH_findPlaces 15 = .ok (.if_icmp .ge 73, 3) := by decide +kernel
theorem dDH_findPlaces_18 : decode cDH_findPlaces 18 = .ok (.aload_n 0, 1) := by decide +kernel
theorem dDH_findPlaces_19 : decode cDH_findPlaces 19 = .ok (.getfield 43, 3) := by decide +kernel
theorem dDH_findPlaces_22 : decode cDH_findPlaces 22 = .ok (.iload_n 1, 1) := by decide +kernel
theorem dDH_findPlaces_23 : decode cDH_findPlaces 23 = .ok (.aaload, 1) := by decide +kernel
theorem dDH_findPlaces_24 : decode cDH_findPlaces 24 = .ok (.iload_n 1, 1) := by decide +kernel
theorem dDH_findPlaces_25 : decode cDH_findPlaces 25 = .ok (.aload_n 0, 1) := by decide +kernel
theorem dDH_findPlaces_26 : decode cDH_findPlaces 26 = .ok (.getfield 30, 3) := by decide +kernel
theorem dDH_findPlaces_29 : decode cDH_findPlaces 29 = .ok (.aload_n 0, 1) := by decide +kernel
theorem dDH_findPlaces_30 : decode cDH_findPlaces 30 = .ok (.getfield 23, 3) := by decide +kernel
theorem dDH_findPlaces_33 : decode cDH_findPlaces 33 = .ok (.aload_n 0, 1) := by decide +kernel
theorem dDH_findPlaces_34 : decode cDH_findPlaces 34 = .ok (.getfield 37, 3) := by decide +kernel
theorem dDH_findPlaces_37 : decode cDH_findPlaces 37 = .ok (.invokevirtual 191, 3) := by decide +kernel
theorem dDH_findPlaces_40 : decode cDH_findPlaces 40 = .ok (.aload_n 0, 1) := by decide +kernel
theorem dDH_findPlaces_41 : decode cDH_findPlaces 41 = .ok (.getfield 43, 3) := by decide +kernel
theorem dDH_findPlaces_44 : decode cDH_findPlaces 44 = .ok (.iload_n 1, 1) := by decide +kernel
theorem dDH_findPlaces_45 : decode cDH_findPlaces 45 = .ok (.aaload, 1) := by decide +kernel
theorem dDH_findPlaces_46 : decode cDH_findPlaces 46 = .ok (.iload_n 1, 1) := by decide +kernel
theorem dDH_findPlaces_47 : decode cDH_findPlaces 47 = .ok (.aload_n 0, 1) := by decide +kernel
theorem dDH_findPlaces_48 : decode cDH_findPlaces 48 = .ok (.getfield 30, 3) := by decide +kernel
theorem dDH_findPlaces_51 : decode cDH_findPlaces 51 = .ok (.aload_n 0, 1) := by decide +kernel
theorem dDH_findPlaces_52 : decode cDH_findPlaces 52 = .ok (.getfield 23, 3) := by decide +kernel
theorem dDH_findPlaces_55 : decode cDH_findPlaces 55 = .ok (.invokevirtual 197, 3) := by decide +kernel
theorem dDH_findPlaces_58 : decode cDH_findPlaces 58 = .ok (.aload_n 0, 1) := by decide +kernel
theorem dDH_findPlaces_59 : decode cDH_findPlaces 59 = .ok (.getfield 43, 3) := by decide +kernel
theorem dDH_findPlaces_62 : decode cDH_findPlaces 62 = .ok (.iload_n 1, 1) := by decide +kernel
theorem dDH_findPlaces_63 : decode cDH_findPlaces 63 = .ok (.aaload, 1) := by decide +kernel
theorem dDH_findPlaces_64 : decode cDH_findPlaces 64 = .ok (.getfield 194, 3) := by decide +kernel
theorem dDH_findPlaces_67 : decode cDH_findPlaces 67 = .ok (.ifCond .ne 15, 3) := by decide +kernel
theorem dDH_findPlaces_70 : decode cDH_findPlaces 70 = .ok (.aload_n 0, 1) := by decide +kernel
theorem dDH_findPlaces_71 : decode cDH_findPlaces 71 = .ok (.dup, 1) := by decide +kernel
theorem dDH_findPlaces_72 : decode cDH_findPlaces 72 = .ok (.getfield 172, 3) := by decide +kernel
theorem dDH_findPlaces_75 : decode cDH_findPlaces 75 = .ok (.iconst 1, 1) := by decide +kernel
theorem dDH_findPlaces_76 : decode cDH_findPlaces 76 = .ok (.iload_n 1, 1) := by decide +kernel
theorem dDH_findPlaces_77 : decode cDH_findPlaces 77 = .ok (.ishl, 1) := by decide +kernel
theorem dDH_findPlaces_78 : decode cDH_findPlaces 78 = .ok (.ior, 1) := by decide +kernel
theorem dDH_findPlaces_79 : decode cDH_findPlaces 79 = .ok (.putfield 172, 3) := by decide +kernel
theorem dDH_findPlaces_82 : decode cDH_findPlaces 82 = .ok (.iinc 1 1, 3) := by decide +kernel
theorem dDH_findPlaces_85 : decode cDH_findPlaces 85 = .ok (.goto (-78), 3) := by decide +kernel
theorem dDH_findPlaces_88 : decode cDH_findPlaces 88 = .ok (.return_, 1) := by decide +kernel
theorem dDH_planHits_0 : decode cDH_planHits 0 = .ok (.iconst 1, 1) := by decide +kernel
theorem dDH_planHits_1 : decode cDH_planHits 1 = .ok (.aload_n 0, 1) := by decide +kernel
theorem dDH_planHits_2 : decode cDH_planHits 2 = .ok (.getfield 30, 3) := by decide +kernel
theorem dDH_planHits_5 : decode cDH_planHits 5 = .ok (.getfield 96, 3) := by decide +kernel
theorem dDH_planHits_8 : decode cDH_planHits 8 = .ok (.ishl, 1) := by decide +kernel
theorem dDH_planHits_9 : decode cDH_planHits 9 = .ok (.iconst 1, 1) := by decide +kernel
theorem dDH_planHits_10 : decode cDH_planHits 10 = .ok (.isub, 1) := by decide +kernel
theorem dDH_planHits_11 : decode cDH_planHits 11 = .ok (.aload_n 0, 1) := by decide +kernel
theorem dDH_planHits_12 : decode cDH_planHits 12 = .ok (.getfield 172, 3) := by decide +kernel
theorem dDH_planHits_15 : decode cDH_planHits 15 = .ok (.iconst (-1), 1) := by decide +kernel
theorem dDH_planHits_16 : decode cDH_planHits 16 = .ok (.ixor, 1) := by decide +kernel
theorem dDH_planHits_17 : decode cDH_planHits 17 = .ok (.iand, 1) := by decide +kernel
theorem dDH_planHits_18 : decode cDH_planHits 18 = .ok (.istore_n 1, 1) := by decide +kernel
theorem dDH_planHits_19 : decode cDH_planHits 19 = .ok (.aload_n 0, 1) := by decide +kernel
theorem dDH_planHits_20 : decode cDH_planHits 20 = .ok (.getfield 58, 3) := by decide +kernel
theorem dDH_planHits_23 : decode cDH_planHits 23 = .ok (.aload_n 0, 1) := by decide +kernel
theorem dDH_planHits_24 : decode cDH_planHits 24 = .ok (.getfield 43, 3) := by decide +kernel
theorem dDH_planHits_27 : decode cDH_planHits 27 = .ok (.aload_n 0, 1) := by decide +kernel
theorem dDH_planHits_28 : decode cDH_planHits 28 = .ok (.getfield 30, 3) := by decide +kernel
theorem dDH_planHits_31 : decode cDH_planHits 31 = .ok (.getfield 96, 3) := by decide +kernel
theorem dDH_planHits_34 : decode cDH_planHits 34 = .ok (.iload_n 1, 1) := by decide +kernel
theorem dDH_planHits_35 : decode cDH_planHits 35 = .ok (.invokevirtual 201, 3) := by decide +kernel
theorem dDH_planHits_38 : decode cDH_planHits 38 = .ok (.aload_n 0, 1) := by decide +kernel
theorem dDH_planHits_39 : decode cDH_planHits 39 = .ok (.getfield 51, 3) := by decide +kernel
theorem dDH_planHits_42 : decode cDH_planHits 42 = .ok (.iconst 0, 1) := by decide +kernel
theorem dDH_planHits_43 : decode cDH_planHits 43 = .ok (.putfield 140, 3) := by decide +kernel
theorem dDH_planHits_46 : decode cDH_planHits 46 = .ok (.iload_n 1, 1) := by decide +kernel
theorem dDH_planHits_47 : decode cDH_planHits 47 = .ok (.istore_n 2, 1) := by decide +kernel
theorem dDH_planHits_48 : decode cDH_planHits 48 = .ok (.iconst 0, 1) := by decide +kernel
theorem dDH_planHits_49 : decode cDH_planHits 49 = .ok (.istore_n 3, 1) := by decide +kernel
theorem dDH_planHits_50 : decode cDH_planHits 50 = .ok (.iload_n 3, 1) := by decide +kernel
theorem dDH_planHits_51 : decode cDH_planHits 51 = .ok (.bipush 14, 2) := by decide +kernel
theorem dDH_planHits_53 : decode cDH_planHits 53 = .ok (.if_icmp .ge 96, 3) := by decide +kernel
theorem dDH_planHits_56 : decode cDH_planHits 56 = .ok (.iload_n 2, 1) := by decide +kernel
theorem dDH_planHits_57 : decode cDH_planHits 57 = .ok (.ifCond .eq 92, 3) := by decide +kernel
theorem dDH_planHits_60 : decode cDH_planHits 60 = .ok (.iload_n 2, 1) := by decide +kernel
theorem dDH_planHits_61 : decode cDH_planHits 61 = .ok (.invokestatic 205, 3) := by decide +kernel
theorem dDH_planHits_64 : decode cDH_planHits 64 = .ok (.istore 4, 2) := by decide +kernel
theorem dDH_planHits_66 : decode cDH_planHits 66 = .ok (.aload_n 0, 1) := by decide +kernel
theorem dDH_planHits_67 : decode cDH_planHits 67 = .ok (.getfield 43, 3) := by decide +kernel
theorem dDH_planHits_70 : decode cDH_planHits 70 = .ok (.iload 4, 2) := by decide +kernel
theorem dDH_planHits_72 : decode cDH_planHits 72 = .ok (.aaload, 1) := by decide +kernel
theorem dDH_planHits_73 : decode cDH_planHits 73 = .ok (.astore 5, 2) := by decide +kernel
theorem dDH_planHits_75 : decode cDH_planHits 75 = .ok (.aload_n 0, 1) := by decide +kernel
theorem dDH_planHits_76 : decode cDH_planHits 76 = .ok (.getfield 58, 3) := by decide +kernel
theorem dDH_planHits_79 : decode cDH_planHits 79 = .ok (.aload 5, 2) := by decide +kernel
theorem dDH_planHits_81 : decode cDH_planHits 81 = .ok (.iload_n 2, 1) := by decide +kernel
theorem dDH_planHits_82 : decode cDH_planHits 82 = .ok (.invokevirtual 208, 3) := by decide +kernel
theorem dDH_planHits_85 : decode cDH_planHits 85 = .ok (.istore 6, 2) := by decide +kernel
theorem dDH_planHits_87 : decode cDH_planHits 87 = .ok (.aload_n 0, 1) := by decide +kernel
theorem dDH_planHits_88 : decode cDH_planHits 88 = .ok (.getfield 51, 3) := by decide +kernel
theorem dDH_planHits_91 : decode cDH_planHits 91 = .ok (.aload 5, 2) := by decide +kernel
theorem dDH_planHits_93 : decode cDH_planHits 93 = .ok (.getfield 212, 3) := by decide +kernel
theorem dDH_planHits_96 : decode cDH_planHits 96 = .ok (.iload 6, 2) := by decide +kernel
theorem dDH_planHits_98 : decode cDH_planHits 98 = .ok (.iaload, 1) := by decide +kernel
theorem dDH_planHits_99 : decode cDH_planHits 99 = .ok (.aload 5, 2) := by decide +kernel
theorem dDH_planHits_101 : decode cDH_planHits 101 = .ok (.getfield 213, 3) := by decide +kernel
theorem dDH_planHits_104 : decode cDH_planHits 104 = .ok (.iload 6, 2) := by decide +kernel
theorem dDH_planHits_106 : decode cDH_planHits 106 = .ok (.iaload, 1) := by decide +kernel
theorem dDH_planHits_107 : decode cDH_planHits 107 = .ok (.aload_n 0, 1) := by decide +kernel
theorem dDH_planHits_108 : decode cDH_planHits 108 = .ok (.getfield 30, 3) := by decide +kernel
theorem dDH_planHits_111 : decode cDH_planHits 111 = .ok (.getfield 214, 3) := by decide +kernel
theorem dDH_planHits_114 : decode cDH_planHits 114 = .ok (.iload 4, 2) := by decide +kernel
theorem dDH_planHits_116 : decode cDH_planHits 116 = .ok (.iaload, 1) := by decide +kernel
theorem dDH_planHits_117 : decode cDH_planHits 117 = .ok (.aload 5, 2) := by decide +kernel
theorem dDH_planHits_119 : decode cDH_planHits 119 = .ok (.getfield 215, 3) := by decide +kernel
theorem dDH_planHits_122 : decode cDH_planHits 122 = .ok (.iload 6, 2) := by decide +kernel
theorem dDH_planHits_124 : decode cDH_planHits 124 = .ok (.iaload, 1) := by decide +kernel
theorem dDH_planHits_125 : decode cDH_planHits 125 = .ok (.iload_n 2, 1) := by decide +kernel
theorem dDH_planHits_126 : decode cDH_planHits 126 = .ok (.iand, 1) := by decide +kernel
theorem dDH_planHits_127 : decode cDH_planHits 127 = .ok (.invokevirtual 218, 3) := by decide +kernel
theorem dDH_planHits_130 : decode cDH_planHits 130 = .ok (.iload_n 2, 1) := by decide +kernel
theorem dDH_planHits_131 : decode cDH_planHits 131 = .ok (.aload 5, 2) := by decide +kernel
theorem dDH_planHits_133 : decode cDH_planHits 133 = .ok (.getfield 215, 3) := by decide +kernel
theorem dDH_planHits_136 : decode cDH_planHits 136 = .ok (.iload 6, 2) := by decide +kernel
theorem dDH_planHits_138 : decode cDH_planHits 138 = .ok (.iaload, 1) := by decide +kernel
theorem dDH_planHits_139 : decode cDH_planHits 139 = .ok (.iconst (-1), 1) := by decide +kernel
theorem dDH_planHits_140 : decode cDH_planHits 140 = .ok (.ixor, 1) := by decide +kernel
theorem dDH_planHits_141 : decode cDH_planHits 141 = .ok (.iand, 1) := by decide +kernel
theorem dDH_planHits_142 : decode cDH_planHits 142 = .ok (.istore_n 2, 1) := by decide +kernel
theorem dDH_planHits_143 : decode cDH_planHits 143 = .ok (.iinc 3 1, 3) := by decide +kernel
theorem dDH_planHits_146 : decode cDH_planHits 146 = .ok (.goto (-96), 3) := by decide +kernel
theorem dDH_planHits_149 : decode cDH_planHits 149 = .ok (.return_, 1) := by decide +kernel
theorem dDH_leastOf_0 : decode cDH_leastOf 0 = .ok (.iload_n 0, 1) := by decide +kernel
theorem dDH_leastOf_1 : decode cDH_leastOf 1 = .ok (.invokestatic 227, 3) := by decide +kernel
theorem dDH_leastOf_4 : decode cDH_leastOf 4 = .ok (.ireturn, 1) := by decide +kernel
theorem dIn_numberOfTrailingZeros_0 : decode cIn_numberOfTrailingZeros 0 = .ok (.iload_n 0, 1) := by decide +kernel
theorem dIn_numberOfTrailingZeros_1 : decode cIn_numberOfTrailingZeros 1 = .ok (.iconst (-1), 1) := by decide +kernel
theorem dIn_numberOfTrailingZeros_2 : decode cIn_numberOfTrailingZeros 2 = .ok (.ixor, 1) := by decide +kernel
theorem dIn_numberOfTrailingZeros_3 : decode cIn_numberOfTrailingZeros 3 = .ok (.iload_n 0, 1) := by decide +kernel
theorem dIn_numberOfTrailingZeros_4 : decode cIn_numberOfTrailingZeros 4 = .ok (.iconst 1, 1) := by decide +kernel
theorem dIn_numberOfTrailingZeros_5 : decode cIn_numberOfTrailingZeros 5 = .ok (.isub, 1) := by decide +kernel
theorem dIn_numberOfTrailingZeros_6 : decode cIn_numberOfTrailingZeros 6 = .ok (.iand, 1) := by decide +kernel
theorem dIn_numberOfTrailingZeros_7 : decode cIn_numberOfTrailingZeros 7 = .ok (.istore_n 0, 1) := by decide +kernel
theorem dIn_numberOfTrailingZeros_8 : decode cIn_numberOfTrailingZeros 8 = .ok (.iload_n 0, 1) := by decide +kernel
theorem dIn_numberOfTrailingZeros_9 : decode cIn_numberOfTrailingZeros 9 = .ok (.ifCond .gt 8, 3) := by decide +kernel
theorem dIn_numberOfTrailingZeros_12 : decode cIn_numberOfTrailingZeros 12 = .ok (.iload_n 0, 1) := by decide +kernel
theorem dIn_numberOfTrailingZeros_13 : decode cIn_numberOfTrailingZeros 13 = .ok (.bipush 32, 2) := by decide +kernel
theorem dIn_numberOfTrailingZeros_15 : decode cIn_numberOfTrailingZeros 15 = .ok (.iand, 1) := by decide +kernel
theorem dIn_numberOfTrailingZeros_16 : decode cIn_numberOfTrailingZeros 16 = .ok (.ireturn, 1) := by decide +kernel
theorem dIn_numberOfTrailingZeros_17 : decode cIn_numberOfTrailingZeros 17 = .ok (.iconst 1, 1) := by decide +kernel
theorem dIn_numberOfTrailingZeros_18 : decode cIn_numberOfTrailingZeros 18 = .ok (.istore_n 1, 1) := by decide +kernel
theorem dIn_numberOfTrailingZeros_19 : decode cIn_numberOfTrailingZeros 19 = .ok (.iload_n 0, 1) := by decide +kernel
theorem dIn_numberOfTrailingZeros_20 : decode cIn_numberOfTrailingZeros 20 = .ok (.ldc_w 264, 3) := by decide +kernel
theorem dIn_numberOfTrailingZeros_23 : decode cIn_numberOfTrailingZeros 23 = .ok (.if_icmp .le 11, 3) := by decide +kernel
theorem dIn_numberOfTrailingZeros_26 : decode cIn_numberOfTrailingZeros 26 = .ok (.iinc 1 16, 3) := by decide +kernel
theorem dIn_numberOfTrailingZeros_29 : decode cIn_numberOfTrailingZeros 29 = .ok (.iload_n 0, 1) := by decide +kernel
theorem dIn_numberOfTrailingZeros_30 : decode cIn_numberOfTrailingZeros 30 = .ok (.bipush 16, 2) := by decide +kernel
theorem dIn_numberOfTrailingZeros_32 : decode cIn_numberOfTrailingZeros 32 = .ok (.iushr, 1) := by decide +kernel
theorem dIn_numberOfTrailingZeros_33 : decode cIn_numberOfTrailingZeros 33 = .ok (.istore_n 0, 1) := by decide +kernel
theorem dIn_numberOfTrailingZeros_34 : decode cIn_numberOfTrailingZeros 34 = .ok (.iload_n 0, 1) := by decide +kernel
theorem dIn_numberOfTrailingZeros_35 : decode cIn_numberOfTrailingZeros 35 = .ok (.sipush 256, 3) := by decide +kernel
theorem dIn_numberOfTrailingZeros_38 : decode cIn_numberOfTrailingZeros 38 = .ok (.if_icmp .le 11, 3) := by decide +kernel
theorem dIn_numberOfTrailingZeros_41 : decode cIn_numberOfTrailingZeros 41 = .ok (.iinc 1 8, 3) := by decide +kernel
theorem dIn_numberOfTrailingZeros_44 : decode cIn_numberOfTrailingZeros 44 = .ok (.iload_n 0, 1) := by decide +kernel
theorem dIn_numberOfTrailingZeros_45 : decode cIn_numberOfTrailingZeros 45 = .ok (.bipush 8, 2) := by decide +kernel
theorem dIn_numberOfTrailingZeros_47 : decode cIn_numberOfTrailingZeros 47 = .ok (.iushr, 1) := by decide +kernel
theorem dIn_numberOfTrailingZeros_48 : decode cIn_numberOfTrailingZeros 48 = .ok (.istore_n 0, 1) := by decide +kernel
theorem dIn_numberOfTrailingZeros_49 : decode cIn_numberOfTrailingZeros 49 = .ok (.iload_n 0, 1) := by decide +kernel
theorem dIn_numberOfTrailingZeros_50 : decode cIn_numberOfTrailingZeros 50 = .ok (.bipush 16, 2) := by decide +kernel
theorem dIn_numberOfTrailingZeros_52 : decode cIn_numberOfTrailingZeros 52 = .ok (.if_icmp .le 10, 3) := by decide +kernel
theorem dIn_numberOfTrailingZeros_55 : decode cIn_numberOfTrailingZeros 55 = .ok (.iinc 1 4, 3) := by decide +kernel
theorem dIn_numberOfTrailingZeros_58 : decode cIn_numberOfTrailingZeros 58 = .ok (.iload_n 0, 1) := by decide +kernel
theorem dIn_numberOfTrailingZeros_59 : decode cIn_numberOfTrailingZeros 59 = .ok (.iconst 4, 1) := by decide +kernel
theorem dIn_numberOfTrailingZeros_60 : decode cIn_numberOfTrailingZeros 60 = .ok (.iushr, 1) := by decide +kernel
theorem dIn_numberOfTrailingZeros_61 : decode cIn_numberOfTrailingZeros 61 = .ok (.istore_n 0, 1) := by decide +kernel
theorem dIn_numberOfTrailingZeros_62 : decode cIn_numberOfTrailingZeros 62 = .ok (.iload_n 0, 1) := by decide +kernel
theorem dIn_numberOfTrailingZeros_63 : decode cIn_numberOfTrailingZeros 63 = .ok (.iconst 4, 1) := by decide +kernel
theorem dIn_numberOfTrailingZeros_64 : decode cIn_numberOfTrailingZeros 64 = .ok (.if_icmp .le 10, 3) := by decide +kernel
theorem dIn_numberOfTrailingZeros_67 : decode cIn_numberOfTrailingZeros 67 = .ok (.iinc 1 2, 3) := by decide +kernel
theorem dIn_numberOfTrailingZeros_70 : decode cIn_numberOfTrailingZeros 70 = .ok (.iload_n 0, 1) := by decide +kernel
theorem dIn_numberOfTrailingZeros_71 : decode cIn_numberOfTrailingZeros 71 = .ok (.iconst 2, 1) := by decide +kernel
theorem dIn_numberOfTrailingZeros_72 : decode cIn_numberOfTrailingZeros 72 = .ok (.iushr, 1) := by decide +kernel
theorem dIn_numberOfTrailingZeros_73 : decode cIn_numberOfTrailingZeros 73 = .ok (.istore_n 0, 1) := by decide +kernel
theorem dIn_numberOfTrailingZeros_74 : decode cIn_numberOfTrailingZeros 74 = .ok (.iload_n 1, 1) := by decide +kernel
theorem dIn_numberOfTrailingZeros_75 : decode cIn_numberOfTrailingZeros 75 = .ok (.iload_n 0, 1) := by decide +kernel
theorem dIn_numberOfTrailingZeros_76 : decode cIn_numberOfTrailingZeros 76 = .ok (.iconst 1, 1) := by decide +kernel
theorem dIn_numberOfTrailingZeros_77 : decode cIn_numberOfTrailingZeros 77 = .ok (.iushr, 1) := by decide +kernel
theorem dIn_numberOfTrailingZeros_78 : decode cIn_numberOfTrailingZeros 78 = .ok (.iadd, 1) := by decide +kernel
theorem dIn_numberOfTrailingZeros_79 : decode cIn_numberOfTrailingZeros 79 = .ok (.ireturn, 1) := by decide +kernel
theorem dDH_holds_0 : decode cDH_holds 0 = .ok (.iload_n 0, 1) := by decide +kernel
theorem dDH_holds_1 : decode cDH_holds 1 = .ok (.iload_n 1, 1) := by decide +kernel
theorem dDH_holds_2 : decode cDH_holds 2 = .ok (.ishr, 1) := by decide +kernel
theorem dDH_holds_3 : decode cDH_holds 3 = .ok (.iconst 1, 1) := by decide +kernel
theorem dDH_holds_4 : decode cDH_holds 4 = .ok (.iand, 1) := by decide +kernel
theorem dDH_holds_5 : decode cDH_holds 5 = .ok (.ifCond .eq 7, 3) := by decide +kernel
theorem dDH_holds_8 : decode cDH_holds 8 = .ok (.iconst 1, 1) := by decide +kernel
theorem dDH_holds_9 : decode cDH_holds 9 = .ok (.goto 4, 3) := by decide +kernel
theorem dDH_holds_12 : decode cDH_holds 12 = .ok (.iconst 0, 1) := by decide +kernel
theorem dDH_holds_13 : decode cDH_holds 13 = .ok (.ireturn, 1) := by decide +kernel
theorem dDH_without_0 : decode cDH_without 0 = .ok (.iload_n 0, 1) := by decide +kernel
theorem dDH_without_1 : decode cDH_without 1 = .ok (.iconst 1, 1) := by decide +kernel
theorem dDH_without_2 : decode cDH_without 2 = .ok (.iload_n 1, 1) := by decide +kernel
theorem dDH_without_3 : decode cDH_without 3 = .ok (.ishl, 1) := by decide +kernel
theorem dDH_without_4 : decode cDH_without 4 = .ok (.iconst (-1), 1) := by decide +kernel
theorem dDH_without_5 : decode cDH_without 5 = .ok (.ixor, 1) := by decide +kernel
theorem dDH_without_6 : decode cDH_without 6 = .ok (.iand, 1) := by decide +kernel
theorem dDH_without_7 : decode cDH_without 7 = .ok (.ireturn, 1) := by decide +kernel
theorem dDH_spindle_0 : decode cDH_spindle 0 = .ok (.iload_n 1, 1) := by decide +kernel
theorem dDH_spindle_1 : decode cDH_spindle 1 = .ok (.ifCond .lt 15, 3) := by decide +kernel
theorem dDH_spindle_4 : decode cDH_spindle 4 = .ok (.iload_n 1, 1) := by decide +kernel
theorem dDH_spindle_5 : decode cDH_spindle 5 = .ok (.aload_n 0, 1) := by decide +kernel
theorem dDH_spindle_6 : decode cDH_spindle 6 = .ok (.getfield 23, 3) := by decide +kernel
theorem dDH_spindle_9 : decode cDH_spindle 9 = .ok (.getfield 69, 3) := by decide +kernel
theorem dDH_spindle_12 : decode cDH_spindle 12 = .ok (.arraylength, 1) := by decide +kernel
theorem dDH_spindle_13 : decode cDH_spindle 13 = .ok (.if_icmp .lt 13, 3) := by decide +kernel
theorem dDH_spindle_16 : decode cDH_spindle 16 = .ok (.new 73, 3) := by decide +kernel
theorem dDH_spindle_19 : decode cDH_spindle 19 = .ok (.dup, 1) := by decide +kernel
theorem dDH_spindle_20 : decode cDH_spindle 20 = .ok (.ldc 75, 2) := by decide +kernel
theorem dDH_spindle_22 : decode cDH_spindle 22 = .ok (.invokespecial 77, 3) := by decide +kernel
theorem dDH_spindle_25 : decode cDH_spindle 25 = .ok (.athrow, 1) := by decide +kernel
theorem dDH_spindle_26 : decode cDH_spindle 26 = .ok (.iload_n 2, 1) := by decide +kernel
theorem dDH_spindle_27 : decode cDH_spindle 27 = .ok (.iload_n 3, 1) := by decide +kernel
theorem dDH_spindle_28 : decode cDH_spindle 28 = .ok (.invokestatic 80, 3) := by decide +kernel
theorem dDH_spindle_31 : decode cDH_spindle 31 = .ok (.iload 4, 2) := by decide +kernel
theorem dDH_spindle_33 : decode cDH_spindle 33 = .ok (.iconst 0, 1) := by decide +kernel
theorem dDH_spindle_34 : decode cDH_spindle 34 = .ok (.bipush 100, 2) := by decide +kernel
theorem dDH_spindle_36 : decode cDH_spindle 36 = .ok (.invokestatic 84, 3) := by decide +kernel
theorem dDH_spindle_39 : decode cDH_spindle 39 = .ok (.aload_n 0, 1) := by decide +kernel
theorem dDH_spindle_40 : decode cDH_spindle 40 = .ok (.getfield 23, 3) := by decide +kernel
theorem dDH_spindle_43 : decode cDH_spindle 43 = .ok (.iload_n 1, 1) := by decide +kernel
theorem dDH_spindle_44 : decode cDH_spindle 44 = .ok (.iload_n 2, 1) := by decide +kernel
theorem dDH_spindle_45 : decode cDH_spindle 45 = .ok (.iload_n 3, 1) := by decide +kernel
theorem dDH_spindle_46 : decode cDH_spindle 46 = .ok (.iload 4, 2) := by decide +kernel
theorem dDH_spindle_48 : decode cDH_spindle 48 = .ok (.invokevirtual 88, 3) := by decide +kernel
theorem dDH_spindle_51 : decode cDH_spindle 51 = .ok (.istore 5, 2) := by decide +kernel
theorem dDH_spindle_53 : decode cDH_spindle 53 = .ok (.iload 5, 2) := by decide +kernel
theorem dDH_spindle_55 : decode cDH_spindle 55 = .ok (.ifCond .eq 8, 3) := by decide +kernel
theorem dDH_spindle_58 : decode cDH_spindle 58 = .ok (.aload_n 0, 1) := by decide +kernel
theorem dDH_spindle_59 : decode cDH_spindle 59 = .ok (.iconst 0, 1) := by decide +kernel
theorem dDH_spindle_60 : decode cDH_spindle 60 = .ok (.putfield 92, 3) := by decide +kernel
theorem dDH_spindle_63 : decode cDH_spindle 63 = .ok (.iload 5, 2) := by decide +kernel
theorem dDH_spindle_65 : decode cDH_spindle 65 = .ok (.ireturn, 1) := by decide +kernel
theorem dDH_requirePlace_0 : decode cDH_requirePlace 0 = .ok (.iload_n 0, 1) := by decide +kernel
theorem dDH_requirePlace_1 : decode cDH_requirePlace 1 = .ok (.sipush (-10000), 3) := by decide +kernel
theorem dDH_requirePlace_4 : decode cDH_requirePlace 4 = .ok (.sipush 10000, 3) := by decide +kernel
theorem dDH_requirePlace_7 : decode cDH_requirePlace 7 = .ok (.invokestatic 84, 3) := by decide +kernel
theorem dDH_requirePlace_10 : decode cDH_requirePlace 10 = .ok (.iload_n 1, 1) := by decide +kernel
theorem dDH_requirePlace_11 : decode cDH_requirePlace 11 = .ok (.sipush (-10000), 3) := by decide +kernel
theorem dDH_requirePlace_14 : decode cDH_requirePlace 14 = .ok (.sipush 10000, 3) := by decide +kernel
theorem dDH_requirePlace_17 : decode cDH_requirePlace 17 = .ok (.invokestatic 84, 3) := by decide +kernel
theorem dDH_requirePlace_20 : decode cDH_requirePlace 20 = .ok (.return_, 1) := by decide +kernel
theorem dDH_requireWithin_0 : decode cDH_requireWithin 0 = .ok (.iload_n 0, 1) := by decide +kernel
theorem dDH_requireWithin_1 : decode cDH_requireWithin 1 = .ok (.iload_n 1, 1) := by decide +kernel
theorem dDH_requireWithin_2 : decode cDH_requireWithin 2 = .ok (.if_icmp .lt 8, 3) := by decide +kernel
theorem dDH_requireWithin_5 : decode cDH_requireWithin 5 = .ok (.iload_n 0, 1) := by decide +kernel
theorem dDH_requireWithin_6 : decode cDH_requireWithin 6 = .ok (.iload_n 2, 1) := by decide +kernel
theorem dDH_requireWithin_7 : decode cDH_requireWithin 7 = .ok (.if_icmp .le 13, 3) := by decide +kernel
theorem dDH_requireWithin_10 : decode cDH_requireWithin 10 = .ok (.new 155, 3) := by decide +kernel
theorem dDH_requireWithin_13 : decode cDH_requireWithin 13 = .ok (.dup, 1) := by decide +kernel
theorem dDH_requireWithin_14 : decode cDH_requireWithin 14 = .ok (.ldc 225, 2) := by decide +kernel
theorem dDH_requireWithin_16 : decode cDH_requireWithin 16 = .ok (.invokespecial 159, 3) := by decide +kernel
theorem dDH_requireWithin_19 : decode cDH_requireWithin 19 = .ok (.athrow, 1) := by decide +kernel
theorem dDH_requireWithin_20 : decode cDH_requireWithin 20 = .ok (.return_, 1) := by decide +kernel
theorem dDH_hole_0 : decode cDH_hole 0 = .ok (.aload_n 0, 1) := by decide +kernel
theorem dDH_hole_1 : decode cDH_hole 1 = .ok (.getfield 30, 3) := by decide +kernel
theorem dDH_hole_4 : decode cDH_hole 4 = .ok (.getfield 96, 3) := by decide +kernel
theorem dDH_hole_7 : decode cDH_hole 7 = .ok (.bipush 14, 2) := by decide +kernel
theorem dDH_hole_9 : decode cDH_hole 9 = .ok (.if_icmp .lt 13, 3) := by decide +kernel
theorem dDH_hole_12 : decode cDH_hole 12 = .ok (.new 100, 3) := by decide +kernel
theorem dDH_hole_15 : decode cDH_hole 15 = .ok (.dup, 1) := by decide +kernel
theorem dDH_hole_16 : decode cDH_hole 16 = .ok (.ldc 102, 2) := by decide +kernel
theorem dDH_hole_18 : decode cDH_hole 18 = .ok (.invokespecial 104, 3) := by decide +kernel
theorem dDH_hole_21 : decode cDH_hole 21 = .ok (.athrow, 1) := by decide +kernel
theorem dDH_hole_22 : decode cDH_hole 22 = .ok (.iload_n 1, 1) := by decide +kernel
theorem dDH_hole_23 : decode cDH_hole 23 = .ok (.iload_n 2, 1) := by decide +kernel
theorem dDH_hole_24 : decode cDH_hole 24 = .ok (.invokestatic 80, 3) := by decide +kernel
theorem dDH_hole_27 : decode cDH_hole 27 = .ok (.iload_n 3, 1) := by decide +kernel
theorem dDH_hole_28 : decode cDH_hole 28 = .ok (.iconst 1, 1) := by decide +kernel
theorem dDH_hole_29 : decode cDH_hole 29 = .ok (.bipush 100, 2) := by decide +kernel
theorem dDH_hole_31 : decode cDH_hole 31 = .ok (.invokestatic 84, 3) := by decide +kernel
theorem dDH_hole_34 : decode cDH_hole 34 = .ok (.iload 4, 2) := by decide +kernel
theorem dDH_hole_36 : decode cDH_hole 36 = .ok (.iconst 1, 1) := by decide +kernel
theorem dDH_hole_37 : decode cDH_hole 37 = .ok (.sipush 1000, 3) := by decide +kernel
theorem dDH_hole_40 : decode cDH_hole 40 = .ok (.invokestatic 84, 3) := by decide +kernel
theorem dDH_hole_43 : decode cDH_hole 43 = .ok (.iload 5, 2) := by decide +kernel
theorem dDH_hole_45 : decode cDH_hole 45 = .ok (.iconst 0, 1) := by decide +kernel
theorem dDH_hole_46 : decode cDH_hole 46 = .ok (.iconst 4, 1) := by decide +kernel
theorem dDH_hole_47 : decode cDH_hole 47 = .ok (.invokestatic 84, 3) := by decide +kernel
theorem dDH_hole_50 : decode cDH_hole 50 = .ok (.aload_n 0, 1) := by decide +kernel
theorem dDH_hole_51 : decode cDH_hole 51 = .ok (.iconst 0, 1) := by decide +kernel
theorem dDH_hole_52 : decode cDH_hole 52 = .ok (.putfield 92, 3) := by decide +kernel
theorem dDH_hole_55 : decode cDH_hole 55 = .ok (.aload_n 0, 1) := by decide +kernel
theorem dDH_hole_56 : decode cDH_hole 56 = .ok (.getfield 30, 3) := by decide +kernel
theorem dDH_hole_59 : decode cDH_hole 59 = .ok (.iload_n 1, 1) := by decide +kernel
theorem dDH_hole_60 : decode cDH_hole 60 = .ok (.iload_n 2, 1) := by decide +kernel
theorem dDH_hole_61 : decode cDH_hole 61 = .ok (.iload_n 3, 1) := by decide +kernel
theorem dDH_hole_62 : decode cDH_hole 62 = .ok (.iload 4, 2) := by decide +kernel
theorem dDH_hole_64 : decode cDH_hole 64 = .ok (.iload 5, 2) := by decide +kernel
theorem dDH_hole_66 : decode cDH_hole 66 = .ok (.invokevirtual 105, 3) := by decide +kernel
theorem dDH_hole_69 : decode cDH_hole 69 = .ok (.ireturn, 1) := by decide +kernel
theorem dDH_through_0 : decode cDH_through 0 = .ok (.aload_n 0, 1) := by decide +kernel
theorem dDH_through_1 : decode cDH_through 1 = .ok (.iload_n 1, 1) := by decide +kernel
theorem dDH_through_2 : decode cDH_through 2 = .ok (.invokevirtual 109, 3) := by decide +kernel
theorem dDH_through_5 : decode cDH_through 5 = .ok (.aload_n 0, 1) := by decide +kernel
theorem dDH_through_6 : decode cDH_through 6 = .ok (.getfield 30, 3) := by decide +kernel
theorem dDH_through_9 : decode cDH_through 9 = .ok (.getfield 112, 3) := by decide +kernel
theorem dDH_through_12 : decode cDH_through 12 = .ok (.iload_n 1, 1) := by decide +kernel
theorem dDH_through_13 : decode cDH_through 13 = .ok (.baload, 1) := by decide +kernel
theorem dDH_through_14 : decode cDH_through 14 = .ok (.iload_n 2, 1) := by decide +kernel
theorem dDH_through_15 : decode cDH_through 15 = .ok (.if_icmp .ne 5, 3) := by decide +kernel
theorem dDH_through_18 : decode cDH_through 18 = .ok (.iconst 0, 1) := by decide +kernel
theorem dDH_through_19 : decode cDH_through 19 = .ok (.ireturn, 1) := by decide +kernel
theorem dDH_through_20 : decode cDH_through 20 = .ok (.aload_n 0, 1) := by decide +kernel
theorem dDH_through_21 : decode cDH_through 21 = .ok (.getfield 30, 3) := by decide +kernel
theorem dDH_through_24 : decode cDH_through 24 = .ok (.getfield 112, 3) := by decide +kernel
theorem dDH_through_27 : decode cDH_through 27 = .ok (.iload_n 1, 1) := by decide +kernel
theorem dDH_through_28 : decode cDH_through 28 = .ok (.iload_n 2, 1) := by decide +kernel
theorem dDH_through_29 : decode cDH_through 29 = .ok (.bastore, 1) := by decide +kernel
theorem dDH_through_30 : decode cDH_through 30 = .ok (.aload_n 0, 1) := by decide +kernel
theorem dDH_through_31 : decode cDH_through 31 = .ok (.iconst 0, 1) := by decide +kernel
theorem dDH_through_32 : decode cDH_through 32 = .ok (.putfield 92, 3) := by decide +kernel
theorem dDH_through_35 : decode cDH_through 35 = .ok (.iconst 1, 1) := by decide +kernel
theorem dDH_through_36 : decode cDH_through 36 = .ok (.ireturn, 1) := by decide +kernel
theorem dDH_requireHole_0 : decode cDH_requireHole 0 = .ok (.iload_n 1, 1) := by decide +kernel
theorem dDH_requireHole_1 : decode cDH_requireHole 1 = .ok (.ifCond .lt 14, 3) := by decide +kernel
theorem dDH_requireHole_4 : decode cDH_requireHole 4 = .ok (.iload_n 1, 1) := by decide +kernel
theorem dDH_requireHole_5 : decode cDH_requireHole 5 = .ok (.aload_n 0, 1) := by decide +kernel
theorem dDH_requireHole_6 : decode cDH_requireHole 6 = .ok (.getfield 30, 3) := by decide +kernel
theorem dDH_requireHole_9 : decode cDH_requireHole 9 = .ok (.getfield 96, 3) := by decide +kernel
theorem dDH_requireHole_12 : decode cDH_requireHole 12 = .ok (.if_icmp .lt 13, 3) := by decide +kernel
theorem dDH_requireHole_15 : decode cDH_requireHole 15 = .ok (.new 73, 3) := by decide +kernel
theorem dDH_requireHole_18 : decode cDH_requireHole 18 = .ok (.dup, 1) := by decide +kernel
theorem dDH_requireHole_19 : decode cDH_requireHole 19 = .ok (.ldc 221, 2) := by decide +kernel
theorem dDH_requireHole_21 : decode cDH_requireHole 21 = .ok (.invokespecial 77, 3) := by decide +kernel
theorem dDH_requireHole_24 : decode cDH_requireHole 24 = .ok (.athrow, 1) := by decide +kernel
theorem dDH_requireHole_25 : decode cDH_requireHole 25 = .ok (.return_, 1) := by decide +kernel
theorem dDH_clamp_0 : decode cDH_clamp 0 = .ok (.iload_n 1, 1) := by decide +kernel
theorem dDH_clamp_1 : decode cDH_clamp 1 = .ok (.sipush (-20000), 3) := by decide +kernel
theorem dDH_clamp_4 : decode cDH_clamp 4 = .ok (.sipush 20000, 3) := by decide +kernel
theorem dDH_clamp_7 : decode cDH_clamp 7 = .ok (.invokestatic 84, 3) := by decide +kernel
theorem dDH_clamp_10 : decode cDH_clamp 10 = .ok (.iload_n 2, 1) := by decide +kernel
theorem dDH_clamp_11 : decode cDH_clamp 11 = .ok (.sipush (-20000), 3) := by decide +kernel
theorem dDH_clamp_14 : decode cDH_clamp 14 = .ok (.sipush 20000, 3) := by decide +kernel
theorem dDH_clamp_17 : decode cDH_clamp 17 = .ok (.invokestatic 84, 3) := by decide +kernel
theorem dDH_clamp_20 : decode cDH_clamp 20 = .ok (.iload_n 3, 1) := by decide +kernel
theorem dDH_clamp_21 : decode cDH_clamp 21 = .ok (.iload_n 1, 1) := by decide +kernel
theorem dDH_clamp_22 : decode cDH_clamp 22 = .ok (.sipush 20000, 3) := by decide +kernel
theorem dDH_clamp_25 : decode cDH_clamp 25 = .ok (.invokestatic 84, 3) := by decide +kernel
theorem dDH_clamp_28 : decode cDH_clamp 28 = .ok (.iload 4, 2) := by decide +kernel
theorem dDH_clamp_30 : decode cDH_clamp 30 = .ok (.iload_n 2, 1) := by decide +kernel
theorem dDH_clamp_31 : decode cDH_clamp 31 = .ok (.sipush 20000, 3) := by decide +kernel
theorem dDH_clamp_34 : decode cDH_clamp 34 = .ok (.invokestatic 84, 3) := by decide +kernel
theorem dDH_clamp_37 : decode cDH_clamp 37 = .ok (.aload_n 0, 1) := by decide +kernel
theorem dDH_clamp_38 : decode cDH_clamp 38 = .ok (.getfield 37, 3) := by decide +kernel
theorem dDH_clamp_41 : decode cDH_clamp 41 = .ok (.getfield 116, 3) := by decide +kernel
theorem dDH_clamp_44 : decode cDH_clamp 44 = .ok (.bipush 6, 2) := by decide +kernel
theorem dDH_clamp_46 : decode cDH_clamp 46 = .ok (.if_icmp .lt 5, 3) := by decide +kernel
theorem dDH_clamp_49 : decode cDH_clamp 49 = .ok (.iconst 0, 1) := by decide +kernel
theorem dDH_clamp_50 : decode cDH_clamp 50 = .ok (.ireturn, 1) := by decide +kernel
theorem dDH_clamp_51 : decode cDH_clamp 51 = .ok (.aload_n 0, 1) := by decide +kernel
theorem dDH_clamp_52 : decode cDH_clamp 52 = .ok (.getfield 37, 3) := by decide +kernel
theorem dDH_clamp_55 : decode cDH_clamp 55 = .ok (.iload_n 1, 1) := by decide +kernel
theorem dDH_clamp_56 : decode cDH_clamp 56 = .ok (.iload_n 2, 1) := by decide +kernel
theorem dDH_clamp_57 : decode cDH_clamp 57 = .ok (.iload_n 3, 1) := by decide +kernel
theorem dDH_clamp_58 : decode cDH_clamp 58 = .ok (.iload 4, 2) := by decide +kernel
theorem dDH_clamp_60 : decode cDH_clamp 60 = .ok (.invokevirtual 117, 3) := by decide +kernel
theorem dDH_clamp_63 : decode cDH_clamp 63 = .ok (.aload_n 0, 1) := by decide +kernel
theorem dDH_clamp_64 : decode cDH_clamp 64 = .ok (.iconst 0, 1) := by decide +kernel
theorem dDH_clamp_65 : decode cDH_clamp 65 = .ok (.putfield 92, 3) := by decide +kernel
theorem dDH_clamp_68 : decode cDH_clamp 68 = .ok (.iconst 1, 1) := by decide +kernel
theorem dDH_clamp_69 : decode cDH_clamp 69 = .ok (.ireturn, 1) := by decide +kernel
theorem dDH_mirror_0 : decode cDH_mirror 0 = .ok (.iload_n 1, 1) := by decide +kernel
theorem dDH_mirror_1 : decode cDH_mirror 1 = .ok (.iconst 0, 1) := by decide +kernel
theorem dDH_mirror_2 : decode cDH_mirror 2 = .ok (.iconst 1, 1) := by decide +kernel
theorem dDH_mirror_3 : decode cDH_mirror 3 = .ok (.invokestatic 84, 3) := by decide +kernel
theorem dDH_mirror_6 : decode cDH_mirror 6 = .ok (.iload_n 1, 1) := by decide +kernel
theorem dDH_mirror_7 : decode cDH_mirror 7 = .ok (.ifCond .ne 13, 3) := by decide +kernel
theorem dDH_mirror_10 : decode cDH_mirror 10 = .ok (.aload_n 0, 1) := by decide +kernel
theorem dDH_mirror_11 : decode cDH_mirror 11 = .ok (.getfield 30, 3) := by decide +kernel
theorem dDH_mirror_14 : decode cDH_mirror 14 = .ok (.getfield 120, 3) := by decide +kernel
theorem dDH_mirror_17 : decode cDH_mirror 17 = .ok (.goto 10, 3) := by decide +kernel
theorem dDH_mirror_20 : decode cDH_mirror 20 = .ok (.aload_n 0, 1) := by decide +kernel
theorem dDH_mirror_21 : decode cDH_mirror 21 = .ok (.getfield 30, 3) := by decide +kernel
theorem dDH_mirror_24 : decode cDH_mirror 24 = .ok (.getfield 123, 3) := by decide +kernel
theorem dDH_mirror_27 : decode cDH_mirror 27 = .ok (.aload_n 0, 1) := by decide +kernel
theorem dDH_mirror_28 : decode cDH_mirror 28 = .ok (.getfield 30, 3) := by decide +kernel
theorem dDH_mirror_31 : decode cDH_mirror 31 = .ok (.getfield 96, 3) := by decide +kernel
theorem dDH_mirror_34 : decode cDH_mirror 34 = .ok (.invokestatic 126, 3) := by decide +kernel
theorem dDH_mirror_37 : decode cDH_mirror 37 = .ok (.aload_n 0, 1) := by decide +kernel
theorem dDH_mirror_38 : decode cDH_mirror 38 = .ok (.getfield 30, 3) := by decide +kernel
theorem dDH_mirror_41 : decode cDH_mirror 41 = .ok (.getfield 96, 3) := by decide +kernel
theorem dDH_mirror_44 : decode cDH_mirror 44 = .ok (.ifCond .le 8, 3) := by decide +kernel
theorem dDH_mirror_47 : decode cDH_mirror 47 = .ok (.aload_n 0, 1) := by decide +kernel
theorem dDH_mirror_48 : decode cDH_mirror 48 = .ok (.iconst 0, 1) := by decide +kernel
theorem dDH_mirror_49 : decode cDH_mirror 49 = .ok (.putfield 92, 3) := by decide +kernel
theorem dDH_mirror_52 : decode cDH_mirror 52 = .ok (.aload_n 0, 1) := by decide +kernel
theorem dDH_mirror_53 : decode cDH_mirror 53 = .ok (.getfield 30, 3) := by decide +kernel
theorem dDH_mirror_56 : decode cDH_mirror 56 = .ok (.getfield 96, 3) := by decide +kernel
theorem dDH_mirror_59 : decode cDH_mirror 59 = .ok (.ireturn, 1) := by decide +kernel
theorem dDH_negate_0 : decode cDH_negate 0 = .ok (.iconst 0, 1) := by decide +kernel
theorem dDH_negate_1 : decode cDH_negate 1 = .ok (.istore_n 2, 1) := by decide +kernel
theorem dDH_negate_2 : decode cDH_negate 2 = .ok (.iload_n 2, 1) := by decide +kernel
theorem dDH_negate_3 : decode cDH_negate 3 = .ok (.iload_n 1, 1) := by decide +kernel
theorem dDH_negate_4 : decode cDH_negate 4 = .ok (.if_icmp .ge 22, 3) := by decide +kernel
theorem dDH_negate_7 : decode cDH_negate 7 = .ok (.iload_n 2, 1) := by decide +kernel
theorem dDH_negate_8 : decode cDH_negate 8 = .ok (.aload_n 0, 1) := by decide +kernel
theorem dDH_negate_9 : decode cDH_negate 9 = .ok (.arraylength, 1) := by decide +kernel
theorem dDH_negate_10 : decode cDH_negate 10 = .ok (.if_icmp .ge 16, 3) := by decide +kernel
theorem dDH_negate_13 : decode cDH_negate 13 = .ok (.aload_n 0, 1) := by decide +kernel
theorem dDH_negate_14 : decode cDH_negate 14 = .ok (.iload_n 2, 1) := by decide +kernel
theorem dDH_negate_15 : decode cDH_negate 15 = .ok (.aload_n 0, 1) := by decide +kernel
theorem dDH_negate_16 : decode cDH_negate 16 = .ok (.iload_n 2, 1) := by decide +kernel
theorem dDH_negate_17 : decode cDH_negate 17 = .ok (.iaload, 1) := by decide +kernel
theorem dDH_negate_18 : decode cDH_negate 18 = .ok (.ineg, 1) := by decide +kernel
theorem dDH_negate_19 : decode cDH_negate 19 = .ok (.iastore, 1) := by decide +kernel
theorem dDH_negate_20 : decode cDH_negate 20 = .ok (.iinc 2 1, 3) := by decide +kernel
theorem dDH_negate_23 : decode cDH_negate 23 = .ok (.goto (-21), 3) := by decide +kernel
theorem dDH_negate_26 : decode cDH_negate 26 = .ok (.return_, 1) := by decide +kernel
theorem dDH_hit_0 : decode cDH_hit 0 = .ok (.aload_n 0, 1) := by decide +kernel
theorem dDH_hit_1 : decode cDH_hit 1 = .ok (.invokevirtual 141, 3) := by decide +kernel
theorem dDH_hit_4 : decode cDH_hit 4 = .ok (.aload_n 0, 1) := by decide +kernel
theorem dDH_hit_5 : decode cDH_hit 5 = .ok (.iload_n 1, 1) := by decide +kernel
theorem dDH_hit_6 : decode cDH_hit 6 = .ok (.invokevirtual 144, 3) := by decide +kernel
theorem dDH_hit_9 : decode cDH_hit 9 = .ok (.iload_n 2, 1) := by decide +kernel
theorem dDH_hit_10 : decode cDH_hit 10 = .ok (.tableswitch 70 0 3 #[30, 40, 50, 60], 30) := by decide +kernel
theorem dDH_hit_40 : decode cDH_hit 40 = .ok (.aload_n 0, 1) := by decide +kernel
theorem dDH_hit_41 : decode cDH_hit 41 = .ok (.getfield 51, 3) := by decide +kernel
theorem dDH_hit_44 : decode cDH_hit 44 = .ok (.getfield 147, 3) := by decide +kernel
theorem dDH_hit_47 : decode cDH_hit 47 = .ok (.iload_n 1, 1) := by decide +kernel
theorem dDH_hit_48 : decode cDH_hit 48 = .ok (.iaload, 1) := by decide +kernel
theorem dDH_hit_49 : decode cDH_hit 49 = .ok (.ireturn, 1) := by decide +kernel
theorem dDH_hit_50 : decode cDH_hit 50 = .ok (.aload_n 0, 1) := by decide +kernel
theorem dDH_hit_51 : decode cDH_hit 51 = .ok (.getfield 51, 3) := by decide +kernel
theorem dDH_hit_54 : decode cDH_hit 54 = .ok (.getfield 148, 3) := by decide +kernel
theorem dDH_hit_57 : decode cDH_hit 57 = .ok (.iload_n 1, 1) := by decide +kernel
theorem dDH_hit_58 : decode cDH_hit 58 = .ok (.iaload, 1) := by decide +kernel
theorem dDH_hit_59 : decode cDH_hit 59 = .ok (.ireturn, 1) := by decide +kernel
theorem dDH_hit_60 : decode cDH_hit 60 = .ok (.aload_n 0, 1) := by decide +kernel
theorem dDH_hit_61 : decode cDH_hit 61 = .ok (.getfield 51, 3) := by decide +kernel
theorem dDH_hit_64 : decode cDH_hit 64 = .ok (.getfield 149, 3) := by decide +kernel
theorem dDH_hit_67 : decode cDH_hit 67 = .ok (.iload_n 1, 1) := by decide +kernel
theorem dDH_hit_68 : decode cDH_hit 68 = .ok (.iaload, 1) := by decide +kernel
theorem dDH_hit_69 : decode cDH_hit 69 = .ok (.ireturn, 1) := by decide +kernel
theorem dDH_hit_70 : decode cDH_hit 70 = .ok (.aload_n 0, 1) := by decide +kernel
theorem dDH_hit_71 : decode cDH_hit 71 = .ok (.getfield 51, 3) := by decide +kernel
theorem dDH_hit_74 : decode cDH_hit 74 = .ok (.getfield 152, 3) := by decide +kernel
theorem dDH_hit_77 : decode cDH_hit 77 = .ok (.iload_n 1, 1) := by decide +kernel
theorem dDH_hit_78 : decode cDH_hit 78 = .ok (.iaload, 1) := by decide +kernel
theorem dDH_hit_79 : decode cDH_hit 79 = .ok (.ireturn, 1) := by decide +kernel
theorem dDH_hit_80 : decode cDH_hit 80 = .ok (.new 155, 3) := by decide +kernel
theorem dDH_hit_83 : decode cDH_hit 83 = .ok (.dup, 1) := by decide +kernel
theorem dDH_hit_84 : decode cDH_hit 84 = .ok (.ldc 157, 2) := by decide +kernel
theorem dDH_hit_86 : decode cDH_hit 86 = .ok (.invokespecial 159, 3) := by decide +kernel
theorem dDH_hit_89 : decode cDH_hit 89 = .ok (.athrow, 1) := by decide +kernel
theorem dDH_requirePlanned_0 : decode cDH_requirePlanned 0 = .ok (.aload_n 0, 1) := by decide +kernel
theorem dDH_requirePlanned_1 : decode cDH_requirePlanned 1 = .ok (.getfield 92, 3) := by decide +kernel
theorem dDH_requirePlanned_4 : decode cDH_requirePlanned 4 = .ok (.ifCond .ne 13, 3) := by decide +kernel
theorem dDH_requirePlanned_7 : decode cDH_requirePlanned 7 = .ok (.new 100, 3) := by decide +kernel
theorem dDH_requirePlanned_10 : decode cDH_requirePlanned 10 = .ok (.dup, 1) := by decide +kernel
theorem dDH_requirePlanned_11 : decode cDH_requirePlanned 11 = .ok (.ldc 219, 2) := by decide +kernel
theorem dDH_requirePlanned_13 : decode cDH_requirePlanned 13 = .ok (.invokespecial 104, 3) := by decide +kernel
theorem dDH_requirePlanned_16 : decode cDH_requirePlanned 16 = .ok (.athrow, 1) := by decide +kernel
theorem dDH_requirePlanned_17 : decode cDH_requirePlanned 17 = .ok (.return_, 1) := by decide +kernel
theorem dDH_requireHit_0 : decode cDH_requireHit 0 = .ok (.iload_n 1, 1) := by decide +kernel
theorem dDH_requireHit_1 : decode cDH_requireHit 1 = .ok (.ifCond .lt 14, 3) := by decide +kernel
theorem dDH_requireHit_4 : decode cDH_requireHit 4 = .ok (.iload_n 1, 1) := by decide +kernel
theorem dDH_requireHit_5 : decode cDH_requireHit 5 = .ok (.aload_n 0, 1) := by decide +kernel
theorem dDH_requireHit_6 : decode cDH_requireHit 6 = .ok (.getfield 51, 3) := by decide +kernel
theorem dDH_requireHit_9 : decode cDH_requireHit 9 = .ok (.getfield 140, 3) := by decide +kernel
theorem dDH_requireHit_12 : decode cDH_requireHit 12 = .ok (.if_icmp .lt 13, 3) := by decide +kernel
theorem dDH_requireHit_15 : decode cDH_requireHit 15 = .ok (.new 73, 3) := by decide +kernel
theorem dDH_requireHit_18 : decode cDH_requireHit 18 = .ok (.dup, 1) := by decide +kernel
theorem dDH_requireHit_19 : decode cDH_requireHit 19 = .ok (.ldc 223, 2) := by decide +kernel
theorem dDH_requireHit_21 : decode cDH_requireHit 21 = .ok (.invokespecial 77, 3) := by decide +kernel
theorem dDH_requireHit_24 : decode cDH_requireHit 24 = .ok (.athrow, 1) := by decide +kernel
theorem dDH_requireHit_25 : decode cDH_requireHit 25 = .ok (.return_, 1) := by decide +kernel
theorem dDH_drills_0 : decode cDH_drills 0 = .ok (.aload_n 0, 1) := by decide +kernel
theorem dDH_drills_1 : decode cDH_drills 1 = .ok (.invokevirtual 141, 3) := by decide +kernel
theorem dDH_drills_4 : decode cDH_drills 4 = .ok (.aload_n 0, 1) := by decide +kernel
theorem dDH_drills_5 : decode cDH_drills 5 = .ok (.iload_n 1, 1) := by decide +kernel
theorem dDH_drills_6 : decode cDH_drills 6 = .ok (.invokevirtual 144, 3) := by decide +kernel
theorem dDH_drills_9 : decode cDH_drills 9 = .ok (.aload_n 0, 1) := by decide +kernel
theorem dDH_drills_10 : decode cDH_drills 10 = .ok (.iload_n 2, 1) := by decide +kernel
theorem dDH_drills_11 : decode cDH_drills 11 = .ok (.invokevirtual 109, 3) := by decide +kernel
theorem dDH_drills_14 : decode cDH_drills 14 = .ok (.aload_n 0, 1) := by decide +kernel
theorem dDH_drills_15 : decode cDH_drills 15 = .ok (.getfield 51, 3) := by decide +kernel
theorem dDH_drills_18 : decode cDH_drills 18 = .ok (.getfield 152, 3) := by decide +kernel
theorem dDH_drills_21 : decode cDH_drills 21 = .ok (.iload_n 1, 1) := by decide +kernel
theorem dDH_drills_22 : decode cDH_drills 22 = .ok (.iaload, 1) := by decide +kernel
theorem dDH_drills_23 : decode cDH_drills 23 = .ok (.iload_n 2, 1) := by decide +kernel
theorem dDH_drills_24 : decode cDH_drills 24 = .ok (.invokestatic 160, 3) := by decide +kernel
theorem dDH_drills_27 : decode cDH_drills 27 = .ok (.ireturn, 1) := by decide +kernel
theorem dDH_by_0 : decode cDH_by 0 = .ok (.aload_n 0, 1) := by decide +kernel
theorem dDH_by_1 : decode cDH_by 1 = .ok (.invokevirtual 141, 3) := by decide +kernel
theorem dDH_by_4 : decode cDH_by 4 = .ok (.aload_n 0, 1) := by decide +kernel
theorem dDH_by_5 : decode cDH_by 5 = .ok (.iload_n 1, 1) := by decide +kernel
theorem dDH_by_6 : decode cDH_by 6 = .ok (.invokevirtual 109, 3) := by decide +kernel
theorem dDH_by_9 : decode cDH_by 9 = .ok (.aload_n 0, 1) := by decide +kernel
theorem dDH_by_10 : decode cDH_by 10 = .ok (.getfield 51, 3) := by decide +kernel
theorem dDH_by_13 : decode cDH_by 13 = .ok (.iload_n 1, 1) := by decide +kernel
theorem dDH_by_14 : decode cDH_by 14 = .ok (.invokevirtual 164, 3) := by decide +kernel
theorem dDH_by_17 : decode cDH_by 17 = .ok (.istore_n 2, 1) := by decide +kernel
theorem dDH_by_18 : decode cDH_by 18 = .ok (.iload_n 2, 1) := by decide +kernel
theorem dDH_by_19 : decode cDH_by 19 = .ok (.iconst (-1), 1) := by decide +kernel
theorem dDH_by_20 : decode cDH_by 20 = .ok (.if_icmp .ne 5, 3) := by decide +kernel
theorem dDH_by_23 : decode cDH_by 23 = .ok (.iconst (-1), 1) := by decide +kernel
theorem dDH_by_24 : decode cDH_by 24 = .ok (.ireturn, 1) := by decide +kernel
theorem dDH_by_25 : decode cDH_by 25 = .ok (.aload_n 0, 1) := by decide +kernel
theorem dDH_by_26 : decode cDH_by 26 = .ok (.getfield 30, 3) := by decide +kernel
theorem dDH_by_29 : decode cDH_by 29 = .ok (.iload_n 1, 1) := by decide +kernel
theorem dDH_by_30 : decode cDH_by 30 = .ok (.aload_n 0, 1) := by decide +kernel
theorem dDH_by_31 : decode cDH_by 31 = .ok (.getfield 23, 3) := by decide +kernel
theorem dDH_by_34 : decode cDH_by 34 = .ok (.aload_n 0, 1) := by decide +kernel
theorem dDH_by_35 : decode cDH_by 35 = .ok (.getfield 51, 3) := by decide +kernel
theorem dDH_by_38 : decode cDH_by 38 = .ok (.getfield 147, 3) := by decide +kernel
theorem dDH_by_41 : decode cDH_by 41 = .ok (.iload_n 2, 1) := by decide +kernel
theorem dDH_by_42 : decode cDH_by 42 = .ok (.iaload, 1) := by decide +kernel
theorem dDH_by_43 : decode cDH_by 43 = .ok (.aload_n 0, 1) := by decide +kernel
theorem dDH_by_44 : decode cDH_by 44 = .ok (.getfield 51, 3) := by decide +kernel
theorem dDH_by_47 : decode cDH_by 47 = .ok (.getfield 148, 3) := by decide +kernel
theorem dDH_by_50 : decode cDH_by 50 = .ok (.iload_n 2, 1) := by decide +kernel
theorem dDH_by_51 : decode cDH_by 51 = .ok (.iaload, 1) := by decide +kernel
theorem dDH_by_52 : decode cDH_by 52 = .ok (.invokevirtual 168, 3) := by decide +kernel
theorem dDH_by_55 : decode cDH_by 55 = .ok (.ireturn, 1) := by decide +kernel
theorem dDH_single_0 : decode cDH_single 0 = .ok (.aload_n 0, 1) := by decide +kernel
theorem dDH_single_1 : decode cDH_single 1 = .ok (.invokevirtual 141, 3) := by decide +kernel
theorem dDH_single_4 : decode cDH_single 4 = .ok (.aload_n 0, 1) := by decide +kernel
theorem dDH_single_5 : decode cDH_single 5 = .ok (.iload_n 1, 1) := by decide +kernel
theorem dDH_single_6 : decode cDH_single 6 = .ok (.invokevirtual 109, 3) := by decide +kernel
theorem dDH_single_9 : decode cDH_single 9 = .ok (.aload_n 0, 1) := by decide +kernel
theorem dDH_single_10 : decode cDH_single 10 = .ok (.getfield 172, 3) := by decide +kernel
theorem dDH_single_13 : decode cDH_single 13 = .ok (.iload_n 1, 1) := by decide +kernel
theorem dDH_single_14 : decode cDH_single 14 = .ok (.invokestatic 160, 3) := by decide +kernel
theorem dDH_single_17 : decode cDH_single 17 = .ok (.ireturn, 1) := by decide +kernel
theorem dDH_order_0 : decode cDH_order 0 = .ok (.aload_n 0, 1) := by decide +kernel
theorem dDH_order_1 : decode cDH_order 1 = .ok (.invokevirtual 141, 3) := by decide +kernel
theorem dDH_order_4 : decode cDH_order 4 = .ok (.aload_n 0, 1) := by decide +kernel
theorem dDH_order_5 : decode cDH_order 5 = .ok (.iload_n 1, 1) := by decide +kernel
theorem dDH_order_6 : decode cDH_order 6 = .ok (.invokevirtual 144, 3) := by decide +kernel
theorem dDH_order_9 : decode cDH_order 9 = .ok (.aload_n 0, 1) := by decide +kernel
theorem dDH_order_10 : decode cDH_order 10 = .ok (.getfield 65, 3) := by decide +kernel
theorem dDH_order_13 : decode cDH_order 13 = .ok (.getfield 175, 3) := by decide +kernel
theorem dDH_order_16 : decode cDH_order 16 = .ok (.iload_n 1, 1) := by decide +kernel
theorem dDH_order_17 : decode cDH_order 17 = .ok (.iaload, 1) := by decide +kernel
theorem dDH_order_18 : decode cDH_order 18 = .ok (.ireturn, 1) := by decide +kernel
theorem dDH_travel_0 : decode cDH_travel 0 = .ok (.aload_n 0, 1) := by decide +kernel
theorem dDH_travel_1 : decode cDH_travel 1 = .ok (.invokevirtual 141, 3) := by decide +kernel
theorem dDH_travel_4 : decode cDH_travel 4 = .ok (.aload_n 0, 1) := by decide +kernel
theorem dDH_travel_5 : decode cDH_travel 5 = .ok (.getfield 65, 3) := by decide +kernel
theorem dDH_travel_8 : decode cDH_travel 8 = .ok (.getfield 178, 3) := by decide +kernel
theorem dDH_travel_11 : decode cDH_travel 11 = .ok (.lreturn, 1) := by decide +kernel
theorem dDH_least_0 : decode cDH_least 0 = .ok (.aload_n 0, 1) := by decide +kernel
theorem dDH_least_1 : decode cDH_least 1 = .ok (.invokevirtual 141, 3) := by decide +kernel
theorem dDH_least_4 : decode cDH_least 4 = .ok (.aload_n 0, 1) := by decide +kernel
theorem dDH_least_5 : decode cDH_least 5 = .ok (.getfield 51, 3) := by decide +kernel
theorem dDH_least_8 : decode cDH_least 8 = .ok (.getfield 140, 3) := by decide +kernel
theorem dDH_least_11 : decode cDH_least 11 = .ok (.bipush 10, 2) := by decide +kernel
theorem dDH_least_13 : decode cDH_least 13 = .ok (.if_icmp .gt 7, 3) := by decide +kernel
theorem dDH_least_16 : decode cDH_least 16 = .ok (.iconst 1, 1) := by decide +kernel
theorem dDH_least_17 : decode cDH_least 17 = .ok (.goto 4, 3) := by decide +kernel
theorem dDH_least_20 : decode cDH_least 20 = .ok (.iconst 0, 1) := by decide +kernel
theorem dDH_least_21 : decode cDH_least 21 = .ok (.ireturn, 1) := by decide +kernel
theorem dDH_bound_0 : decode cDH_bound 0 = .ok (.aload_n 0, 1) := by decide +kernel
theorem dDH_bound_1 : decode cDH_bound 1 = .ok (.invokevirtual 141, 3) := by decide +kernel
theorem dDH_bound_4 : decode cDH_bound 4 = .ok (.aload_n 0, 1) := by decide +kernel
theorem dDH_bound_5 : decode cDH_bound 5 = .ok (.getfield 23, 3) := by decide +kernel
theorem dDH_bound_8 : decode cDH_bound 8 = .ok (.invokevirtual 182, 3) := by decide +kernel
theorem dDH_bound_11 : decode cDH_bound 11 = .ok (.istore_n 1, 1) := by decide +kernel
theorem dDH_bound_12 : decode cDH_bound 12 = .ok (.iload_n 1, 1) := by decide +kernel
theorem dDH_bound_13 : decode cDH_bound 13 = .ok (.ifCond .ne 5, 3) := by decide +kernel
theorem dDH_bound_16 : decode cDH_bound 16 = .ok (.iconst 0, 1) := by decide +kernel
theorem dDH_bound_17 : decode cDH_bound 17 = .ok (.ireturn, 1) := by decide +kernel
theorem dDH_bound_18 : decode cDH_bound 18 = .ok (.aload_n 0, 1) := by decide +kernel
theorem dDH_bound_19 : decode cDH_bound 19 = .ok (.getfield 30, 3) := by decide +kernel
theorem dDH_bound_22 : decode cDH_bound 22 = .ok (.getfield 96, 3) := by decide +kernel
theorem dDH_bound_25 : decode cDH_bound 25 = .ok (.aload_n 0, 1) := by decide +kernel
theorem dDH_bound_26 : decode cDH_bound 26 = .ok (.getfield 172, 3) := by decide +kernel
theorem dDH_bound_29 : decode cDH_bound 29 = .ok (.invokestatic 186, 3) := by decide +kernel
theorem dDH_bound_32 : decode cDH_bound 32 = .ok (.isub, 1) := by decide +kernel
theorem dDH_bound_33 : decode cDH_bound 33 = .ok (.istore_n 2, 1) := by decide +kernel
theorem dDH_bound_34 : decode cDH_bound 34 = .ok (.iload_n 2, 1) := by decide +kernel
theorem dDH_bound_35 : decode cDH_bound 35 = .ok (.iload_n 1, 1) := by decide +kernel
theorem dDH_bound_36 : decode cDH_bound 36 = .ok (.iadd, 1) := by decide +kernel
theorem dDH_bound_37 : decode cDH_bound 37 = .ok (.iconst 1, 1) := by decide +kernel
theorem dDH_bound_38 : decode cDH_bound 38 = .ok (.isub, 1) := by decide +kernel
theorem dDH_bound_39 : decode cDH_bound 39 = .ok (.iload_n 1, 1) := by decide +kernel
theorem dDH_bound_40 : decode cDH_bound 40 = .ok (.idiv, 1) := by decide +kernel
theorem dDH_bound_41 : decode cDH_bound 41 = .ok (.ireturn, 1) := by decide +kernel
theorem dIn_bitCount_0 : decode cIn_bitCount 0 = .ok (.iload_n 0, 1) := by decide +kernel
theorem dIn_bitCount_1 : decode cIn_bitCount 1 = .ok (.iload_n 0, 1) := by decide +kernel
theorem dIn_bitCount_2 : decode cIn_bitCount 2 = .ok (.iconst 1, 1) := by decide +kernel
theorem dIn_bitCount_3 : decode cIn_bitCount 3 = .ok (.iushr, 1) := by decide +kernel
theorem dIn_bitCount_4 : decode cIn_bitCount 4 = .ok (.ldc_w 265, 3) := by decide +kernel
theorem dIn_bitCount_7 : decode cIn_bitCount 7 = .ok (.iand, 1) := by decide +kernel
theorem dIn_bitCount_8 : decode cIn_bitCount 8 = .ok (.isub, 1) := by decide +kernel
theorem dIn_bitCount_9 : decode cIn_bitCount 9 = .ok (.istore_n 0, 1) := by decide +kernel
theorem dIn_bitCount_10 : decode cIn_bitCount 10 = .ok (.iload_n 0, 1) := by decide +kernel
theorem dIn_bitCount_11 : decode cIn_bitCount 11 = .ok (.ldc_w 266, 3) := by decide +kernel
theorem dIn_bitCount_14 : decode cIn_bitCount 14 = .ok (.iand, 1) := by decide +kernel
theorem dIn_bitCount_15 : decode cIn_bitCount 15 = .ok (.iload_n 0, 1) := by decide +kernel
theorem dIn_bitCount_16 : decode cIn_bitCount 16 = .ok (.iconst 2, 1) := by decide +kernel
theorem dIn_bitCount_17 : decode cIn_bitCount 17 = .ok (.iushr, 1) := by decide +kernel
theorem dIn_bitCount_18 : decode cIn_bitCount 18 = .ok (.ldc_w 266, 3) := by decide +kernel
theorem dIn_bitCount_21 : decode cIn_bitCount 21 = .ok (.iand, 1) := by decide +kernel
theorem dIn_bitCount_22 : decode cIn_bitCount 22 = .ok (.iadd, 1) := by decide +kernel
theorem dIn_bitCount_23 : decode cIn_bitCount 23 = .ok (.istore_n 0, 1) := by decide +kernel
theorem dIn_bitCount_24 : decode cIn_bitCount 24 = .ok (.iload_n 0, 1) := by decide +kernel
theorem dIn_bitCount_25 : decode cIn_bitCount 25 = .ok (.iload_n 0, 1) := by decide +kernel
theorem dIn_bitCount_26 : decode cIn_bitCount 26 = .ok (.iconst 4, 1) := by decide +kernel
theorem dIn_bitCount_27 : decode cIn_bitCount 27 = .ok (.iushr, 1) := by decide +kernel
theorem dIn_bitCount_28 : decode cIn_bitCount 28 = .ok (.iadd, 1) := by decide +kernel
theorem dIn_bitCount_29 : decode cIn_bitCount 29 = .ok (.ldc_w 267, 3) := by decide +kernel
theorem dIn_bitCount_32 : decode cIn_bitCount 32 = .ok (.iand, 1) := by decide +kernel
theorem dIn_bitCount_33 : decode cIn_bitCount 33 = .ok (.istore_n 0, 1) := by decide +kernel
theorem dIn_bitCount_34 : decode cIn_bitCount 34 = .ok (.iload_n 0, 1) := by decide +kernel
theorem dIn_bitCount_35 : decode cIn_bitCount 35 = .ok (.iload_n 0, 1) := by decide +kernel
theorem dIn_bitCount_36 : decode cIn_bitCount 36 = .ok (.bipush 8, 2) := by decide +kernel
theorem dIn_bitCount_38 : decode cIn_bitCount 38 = .ok (.iushr, 1) := by decide +kernel
theorem dIn_bitCount_39 : decode cIn_bitCount 39 = .ok (.iadd, 1) := by decide +kernel
theorem dIn_bitCount_40 : decode cIn_bitCount 40 = .ok (.istore_n 0, 1) := by decide +kernel
theorem dIn_bitCount_41 : decode cIn_bitCount 41 = .ok (.iload_n 0, 1) := by decide +kernel
theorem dIn_bitCount_42 : decode cIn_bitCount 42 = .ok (.iload_n 0, 1) := by decide +kernel
theorem dIn_bitCount_43 : decode cIn_bitCount 43 = .ok (.bipush 16, 2) := by decide +kernel
theorem dIn_bitCount_45 : decode cIn_bitCount 45 = .ok (.iushr, 1) := by decide +kernel
theorem dIn_bitCount_46 : decode cIn_bitCount 46 = .ok (.iadd, 1) := by decide +kernel
theorem dIn_bitCount_47 : decode cIn_bitCount 47 = .ok (.istore_n 0, 1) := by decide +kernel
theorem dIn_bitCount_48 : decode cIn_bitCount 48 = .ok (.iload_n 0, 1) := by decide +kernel
theorem dIn_bitCount_49 : decode cIn_bitCount 49 = .ok (.bipush 63, 2) := by decide +kernel
theorem dIn_bitCount_51 : decode cIn_bitCount 51 = .ok (.iand, 1) := by decide +kernel
theorem dIn_bitCount_52 : decode cIn_bitCount 52 = .ok (.ireturn, 1) := by decide +kernel
theorem dDH_places_0 : decode cDH_places 0 = .ok (.aload_n 0, 1) := by decide +kernel
theorem dDH_places_1 : decode cDH_places 1 = .ok (.iload_n 1, 1) := by decide +kernel
theorem dDH_places_2 : decode cDH_places 2 = .ok (.invokevirtual 109, 3) := by decide +kernel
theorem dDH_places_5 : decode cDH_places 5 = .ok (.aload_n 0, 1) := by decide +kernel
theorem dDH_places_6 : decode cDH_places 6 = .ok (.getfield 43, 3) := by decide +kernel
theorem dDH_places_9 : decode cDH_places 9 = .ok (.iload_n 1, 1) := by decide +kernel
theorem dDH_places_10 : decode cDH_places 10 = .ok (.aaload, 1) := by decide +kernel
theorem dDH_places_11 : decode cDH_places 11 = .ok (.iload_n 1, 1) := by decide +kernel
theorem dDH_places_12 : decode cDH_places 12 = .ok (.aload_n 0, 1) := by decide +kernel
theorem dDH_places_13 : decode cDH_places 13 = .ok (.getfield 30, 3) := by decide +kernel
theorem dDH_places_16 : decode cDH_places 16 = .ok (.aload_n 0, 1) := by decide +kernel
theorem dDH_places_17 : decode cDH_places 17 = .ok (.getfield 23, 3) := by decide +kernel
theorem dDH_places_20 : decode cDH_places 20 = .ok (.aload_n 0, 1) := by decide +kernel
theorem dDH_places_21 : decode cDH_places 21 = .ok (.getfield 37, 3) := by decide +kernel
theorem dDH_places_24 : decode cDH_places 24 = .ok (.invokevirtual 191, 3) := by decide +kernel
theorem dDH_places_27 : decode cDH_places 27 = .ok (.aload_n 0, 1) := by decide +kernel
theorem dDH_places_28 : decode cDH_places 28 = .ok (.getfield 43, 3) := by decide +kernel
theorem dDH_places_31 : decode cDH_places 31 = .ok (.iload_n 1, 1) := by decide +kernel
theorem dDH_places_32 : decode cDH_places 32 = .ok (.aaload, 1) := by decide +kernel
theorem dDH_places_33 : decode cDH_places 33 = .ok (.getfield 194, 3) := by decide +kernel
theorem dDH_places_36 : decode cDH_places 36 = .ok (.ireturn, 1) := by decide +kernel
theorem dDH_seconds_0 : decode cDH_seconds 0 = .ok (.aload_n 0, 1) := by decide +kernel
theorem dDH_seconds_1 : decode cDH_seconds 1 = .ok (.invokevirtual 141, 3) := by decide +kernel
theorem dDH_seconds_4 : decode cDH_seconds 4 = .ok (.aload_n 0, 1) := by decide +kernel
theorem dDH_seconds_5 : decode cDH_seconds 5 = .ok (.getfield 172, 3) := by decide +kernel
theorem dDH_seconds_8 : decode cDH_seconds 8 = .ok (.invokestatic 186, 3) := by decide +kernel
theorem dDH_seconds_11 : decode cDH_seconds 11 = .ok (.istore_n 1, 1) := by decide +kernel
theorem dDH_seconds_12 : decode cDH_seconds 12 = .ok (.iconst 4, 1) := by decide +kernel
theorem dDH_seconds_13 : decode cDH_seconds 13 = .ok (.aload_n 0, 1) := by decide +kernel
theorem dDH_seconds_14 : decode cDH_seconds 14 = .ok (.getfield 51, 3) := by decide +kernel
theorem dDH_seconds_17 : decode cDH_seconds 17 = .ok (.getfield 140, 3) := by decide +kernel
theorem dDH_seconds_20 : decode cDH_seconds 20 = .ok (.imul, 1) := by decide +kernel
theorem dDH_seconds_21 : decode cDH_seconds 21 = .ok (.bipush 12, 2) := by decide +kernel
theorem dDH_seconds_23 : decode cDH_seconds 23 = .ok (.iload_n 1, 1) := by decide +kernel
theorem dDH_seconds_24 : decode cDH_seconds 24 = .ok (.imul, 1) := by decide +kernel
theorem dDH_seconds_25 : decode cDH_seconds 25 = .ok (.iadd, 1) := by decide +kernel
theorem dDH_seconds_26 : decode cDH_seconds 26 = .ok (.i2l, 1) := by decide +kernel
theorem dDH_seconds_27 : decode cDH_seconds 27 = .ok (.aload_n 0, 1) := by decide +kernel
theorem dDH_seconds_28 : decode cDH_seconds 28 = .ok (.getfield 65, 3) := by decide +kernel
theorem dDH_seconds_31 : decode cDH_seconds 31 = .ok (.getfield 178, 3) := by decide +kernel
theorem dDH_seconds_34 : decode cDH_seconds 34 = .ok (.ldc2_w 195, 3) := by decide +kernel
theorem dDH_seconds_37 : decode cDH_seconds 37 = .ok (.ldiv, 1) := by decide +kernel
theorem dDH_seconds_38 : decode cDH_seconds 38 = .ok (.ladd, 1) := by decide +kernel
theorem dDH_seconds_39 : decode cDH_seconds 39 = .ok (.lreturn, 1) := by decide +kernel
