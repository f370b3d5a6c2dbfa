theorem dMo_init_0 : decode cMo_init 0 = .ok (.aload_n 0, 1) := by decide +kernel
theorem dMo_init_1 : decode cMo_init 1 = .ok (.invokespecial 1, 3) := by decide +kernel
theorem dMo_init_4 : decode cMo_init 4 = .ok (.aload_n 0, 1) := by decide +kernel
theorem dMo_init_5 : decode cMo_init 5 = .ok (.bipush 16, 2) := by decide +kernel
theorem dMo_init_7 : decode cMo_init 7 = .ok (.newarray .int, 2) := by decide +kernel
theorem dMo_init_9 : decode cMo_init 9 = .ok (.putfield 7, 3) := by decide +kernel
theorem dMo_init_12 : decode cMo_init 12 = .ok (.aload_n 0, 1) := by decide +kernel
theorem dMo_init_13 : decode cMo_init 13 = .ok (.bipush 16, 2) := by decide +kernel
theorem dMo_init_15 : decode cMo_init 15 = .ok (.newarray .int, 2) := by decide +kernel
theorem dMo_init_17 : decode cMo_init 17 = .ok (.putfield 13, 3) := by decide +kernel
theorem dMo_init_20 : decode cMo_init 20 = .ok (.aload_n 0, 1) := by decide +kernel
theorem dMo_init_21 : decode cMo_init 21 = .ok (.bipush 16, 2) := by decide +kernel
theorem dMo_init_23 : decode cMo_init 23 = .ok (.newarray .int, 2) := by decide +kernel
theorem dMo_init_25 : decode cMo_init 25 = .ok (.putfield 16, 3) := by decide +kernel
theorem dMo_init_28 : decode cMo_init 28 = .ok (.aload_n 0, 1) := by decide +kernel
theorem dMo_init_29 : decode cMo_init 29 = .ok (.bipush 14, 2) := by decide +kernel
theorem dMo_init_31 : decode cMo_init 31 = .ok (.newarray .int, 2) := by decide +kernel
theorem dMo_init_33 : decode cMo_init 33 = .ok (.putfield 19, 3) := by decide +kernel
theorem dMo_init_36 : decode cMo_init 36 = .ok (.aload_n 0, 1) := by decide +kernel
theorem dMo_init_37 : decode cMo_init 37 = .ok (.bipush 14, 2) := by decide +kernel
theorem dMo_init_39 : decode cMo_init 39 = .ok (.newarray .int, 2) := by decide +kernel
theorem dMo_init_41 : decode cMo_init 41 = .ok (.putfield 22, 3) := by decide +kernel
theorem dMo_init_44 : decode cMo_init 44 = .ok (.aload_n 0, 1) := by decide +kernel
theorem dMo_init_45 : decode cMo_init 45 = .ok (.bipush 14, 2) := by decide +kernel
theorem dMo_init_47 : decode cMo_init 47 = .ok (.newarray .int, 2) := by decide +kernel
theorem dMo_init_49 : decode cMo_init 49 = .ok (.putfield 25, 3) := by decide +kernel
theorem dMo_init_52 : decode cMo_init 52 = .ok (.aload_n 0, 1) := by decide +kernel
theorem dMo_init_53 : decode cMo_init 53 = .ok (.bipush 14, 2) := by decide +kernel
theorem dMo_init_55 : decode cMo_init 55 = .ok (.newarray .int, 2) := by decide +kernel
theorem dMo_init_57 : decode cMo_init 57 = .ok (.putfield 28, 3) := by decide +kernel
theorem dMo_init_60 : decode cMo_init 60 = .ok (.aload_n 0, 1) := by decide +kernel
theorem dMo_init_61 : decode cMo_init 61 = .ok (.bipush 14, 2) := by decide +kernel
theorem dMo_init_63 : decode cMo_init 63 = .ok (.newarray .int, 2) := by decide +kernel
theorem dMo_init_65 : decode cMo_init 65 = .ok (.putfield 31, 3) := by decide +kernel
theorem dMo_init_68 : decode cMo_init 68 = .ok (.aload_n 0, 1) := by decide +kernel
theorem dMo_init_69 : decode cMo_init 69 = .ok (.bipush 14, 2) := by decide +kernel
theorem dMo_init_71 : decode cMo_init 71 = .ok (.newarray .boolean, 2) := by decide +kernel
theorem dMo_init_73 : decode cMo_init 73 = .ok (.putfield 34, 3) := by decide +kernel
theorem dMo_init_76 : decode cMo_init 76 = .ok (.aload_n 0, 1) := by decide +kernel
theorem dMo_init_77 : decode cMo_init 77 = .ok (.bipush 24, 2) := by decide +kernel
theorem dMo_init_79 : decode cMo_init 79 = .ok (.newarray .int, 2) := by decide +kernel
theorem dMo_init_81 : decode cMo_init 81 = .ok (.putfield 38, 3) := by decide +kernel
theorem dMo_init_84 : decode cMo_init 84 = .ok (.aload_n 0, 1) := by decide +kernel
theorem dMo_init_85 : decode cMo_init 85 = .ok (.bipush 14, 2) := by decide +kernel
theorem dMo_init_87 : decode cMo_init 87 = .ok (.newarray .int, 2) := by decide +kernel
theorem dMo_init_89 : decode cMo_init 89 = .ok (.putfield 41, 3) := by decide +kernel
theorem dMo_init_92 : decode cMo_init 92 = .ok (.aload_n 0, 1) := by decide +kernel
theorem dMo_init_93 : decode cMo_init 93 = .ok (.bipush 14, 2) := by decide +kernel
theorem dMo_init_95 : decode cMo_init 95 = .ok (.newarray .int, 2) := by decide +kernel
theorem dMo_init_97 : decode cMo_init 97 = .ok (.putfield 44, 3) := by decide +kernel
theorem dMo_init_100 : decode cMo_init 100 = .ok (.aload_n 0, 1) := by decide +kernel
theorem dMo_init_101 : decode cMo_init 101 = .ok (.bipush 14, 2) := by decide +kernel
theorem dMo_init_103 : decode cMo_init 103 = .ok (.newarray .int, 2) := by decide +kernel
theorem dMo_init_105 : decode cMo_init 105 = .ok (.putfield 47, 3) := by decide +kernel
theorem dMo_init_108 : decode cMo_init 108 = .ok (.aload_n 0, 1) := by decide +kernel
theorem dMo_init_109 : decode cMo_init 109 = .ok (.bipush 14, 2) := by decide +kernel
theorem dMo_init_111 : decode cMo_init 111 = .ok (.newarray .int, 2) := by decide +kernel
theorem dMo_init_113 : decode cMo_init 113 = .ok (.putfield 50, 3) := by decide +kernel
theorem dMo_init_116 : decode cMo_init 116 = .ok (.aload_n 0, 1) := by decide +kernel
theorem dMo_init_117 : decode cMo_init 117 = .ok (.bipush 14, 2) := by decide +kernel
theorem dMo_init_119 : decode cMo_init 119 = .ok (.newarray .int, 2) := by decide +kernel
theorem dMo_init_121 : decode cMo_init 121 = .ok (.putfield 53, 3) := by decide +kernel
theorem dMo_init_124 : decode cMo_init 124 = .ok (.aload_n 0, 1) := by decide +kernel
theorem dMo_init_125 : decode cMo_init 125 = .ok (.sipush 16384, 3) := by decide +kernel
theorem dMo_init_128 : decode cMo_init 128 = .ok (.newarray .int, 2) := by decide +kernel
theorem dMo_init_130 : decode cMo_init 130 = .ok (.putfield 56, 3) := by decide +kernel
theorem dMo_init_133 : decode cMo_init 133 = .ok (.aload_n 0, 1) := by decide +kernel
theorem dMo_init_134 : decode cMo_init 134 = .ok (.sipush 224, 3) := by decide +kernel
theorem dMo_init_137 : decode cMo_init 137 = .ok (.newarray .int, 2) := by decide +kernel
theorem dMo_init_139 : decode cMo_init 139 = .ok (.putfield 59, 3) := by decide +kernel
theorem dMo_init_142 : decode cMo_init 142 = .ok (.aload_n 0, 1) := by decide +kernel
theorem dMo_init_143 : decode cMo_init 143 = .ok (.sipush 224, 3) := by decide +kernel
theorem dMo_init_146 : decode cMo_init 146 = .ok (.newarray .int, 2) := by decide +kernel
theorem dMo_init_148 : decode cMo_init 148 = .ok (.putfield 62, 3) := by decide +kernel
theorem dMo_init_151 : decode cMo_init 151 = .ok (.aload_n 0, 1) := by decide +kernel
theorem dMo_init_152 : decode cMo_init 152 = .ok (.sipush 224, 3) := by decide +kernel
theorem dMo_init_155 : decode cMo_init 155 = .ok (.newarray .int, 2) := by decide +kernel
theorem dMo_init_157 : decode cMo_init 157 = .ok (.putfield 65, 3) := by decide +kernel
theorem dMo_init_160 : decode cMo_init 160 = .ok (.aload_n 0, 1) := by decide +kernel
theorem dMo_init_161 : decode cMo_init 161 = .ok (.bipush 14, 2) := by decide +kernel
theorem dMo_init_163 : decode cMo_init 163 = .ok (.newarray .int, 2) := by decide +kernel
theorem dMo_init_165 : decode cMo_init 165 = .ok (.putfield 68, 3) := by decide +kernel
theorem dMo_init_168 : decode cMo_init 168 = .ok (.aload_n 0, 1) := by decide +kernel
theorem dMo_init_169 : decode cMo_init 169 = .ok (.sipush 10240, 3) := by decide +kernel
theorem dMo_init_172 : decode cMo_init 172 = .ok (.newarray .long, 2) := by decide +kernel
theorem dMo_init_174 : decode cMo_init 174 = .ok (.putfield 71, 3) := by decide +kernel
theorem dMo_init_177 : decode cMo_init 177 = .ok (.aload_n 0, 1) := by decide +kernel
theorem dMo_init_178 : decode cMo_init 178 = .ok (.iload_n 1, 1) := by decide +kernel
theorem dMo_init_179 : decode cMo_init 179 = .ok (.iconst 1, 1) := by decide +kernel
theorem dMo_init_180 : decode cMo_init 180 = .ok (.if_icmp .ge 7, 3) := by decide +kernel
theorem dMo_init_183 : decode cMo_init 183 = .ok (.iconst 1, 1) := by decide +kernel
theorem dMo_init_184 : decode cMo_init 184 = .ok (.goto 15, 3) := by decide +kernel
theorem dMo_init_187 : decode cMo_init 187 = .ok (.iload_n 1, 1) := by decide +kernel
theorem dMo_init_188 : decode cMo_init 188 = .ok (.bipush 16, 2) := by decide +kernel
theorem dMo_init_190 : decode cMo_init 190 = .ok (.if_icmp .le 8, 3) := by decide +kernel
theorem dMo_init_193 : decode cMo_init 193 = .ok (.bipush 16, 2) := by decide +kernel
theorem dMo_init_195 : decode cMo_init 195 = .ok (.goto 4, 3) := by decide +kernel
theorem dMo_init_198 : decode cMo_init 198 = .ok (.iload_n 1, 1) := by decide +kernel
theorem dMo_init_199 : decode cMo_init 199 = .ok (.putfield 75, 3) := by decide +kernel
theorem dMo_init_202 : decode cMo_init 202 = .ok (.return_, 1) := by decide +kernel
theorem dMo_thrown_0 : decode cMo_thrown 0 = .ok (.aload_n 0, 1) := by decide +kernel
theorem dMo_thrown_1 : decode cMo_thrown 1 = .ok (.getfield 79, 3) := by decide +kernel
theorem dMo_thrown_4 : decode cMo_thrown 4 = .ok (.ireturn, 1) := by decide +kernel
theorem dMo_spindle_0 : decode cMo_spindle 0 = .ok (.iload_n 2, 1) := by decide +kernel
theorem dMo_spindle_1 : decode cMo_spindle 1 = .ok (.sipush (-10000), 3) := by decide +kernel
theorem dMo_spindle_4 : decode cMo_spindle 4 = .ok (.sipush 10000, 3) := by decide +kernel
theorem dMo_spindle_7 : decode cMo_spindle 7 = .ok (.invokestatic 82, 3) := by decide +kernel
theorem dMo_spindle_10 : decode cMo_spindle 10 = .ok (.ifCond .eq 31, 3) := by decide +kernel
theorem dMo_spindle_13 : decode cMo_spindle 13 = .ok (.iload_n 3, 1) := by decide +kernel
theorem dMo_spindle_14 : decode cMo_spindle 14 = .ok (.sipush (-10000), 3) := by decide +kernel
theorem dMo_spindle_17 : decode cMo_spindle 17 = .ok (.sipush 10000, 3) := by decide +kernel
theorem dMo_spindle_20 : decode cMo_spindle 20 = .ok (.invokestatic 82, 3) := by decide +kernel
theorem dMo_spindle_23 : decode cMo_spindle 23 = .ok (.ifCond .eq 18, 3) := by decide +kernel
theorem dMo_spindle_26 : decode cMo_spindle 26 = .ok (.iload 4, 2) := by decide +kernel
theorem dMo_spindle_28 : decode cMo_spindle 28 = .ok (.iconst 0, 1) := by decide +kernel
theorem dMo_spindle_29 : decode cMo_spindle 29 = .ok (.bipush 100, 2) := by decide +kernel
theorem dMo_spindle_31 : decode cMo_spindle 31 = .ok (.invokestatic 82, 3) := by decide +kernel
theorem dMo_spindle_34 : decode cMo_spindle 34 = .ok (.ifCond .eq 7, 3) := by decide +kernel
theorem dMo_spindle_37 : decode cMo_spindle 37 = .ok (.iconst 1, 1) := by decide +kernel
theorem dMo_spindle_38 : decode cMo_spindle 38 = .ok (.goto 4, 3) := by decide +kernel
theorem dMo_spindle_41 : decode cMo_spindle 41 = .ok (.iconst 0, 1) := by decide +kernel
theorem dMo_spindle_42 : decode cMo_spindle 42 = .ok (.istore 5, 2) := by decide +kernel
theorem dMo_spindle_44 : decode cMo_spindle 44 = .ok (.aload_n 0, 1) := by decide +kernel
theorem dMo_spindle_45 : decode cMo_spindle 45 = .ok (.iload_n 1, 1) := by decide +kernel
theorem dMo_spindle_46 : decode cMo_spindle 46 = .ok (.ifCond .lt 11, 3) := by decide +kernel
theorem dMo_spindle_49 : decode cMo_spindle 49 = .ok (.iload_n 1, 1) := by decide +kernel
theorem dMo_spindle_50 : decode cMo_spindle 50 = .ok (.aload_n 0, 1) := by decide +kernel
theorem dMo_spindle_51 : decode cMo_spindle 51 = .ok (.getfield 75, 3) := by decide +kernel
theorem dMo_spindle_54 : decode cMo_spindle 54 = .ok (.if_icmp .lt 7, 3) := by decide +kernel
theorem dMo_spindle_57 : decode cMo_spindle 57 = .ok (.iconst 1, 1) := by decide +kernel
theorem dMo_spindle_58 : decode cMo_spindle 58 = .ok (.goto 13, 3) := by decide +kernel
theorem dMo_spindle_61 : decode cMo_spindle 61 = .ok (.iload 5, 2) := by decide +kernel
theorem dMo_spindle_63 : decode cMo_spindle 63 = .ok (.ifCond .eq 7, 3) := by decide +kernel
theorem dMo_spindle_66 : decode cMo_spindle 66 = .ok (.iconst 0, 1) := by decide +kernel
theorem dMo_spindle_67 : decode cMo_spindle 67 = .ok (.goto 4, 3) := by decide +kernel
theorem dMo_spindle_70 : decode cMo_spindle 70 = .ok (.iconst 2, 1) := by decide +kernel
theorem dMo_spindle_71 : decode cMo_spindle 71 = .ok (.putfield 79, 3) := by decide +kernel
theorem dMo_spindle_74 : decode cMo_spindle 74 = .ok (.aload_n 0, 1) := by decide +kernel
theorem dMo_spindle_75 : decode cMo_spindle 75 = .ok (.getfield 79, 3) := by decide +kernel
theorem dMo_spindle_78 : decode cMo_spindle 78 = .ok (.ifCond .gt 34, 3) := by decide +kernel
theorem dMo_spindle_81 : decode cMo_spindle 81 = .ok (.aload_n 0, 1) := by decide +kernel
theorem dMo_spindle_82 : decode cMo_spindle 82 = .ok (.getfield 7, 3) := by decide +kernel
theorem dMo_spindle_85 : decode cMo_spindle 85 = .ok (.iload_n 1, 1) := by decide +kernel
theorem dMo_spindle_86 : decode cMo_spindle 86 = .ok (.iaload, 1) := by decide +kernel
theorem dMo_spindle_87 : decode cMo_spindle 87 = .ok (.iload_n 2, 1) := by decide +kernel
theorem dMo_spindle_88 : decode cMo_spindle 88 = .ok (.if_icmp .ne 26, 3) := by decide +kernel
theorem dMo_spindle_91 : decode cMo_spindle 91 = .ok (.aload_n 0, 1) := by decide +kernel
theorem dMo_spindle_92 : decode cMo_spindle 92 = .ok (.getfield 13, 3) := by decide +kernel
theorem dMo_spindle_95 : decode cMo_spindle 95 = .ok (.iload_n 1, 1) := by decide +kernel
theorem dMo_spindle_96 : decode cMo_spindle 96 = .ok (.iaload, 1) := by decide +kernel
theorem dMo_spindle_97 : decode cMo_spindle 97 = .ok (.iload_n 3, 1) := by decide +kernel
theorem dMo_spindle_98 : decode cMo_spindle 98 = .ok (.if_icmp .ne 16, 3) := by decide +kernel
theorem dMo_spindle_101 : decode cMo_spindle 101 = .ok (.aload_n 0, 1) := by decide +kernel
theorem dMo_spindle_102 : decode cMo_spindle 102 = .ok (.getfield 16, 3) := by decide +kernel
theorem dMo_spindle_105 : decode cMo_spindle 105 = .ok (.iload_n 1, 1) := by decide +kernel
theorem dMo_spindle_106 : decode cMo_spindle 106 = .ok (.iaload, 1) := by decide +kernel
theorem dMo_spindle_107 : decode cMo_spindle 107 = .ok (.iload 4, 2) := by decide +kernel
theorem dMo_spindle_109 : decode cMo_spindle 109 = .ok (.if_icmp .ne 5, 3) := by decide +kernel
theorem dMo_spindle_112 : decode cMo_spindle 112 = .ok (.iconst 0, 1) := by decide +kernel
theorem dMo_spindle_113 : decode cMo_spindle 113 = .ok (.ireturn, 1) := by decide +kernel
theorem dMo_spindle_114 : decode cMo_spindle 114 = .ok (.aload_n 0, 1) := by decide +kernel
theorem dMo_spindle_115 : decode cMo_spindle 115 = .ok (.getfield 7, 3) := by decide +kernel
theorem dMo_spindle_118 : decode cMo_spindle 118 = .ok (.iload_n 1, 1) := by decide +kernel
theorem dMo_spindle_119 : decode cMo_spindle 119 = .ok (.iload_n 2, 1) := by decide +kernel
theorem dMo_spindle_120 : decode cMo_spindle 120 = .ok (.iastore, 1) := by decide +kernel
theorem dMo_spindle_121 : decode cMo_spindle 121 = .ok (.aload_n 0, 1) := by decide +kernel
theorem dMo_spindle_122 : decode cMo_spindle 122 = .ok (.getfield 13, 3) := by decide +kernel
theorem dMo_spindle_125 : decode cMo_spindle 125 = .ok (.iload_n 1, 1) := by decide +kernel
theorem dMo_spindle_126 : decode cMo_spindle 126 = .ok (.iload_n 3, 1) := by decide +kernel
theorem dMo_spindle_127 : decode cMo_spindle 127 = .ok (.iastore, 1) := by decide +kernel
theorem dMo_spindle_128 : decode cMo_spindle 128 = .ok (.aload_n 0, 1) := by decide +kernel
theorem dMo_spindle_129 : decode cMo_spindle 129 = .ok (.getfield 16, 3) := by decide +kernel
theorem dMo_spindle_132 : decode cMo_spindle 132 = .ok (.iload_n 1, 1) := by decide +kernel
theorem dMo_spindle_133 : decode cMo_spindle 133 = .ok (.iload 4, 2) := by decide +kernel
theorem dMo_spindle_135 : decode cMo_spindle 135 = .ok (.iastore, 1) := by decide +kernel
theorem dMo_spindle_136 : decode cMo_spindle 136 = .ok (.aload_n 0, 1) := by decide +kernel
theorem dMo_spindle_137 : decode cMo_spindle 137 = .ok (.iconst 0, 1) := by decide +kernel
theorem dMo_spindle_138 : decode cMo_spindle 138 = .ok (.putfield 86, 3) := by decide +kernel
theorem dMo_spindle_141 : decode cMo_spindle 141 = .ok (.iconst 1, 1) := by decide +kernel
theorem dMo_spindle_142 : decode cMo_spindle 142 = .ok (.ireturn, 1) := by decide +kernel
theorem dMo_isIn_0 : decode cMo_isIn 0 = .ok (.iload_n 0, 1) := by decide +kernel
theorem dMo_isIn_1 : decode cMo_isIn 1 = .ok (.iload_n 1, 1) := by decide +kernel
theorem dMo_isIn_2 : decode cMo_isIn 2 = .ok (.if_icmp .lt 12, 3) := by decide +kernel
theorem dMo_isIn_5 : decode cMo_isIn 5 = .ok (.iload_n 0, 1) := by decide +kernel
theorem dMo_isIn_6 : decode cMo_isIn 6 = .ok (.iload_n 2, 1) := by decide +kernel
theorem dMo_isIn_7 : decode cMo_isIn 7 = .ok (.if_icmp .gt 7, 3) := by decide +kernel
theorem dMo_isIn_10 : decode cMo_isIn 10 = .ok (.iconst 1, 1) := by decide +kernel
theorem dMo_isIn_11 : decode cMo_isIn 11 = .ok (.goto 4, 3) := by decide +kernel
theorem dMo_isIn_14 : decode cMo_isIn 14 = .ok (.iconst 0, 1) := by decide +kernel
theorem dMo_isIn_15 : decode cMo_isIn 15 = .ok (.ireturn, 1) := by decide +kernel
theorem dMo_hole_0 : decode cMo_hole 0 = .ok (.iload_n 1, 1) := by decide +kernel
theorem dMo_hole_1 : decode cMo_hole 1 = .ok (.sipush (-10000), 3) := by decide +kernel
theorem dMo_hole_4 : decode cMo_hole 4 = .ok (.sipush 10000, 3) := by decide +kernel
theorem dMo_hole_7 : decode cMo_hole 7 = .ok (.invokestatic 82, 3) := by decide +kernel
theorem dMo_hole_10 : decode cMo_hole 10 = .ok (.ifCond .eq 52, 3) := by decide +kernel
theorem dMo_hole_13 : decode cMo_hole 13 = .ok (.iload_n 2, 1) := by decide +kernel
theorem dMo_hole_14 : decode cMo_hole 14 = .ok (.sipush (-10000), 3) := by decide +kernel
theorem dMo_hole_17 : decode cMo_hole 17 = .ok (.sipush 10000, 3) := by decide +kernel
theorem dMo_hole_20 : decode cMo_hole 20 = .ok (.invokestatic 82, 3) := by decide +kernel
theorem dMo_hole_23 : decode cMo_hole 23 = .ok (.ifCond .eq 39, 3) := by decide +kernel
theorem dMo_hole_26 : decode cMo_hole 26 = .ok (.iload_n 3, 1) := by decide +kernel
theorem dMo_hole_27 : decode cMo_hole 27 = .ok (.iconst 1, 1) := by decide +kernel
theorem dMo_hole_28 : decode cMo_hole 28 = .ok (.bipush 100, 2) := by decide +kernel
theorem dMo_hole_30 : decode cMo_hole 30 = .ok (.invokestatic 82, 3) := by decide +kernel
theorem dMo_hole_33 : decode cMo_hole 33 = .ok (.ifCond .eq 29, 3) := by decide +kernel
theorem dMo_hole_36 : decode cMo_hole 36 = .ok (.iload 4, 2) := by decide +kernel
theorem dMo_hole_38 : decode cMo_hole 38 = .ok (.iconst 1, 1) := by decide +kernel
theorem dMo_hole_39 : decode cMo_hole 39 = .ok (.sipush 1000, 3) := by decide +kernel
theorem dMo_hole_42 : decode cMo_hole 42 = .ok (.invokestatic 82, 3) := by decide +kernel
theorem dMo_hole_45 : decode cMo_hole 45 = .ok (.ifCond .eq 17, 3) := by decide +kernel
theorem dMo_hole_48 : decode cMo_hole 48 = .ok (.iload 5, 2) := by decide +kernel
theorem dMo_hole_50 : decode cMo_hole 50 = .ok (.iconst 0, 1) := by decide +kernel
theorem dMo_hole_51 : decode cMo_hole 51 = .ok (.iconst 4, 1) := by decide +kernel
theorem dMo_hole_52 : decode cMo_hole 52 = .ok (.invokestatic 82, 3) := by decide +kernel
theorem dMo_hole_55 : decode cMo_hole 55 = .ok (.ifCond .eq 7, 3) := by decide +kernel
theorem dMo_hole_58 : decode cMo_hole 58 = .ok (.iconst 1, 1) := by decide +kernel
theorem dMo_hole_59 : decode cMo_hole 59 = .ok (.goto 4, 3) := by decide +kernel
theorem dMo_hole_62 : decode cMo_hole 62 = .ok (.iconst 0, 1) := by decide +kernel
theorem dMo_hole_63 : decode cMo_hole 63 = .ok (.istore 6, 2) := by decide +kernel
theorem dMo_hole_65 : decode cMo_hole 65 = .ok (.aload_n 0, 1) := by decide +kernel
theorem dMo_hole_66 : decode cMo_hole 66 = .ok (.aload_n 0, 1) := by decide +kernel
theorem dMo_hole_67 : decode cMo_hole 67 = .ok (.getfield 90, 3) := by decide +kernel
theorem dMo_hole_70 : decode cMo_hole 70 = .ok (.bipush 14, 2) := by decide +kernel
theorem dMo_hole_72 : decode cMo_hole 72 = .ok (.if_icmp .ne 7, 3) := by decide +kernel
theorem dMo_hole_75 : decode cMo_hole 75 = .ok (.iconst 1, 1) := by decide +kernel
theorem dMo_hole_76 : decode cMo_hole 76 = .ok (.goto 13, 3) := by decide +kernel
theorem dMo_hole_79 : decode cMo_hole 79 = .ok (.iload 6, 2) := by decide +kernel
theorem dMo_hole_81 : decode cMo_hole 81 = .ok (.ifCond .eq 7, 3) := by decide +kernel
theorem dMo_hole_84 : decode cMo_hole 84 = .ok (.iconst 0, 1) := by decide +kernel
theorem dMo_hole_85 : decode cMo_hole 85 = .ok (.goto 4, 3) := by decide +kernel
theorem dMo_hole_88 : decode cMo_hole 88 = .ok (.iconst 2, 1) := by decide +kernel
theorem dMo_hole_89 : decode cMo_hole 89 = .ok (.putfield 79, 3) := by decide +kernel
theorem dMo_hole_92 : decode cMo_hole 92 = .ok (.aload_n 0, 1) := by decide +kernel
theorem dMo_hole_93 : decode cMo_hole 93 = .ok (.getfield 79, 3) := by decide +kernel
theorem dMo_hole_96 : decode cMo_hole 96 = .ok (.ifCond .le 5, 3) := by decide +kernel
theorem dMo_hole_99 : decode cMo_hole 99 = .ok (.iconst 0, 1) := by decide +kernel
theorem dMo_hole_100 : decode cMo_hole 100 = .ok (.ireturn, 1) := by decide +kernel
theorem dMo_hole_101 : decode cMo_hole 101 = .ok (.aload_n 0, 1) := by decide +kernel
theorem dMo_hole_102 : decode cMo_hole 102 = .ok (.getfield 19, 3) := by decide +kernel
theorem dMo_hole_105 : decode cMo_hole 105 = .ok (.aload_n 0, 1) := by decide +kernel
theorem dMo_hole_106 : decode cMo_hole 106 = .ok (.getfield 90, 3) := by decide +kernel
theorem dMo_hole_109 : decode cMo_hole 109 = .ok (.iload_n 1, 1) := by decide +kernel
theorem dMo_hole_110 : decode cMo_hole 110 = .ok (.iastore, 1) := by decide +kernel
theorem dMo_hole_111 : decode cMo_hole 111 = .ok (.aload_n 0, 1) := by decide +kernel
theorem dMo_hole_112 : decode cMo_hole 112 = .ok (.getfield 22, 3) := by decide +kernel
theorem dMo_hole_115 : decode cMo_hole 115 = .ok (.aload_n 0, 1) := by decide +kernel
theorem dMo_hole_116 : decode cMo_hole 116 = .ok (.getfield 90, 3) := by decide +kernel
theorem dMo_hole_119 : decode cMo_hole 119 = .ok (.iload_n 2, 1) := by decide +kernel
theorem dMo_hole_120 : decode cMo_hole 120 = .ok (.iastore, 1) := by decide +kernel
theorem dMo_hole_121 : decode cMo_hole 121 = .ok (.aload_n 0, 1) := by decide +kernel
theorem dMo_hole_122 : decode cMo_hole 122 = .ok (.getfield 25, 3) := by decide +kernel
theorem dMo_hole_125 : decode cMo_hole 125 = .ok (.aload_n 0, 1) := by decide +kernel
theorem dMo_hole_126 : decode cMo_hole 126 = .ok (.getfield 90, 3) := by decide +kernel
theorem dMo_hole_129 : decode cMo_hole 129 = .ok (.iload_n 3, 1) := by decide +kernel
theorem dMo_hole_130 : decode cMo_hole 130 = .ok (.iastore, 1) := by decide +kernel
theorem dMo_hole_131 : decode cMo_hole 131 = .ok (.aload_n 0, 1) := by decide +kernel
theorem dMo_hole_132 : decode cMo_hole 132 = .ok (.getfield 28, 3) := by decide +kernel
theorem dMo_hole_135 : decode cMo_hole 135 = .ok (.aload_n 0, 1) := by decide +kernel
theorem dMo_hole_136 : decode cMo_hole 136 = .ok (.getfield 90, 3) := by decide +kernel
theorem dMo_hole_139 : decode cMo_hole 139 = .ok (.iload 4, 2) := by decide +kernel
theorem dMo_hole_141 : decode cMo_hole 141 = .ok (.iastore, 1) := by decide +kernel
theorem dMo_hole_142 : decode cMo_hole 142 = .ok (.aload_n 0, 1) := by decide +kernel
theorem dMo_hole_143 : decode cMo_hole 143 = .ok (.getfield 31, 3) := by decide +kernel
theorem dMo_hole_146 : decode cMo_hole 146 = .ok (.aload_n 0, 1) := by decide +kernel
theorem dMo_hole_147 : decode cMo_hole 147 = .ok (.getfield 90, 3) := by decide +kernel
theorem dMo_hole_150 : decode cMo_hole 150 = .ok (.iload 5, 2) := by decide +kernel
theorem dMo_hole_152 : decode cMo_hole 152 = .ok (.iastore, 1) := by decide +kernel
theorem dMo_hole_153 : decode cMo_hole 153 = .ok (.aload_n 0, 1) := by decide +kernel
theorem dMo_hole_154 : decode cMo_hole 154 = .ok (.dup, 1) := by decide +kernel
theorem dMo_hole_155 : decode cMo_hole 155 = .ok (.getfield 90, 3) := by decide +kernel
theorem dMo_hole_158 : decode cMo_hole 158 = .ok (.iconst 1, 1) := by decide +kernel
theorem dMo_hole_159 : decode cMo_hole 159 = .ok (.iadd, 1) := by decide +kernel
theorem dMo_hole_160 : decode cMo_hole 160 = .ok (.putfield 90, 3) := by decide +kernel
theorem dMo_hole_163 : decode cMo_hole 163 = .ok (.aload_n 0, 1) := by decide +kernel
theorem dMo_hole_164 : decode cMo_hole 164 = .ok (.iconst 0, 1) := by decide +kernel
theorem dMo_hole_165 : decode cMo_hole 165 = .ok (.putfield 86, 3) := by decide +kernel
theorem dMo_hole_168 : decode cMo_hole 168 = .ok (.aload_n 0, 1) := by decide +kernel
theorem dMo_hole_169 : decode cMo_hole 169 = .ok (.getfield 90, 3) := by decide +kernel
theorem dMo_hole_172 : decode cMo_hole 172 = .ok (.iconst 1, 1) := by decide +kernel
theorem dMo_hole_173 : decode cMo_hole 173 = .ok (.isub, 1) := by decide +kernel
theorem dMo_hole_174 : decode cMo_hole 174 = .ok (.ireturn, 1) := by decide +kernel
theorem dMo_through_0 : decode cMo_through 0 = .ok (.aload_n 0, 1) := by decide +kernel
theorem dMo_through_1 : decode cMo_through 1 = .ok (.iload_n 1, 1) := by decide +kernel
theorem dMo_through_2 : decode cMo_through 2 = .ok (.invokevirtual 93, 3) := by decide +kernel
theorem dMo_through_5 : decode cMo_through 5 = .ok (.ifCond .ne 13, 3) := by decide +kernel
theorem dMo_through_8 : decode cMo_through 8 = .ok (.aload_n 0, 1) := by decide +kernel
theorem dMo_through_9 : decode cMo_through 9 = .ok (.getfield 34, 3) := by decide +kernel
theorem dMo_through_12 : decode cMo_through 12 = .ok (.iload_n 1, 1) := by decide +kernel
theorem dMo_through_13 : decode cMo_through 13 = .ok (.baload, 1) := by decide +kernel
theorem dMo_through_14 : decode cMo_through 14 = .ok (.iload_n 2, 1) := by decide +kernel
theorem dMo_through_15 : decode cMo_through 15 = .ok (.if_icmp .ne 5, 3) := by decide +kernel
theorem dMo_through_18 : decode cMo_through 18 = .ok (.iconst 0, 1) := by decide +kernel
theorem dMo_through_19 : decode cMo_through 19 = .ok (.ireturn, 1) := by decide +kernel
theorem dMo_through_20 : decode cMo_through 20 = .ok (.aload_n 0, 1) := by decide +kernel
theorem dMo_through_21 : decode cMo_through 21 = .ok (.getfield 34, 3) := by decide +kernel
theorem dMo_through_24 : decode cMo_through 24 = .ok (.iload_n 1, 1) := by decide +kernel
theorem dMo_through_25 : decode cMo_through 25 = .ok (.iload_n 2, 1) := by decide +kernel
theorem dMo_through_26 : decode cMo_through 26 = .ok (.bastore, 1) := by decide +kernel
theorem dMo_through_27 : decode cMo_through 27 = .ok (.aload_n 0, 1) := by decide +kernel
theorem dMo_through_28 : decode cMo_through 28 = .ok (.iconst 0, 1) := by decide +kernel
theorem dMo_through_29 : decode cMo_through 29 = .ok (.putfield 86, 3) := by decide +kernel
theorem dMo_through_32 : decode cMo_through 32 = .ok (.iconst 1, 1) := by decide +kernel
theorem dMo_through_33 : decode cMo_through 33 = .ok (.ireturn, 1) := by decide +kernel
theorem dMo_noHole_0 : decode cMo_noHole 0 = .ok (.aload_n 0, 1) := by decide +kernel
theorem dMo_noHole_1 : decode cMo_noHole 1 = .ok (.iload_n 1, 1) := by decide +kernel
theorem dMo_noHole_2 : decode cMo_noHole 2 = .ok (.ifCond .lt 11, 3) := by decide +kernel
theorem dMo_noHole_5 : decode cMo_noHole 5 = .ok (.iload_n 1, 1) := by decide +kernel
theorem dMo_noHole_6 : decode cMo_noHole 6 = .ok (.aload_n 0, 1) := by decide +kernel
theorem dMo_noHole_7 : decode cMo_noHole 7 = .ok (.getfield 90, 3) := by decide +kernel
theorem dMo_noHole_10 : decode cMo_noHole 10 = .ok (.if_icmp .lt 7, 3) := by decide +kernel
theorem dMo_noHole_13 : decode cMo_noHole 13 = .ok (.iconst 1, 1) := by decide +kernel
theorem dMo_noHole_14 : decode cMo_noHole 14 = .ok (.goto 4, 3) := by decide +kernel
theorem dMo_noHole_17 : decode cMo_noHole 17 = .ok (.iconst 0, 1) := by decide +kernel
theorem dMo_noHole_18 : decode cMo_noHole 18 = .ok (.putfield 79, 3) := by decide +kernel
theorem dMo_noHole_21 : decode cMo_noHole 21 = .ok (.aload_n 0, 1) := by decide +kernel
theorem dMo_noHole_22 : decode cMo_noHole 22 = .ok (.getfield 79, 3) := by decide +kernel
theorem dMo_noHole_25 : decode cMo_noHole 25 = .ok (.ifCond .le 7, 3) := by decide +kernel
theorem dMo_noHole_28 : decode cMo_noHole 28 = .ok (.iconst 1, 1) := by decide +kernel
theorem dMo_noHole_29 : decode cMo_noHole 29 = .ok (.goto 4, 3) := by decide +kernel
theorem dMo_noHole_32 : decode cMo_noHole 32 = .ok (.iconst 0, 1) := by decide +kernel
theorem dMo_noHole_33 : decode cMo_noHole 33 = .ok (.ireturn, 1) := by decide +kernel
theorem dMo_clamp_0 : decode cMo_clamp 0 = .ok (.iload_n 1, 1) := by decide +kernel
theorem dMo_clamp_1 : decode cMo_clamp 1 = .ok (.sipush (-20000), 3) := by decide +kernel
theorem dMo_clamp_4 : decode cMo_clamp 4 = .ok (.sipush 20000, 3) := by decide +kernel
theorem dMo_clamp_7 : decode cMo_clamp 7 = .ok (.invokestatic 82, 3) := by decide +kernel
theorem dMo_clamp_10 : decode cMo_clamp 10 = .ok (.ifCond .eq 43, 3) := by decide +kernel
theorem dMo_clamp_13 : decode cMo_clamp 13 = .ok (.iload_n 2, 1) := by decide +kernel
theorem dMo_clamp_14 : decode cMo_clamp 14 = .ok (.sipush (-20000), 3) := by decide +kernel
theorem dMo_clamp_17 : decode cMo_clamp 17 = .ok (.sipush 20000, 3) := by decide +kernel
theorem dMo_clamp_20 : decode cMo_clamp 20 = .ok (.invokestatic 82, 3) := by decide +kernel
theorem dMo_clamp_23 : decode cMo_clamp 23 = .ok (.ifCond .eq 30, 3) := by decide +kernel
theorem dMo_clamp_26 : decode cMo_clamp 26 = .ok (.iload_n 3, 1) := by decide +kernel
theorem dMo_clamp_27 : decode cMo_clamp 27 = .ok (.iload_n 1, 1) := by decide +kernel
theorem dMo_clamp_28 : decode cMo_clamp 28 = .ok (.sipush 20000, 3) := by decide +kernel
theorem dMo_clamp_31 : decode cMo_clamp 31 = .ok (.invokestatic 82, 3) := by decide +kernel
theorem dMo_clamp_34 : decode cMo_clamp 34 = .ok (.ifCond .eq 19, 3) := by decide +kernel
theorem dMo_clamp_37 : decode cMo_clamp 37 = .ok (.iload 4, 2) := by decide +kernel
theorem dMo_clamp_39 : decode cMo_clamp 39 = .ok (.iload_n 2, 1) := by decide +kernel
theorem dMo_clamp_40 : decode cMo_clamp 40 = .ok (.sipush 20000, 3) := by decide +kernel
theorem dMo_clamp_43 : decode cMo_clamp 43 = .ok (.invokestatic 82, 3) := by decide +kernel
theorem dMo_clamp_46 : decode cMo_clamp 46 = .ok (.ifCond .eq 7, 3) := by decide +kernel
theorem dMo_clamp_49 : decode cMo_clamp 49 = .ok (.iconst 1, 1) := by decide +kernel
theorem dMo_clamp_50 : decode cMo_clamp 50 = .ok (.goto 4, 3) := by decide +kernel
theorem dMo_clamp_53 : decode cMo_clamp 53 = .ok (.iconst 0, 1) := by decide +kernel
theorem dMo_clamp_54 : decode cMo_clamp 54 = .ok (.istore 5, 2) := by decide +kernel
theorem dMo_clamp_56 : decode cMo_clamp 56 = .ok (.aload_n 0, 1) := by decide +kernel
theorem dMo_clamp_57 : decode cMo_clamp 57 = .ok (.iload 5, 2) := by decide +kernel
theorem dMo_clamp_59 : decode cMo_clamp 59 = .ok (.ifCond .eq 7, 3) := by decide +kernel
theorem dMo_clamp_62 : decode cMo_clamp 62 = .ok (.iconst 0, 1) := by decide +kernel
theorem dMo_clamp_63 : decode cMo_clamp 63 = .ok (.goto 4, 3) := by decide +kernel
theorem dMo_clamp_66 : decode cMo_clamp 66 = .ok (.iconst 1, 1) := by decide +kernel
theorem dMo_clamp_67 : decode cMo_clamp 67 = .ok (.putfield 79, 3) := by decide +kernel
theorem dMo_clamp_70 : decode cMo_clamp 70 = .ok (.aload_n 0, 1) := by decide +kernel
theorem dMo_clamp_71 : decode cMo_clamp 71 = .ok (.getfield 79, 3) := by decide +kernel
theorem dMo_clamp_74 : decode cMo_clamp 74 = .ok (.ifCond .gt 12, 3) := by decide +kernel
theorem dMo_clamp_77 : decode cMo_clamp 77 = .ok (.aload_n 0, 1) := by decide +kernel
theorem dMo_clamp_78 : decode cMo_clamp 78 = .ok (.getfield 97, 3) := by decide +kernel
theorem dMo_clamp_81 : decode cMo_clamp 81 = .ok (.bipush 6, 2) := by decide +kernel
theorem dMo_clamp_83 : decode cMo_clamp 83 = .ok (.if_icmp .ne 5, 3) := by decide +kernel
theorem dMo_clamp_86 : decode cMo_clamp 86 = .ok (.iconst 0, 1) := by decide +kernel
theorem dMo_clamp_87 : decode cMo_clamp 87 = .ok (.ireturn, 1) := by decide +kernel
theorem dMo_clamp_88 : decode cMo_clamp 88 = .ok (.aload_n 0, 1) := by decide +kernel
theorem dMo_clamp_89 : decode cMo_clamp 89 = .ok (.getfield 38, 3) := by decide +kernel
theorem dMo_clamp_92 : decode cMo_clamp 92 = .ok (.iconst 4, 1) := by decide +kernel
theorem dMo_clamp_93 : decode cMo_clamp 93 = .ok (.aload_n 0, 1) := by decide +kernel
theorem dMo_clamp_94 : decode cMo_clamp 94 = .ok (.getfield 97, 3) := by decide +kernel
theorem dMo_clamp_97 : decode cMo_clamp 97 = .ok (.imul, 1) := by decide +kernel
theorem dMo_clamp_98 : decode cMo_clamp 98 = .ok (.iload_n 1, 1) := by decide +kernel
theorem dMo_clamp_99 : decode cMo_clamp 99 = .ok (.iastore, 1) := by decide +kernel
theorem dMo_clamp_100 : decode cMo_clamp 100 = .ok (.aload_n 0, 1) := by decide +kernel
theorem dMo_clamp_101 : decode cMo_clamp 101 = .ok (.getfield 38, 3) := by decide +kernel
theorem dMo_clamp_104 : decode cMo_clamp 104 = .ok (.iconst 4, 1) := by decide +kernel
theorem dMo_clamp_105 : decode cMo_clamp 105 = .ok (.aload_n 0, 1) := by decide +kernel
theorem dMo_clamp_106 : decode cMo_clamp 106 = .ok (.getfield 97, 3) := by decide +kernel
theorem dMo_clamp_109 : decode cMo_clamp 109 = .ok (.imul, 1) := by decide +kernel
theorem dMo_clamp_110 : decode cMo_clamp 110 = .ok (.iconst 1, 1) := by decide +kernel
theorem dMo_clamp_111 : decode cMo_clamp 111 = .ok (.iadd, 1) := by decide +kernel
theorem dMo_clamp_112 : decode cMo_clamp 112 = .ok (.iload_n 2, 1) := by decide +kernel
theorem dMo_clamp_113 : decode cMo_clamp 113 = .ok (.iastore, 1) := by decide +kernel
theorem dMo_clamp_114 : decode cMo_clamp 114 = .ok (.aload_n 0, 1) := by decide +kernel
theorem dMo_clamp_115 : decode cMo_clamp 115 = .ok (.getfield 38, 3) := by decide +kernel
theorem dMo_clamp_118 : decode cMo_clamp 118 = .ok (.iconst 4, 1) := by decide +kernel
theorem dMo_clamp_119 : decode cMo_clamp 119 = .ok (.aload_n 0, 1) := by decide +kernel
theorem dMo_clamp_120 : decode cMo_clamp 120 = .ok (.getfield 97, 3) := by decide +kernel
theorem dMo_clamp_123 : decode cMo_clamp 123 = .ok (.imul, 1) := by decide +kernel
theorem dMo_clamp_124 : decode cMo_clamp 124 = .ok (.iconst 2, 1) := by decide +kernel
theorem dMo_clamp_125 : decode cMo_clamp 125 = .ok (.iadd, 1) := by decide +kernel
theorem dMo_clamp_126 : decode cMo_clamp 126 = .ok (.iload_n 3, 1) := by decide +kernel
theorem dMo_clamp_127 : decode cMo_clamp 127 = .ok (.iastore, 1) := by decide +kernel
theorem dMo_clamp_128 : decode cMo_clamp 128 = .ok (.aload_n 0, 1) := by decide +kernel
theorem dMo_clamp_129 : decode cMo_clamp 129 = .ok (.getfield 38, 3) := by decide +kernel
theorem dMo_clamp_132 : decode cMo_clamp 132 = .ok (.iconst 4, 1) := by decide +kernel
theorem dMo_clamp_133 : decode cMo_clamp 133 = .ok (.aload_n 0, 1) := by decide +kernel
theorem dMo_clamp_134 : decode cMo_clamp 134 = .ok (.getfield 97, 3) := by decide +kernel
theorem dMo_clamp_137 : decode cMo_clamp 137 = .ok (.imul, 1) := by decide +kernel
theorem dMo_clamp_138 : decode cMo_clamp 138 = .ok (.iconst 3, 1) := by decide +kernel
theorem dMo_clamp_139 : decode cMo_clamp 139 = .ok (.iadd, 1) := by decide +kernel
theorem dMo_clamp_140 : decode cMo_clamp 140 = .ok (.iload 4, 2) := by decide +kernel
theorem dMo_clamp_142 : decode cMo_clamp 142 = .ok (.iastore, 1) := by decide +kernel
theorem dMo_clamp_143 : decode cMo_clamp 143 = .ok (.aload_n 0, 1) := by decide +kernel
theorem dMo_clamp_144 : decode cMo_clamp 144 = .ok (.dup, 1) := by decide +kernel
theorem dMo_clamp_145 : decode cMo_clamp 145 = .ok (.getfield 97, 3) := by decide +kernel
theorem dMo_clamp_148 : decode cMo_clamp 148 = .ok (.iconst 1, 1) := by decide +kernel
theorem dMo_clamp_149 : decode cMo_clamp 149 = .ok (.iadd, 1) := by decide +kernel
theorem dMo_clamp_150 : decode cMo_clamp 150 = .ok (.putfield 97, 3) := by decide +kernel
theorem dMo_clamp_153 : decode cMo_clamp 153 = .ok (.aload_n 0, 1) := by decide +kernel
theorem dMo_clamp_154 : decode cMo_clamp 154 = .ok (.iconst 0, 1) := by decide +kernel
theorem dMo_clamp_155 : decode cMo_clamp 155 = .ok (.putfield 86, 3) := by decide +kernel
theorem dMo_clamp_158 : decode cMo_clamp 158 = .ok (.iconst 1, 1) := by decide +kernel
theorem dMo_clamp_159 : decode cMo_clamp 159 = .ok (.ireturn, 1) := by decide +kernel
theorem dMo_mirror_0 : decode cMo_mirror 0 = .ok (.aload_n 0, 1) := by decide +kernel
theorem dMo_mirror_1 : decode cMo_mirror 1 = .ok (.iload_n 1, 1) := by decide +kernel
theorem dMo_mirror_2 : decode cMo_mirror 2 = .ok (.iconst 0, 1) := by decide +kernel
theorem dMo_mirror_3 : decode cMo_mirror 3 = .ok (.iconst 1, 1) := by decide +kernel
theorem dMo_mirror_4 : decode cMo_mirror 4 = .ok (.invokestatic 82, 3) := by decide +kernel
theorem dMo_mirror_7 : decode cMo_mirror 7 = .ok (.ifCond .eq 7, 3) := by decide +kernel
theorem dMo_mirror_10 : decode cMo_mirror 10 = .ok (.iconst 0, 1) := by decide +kernel
theorem dMo_mirror_11 : decode cMo_mirror 11 = .ok (.goto 4, 3) := by decide +kernel
theorem dMo_mirror_14 : decode cMo_mirror 14 = .ok (.iconst 1, 1) := by decide +kernel
theorem dMo_mirror_15 : decode cMo_mirror 15 = .ok (.putfield 79, 3) := by decide +kernel
theorem dMo_mirror_18 : decode cMo_mirror 18 = .ok (.aload_n 0, 1) := by decide +kernel
theorem dMo_mirror_19 : decode cMo_mirror 19 = .ok (.getfield 79, 3) := by decide +kernel
theorem dMo_mirror_22 : decode cMo_mirror 22 = .ok (.ifCond .le 5, 3) := by decide +kernel
theorem dMo_mirror_25 : decode cMo_mirror 25 = .ok (.iconst 0, 1) := by decide +kernel
theorem dMo_mirror_26 : decode cMo_mirror 26 = .ok (.ireturn, 1) := by decide +kernel
theorem dMo_mirror_27 : decode cMo_mirror 27 = .ok (.iconst 0, 1) := by decide +kernel
theorem dMo_mirror_28 : decode cMo_mirror 28 = .ok (.istore_n 2, 1) := by decide +kernel
theorem dMo_mirror_29 : decode cMo_mirror 29 = .ok (.iload_n 2, 1) := by decide +kernel
theorem dMo_mirror_30 : decode cMo_mirror 30 = .ok (.aload_n 0, 1) := by decide +kernel
theorem dMo_mirror_31 : decode cMo_mirror 31 = .ok (.getfield 90, 3) := by decide +kernel
theorem dMo_mirror_34 : decode cMo_mirror 34 = .ok (.if_icmp .ge 62, 3) := by decide +kernel
theorem dMo_mirror_37 : decode cMo_mirror 37 = .ok (.aload_n 0, 1) := by decide +kernel
theorem dMo_mirror_38 : decode cMo_mirror 38 = .ok (.getfield 19, 3) := by decide +kernel
theorem dMo_mirror_41 : decode cMo_mirror 41 = .ok (.iload_n 2, 1) := by decide +kernel
theorem dMo_mirror_42 : decode cMo_mirror 42 = .ok (.iload_n 1, 1) := by decide +kernel
theorem dMo_mirror_43 : decode cMo_mirror 43 = .ok (.ifCond .ne 13, 3) := by decide +kernel
theorem dMo_mirror_46 : decode cMo_mirror 46 = .ok (.aload_n 0, 1) := by decide +kernel
theorem dMo_mirror_47 : decode cMo_mirror 47 = .ok (.getfield 19, 3) := by decide +kernel
theorem dMo_mirror_50 : decode cMo_mirror 50 = .ok (.iload_n 2, 1) := by decide +kernel
theorem dMo_mirror_51 : decode cMo_mirror 51 = .ok (.iaload, 1) := by decide +kernel
theorem dMo_mirror_52 : decode cMo_mirror 52 = .ok (.ineg, 1) := by decide +kernel
theorem dMo_mirror_53 : decode cMo_mirror 53 = .ok (.goto 9, 3) := by decide +kernel
theorem dMo_mirror_56 : decode cMo_mirror 56 = .ok (.aload_n 0, 1) := by decide +kernel
theorem dMo_mirror_57 : decode cMo_mirror 57 = .ok (.getfield 19, 3) := by decide +kernel
theorem dMo_mirror_60 : decode cMo_mirror 60 = .ok (.iload_n 2, 1) := by decide +kernel
theorem dMo_mirror_61 : decode cMo_mirror 61 = .ok (.iaload, 1) := by decide +kernel
theorem dMo_mirror_62 : decode cMo_mirror 62 = .ok (.iastore, 1) := by decide +kernel
theorem dMo_mirror_63 : decode cMo_mirror 63 = .ok (.aload_n 0, 1) := by decide +kernel
theorem dMo_mirror_64 : decode cMo_mirror 64 = .ok (.getfield 22, 3) := by decide +kernel
theorem dMo_mirror_67 : decode cMo_mirror 67 = .ok (.iload_n 2, 1) := by decide +kernel
theorem dMo_mirror_68 : decode cMo_mirror 68 = .ok (.iload_n 1, 1) := by decide +kernel
theorem dMo_mirror_69 : decode cMo_mirror 69 = .ok (.iconst 1, 1) := by decide +kernel
theorem dMo_mirror_70 : decode cMo_mirror 70 = .ok (.if_icmp .ne 13, 3) := by decide +kernel
theorem dMo_mirror_73 : decode cMo_mirror 73 = .ok (.aload_n 0, 1) := by decide +kernel
theorem dMo_mirror_74 : decode cMo_mirror 74 = .ok (.getfield 22, 3) := by decide +kernel
theorem dMo_mirror_77 : decode cMo_mirror 77 = .ok (.iload_n 2, 1) := by decide +kernel
theorem dMo_mirror_78 : decode cMo_mirror 78 = .ok (.iaload, 1) := by decide +kernel
theorem dMo_mirror_79 : decode cMo_mirror 79 = .ok (.ineg, 1) := by decide +kernel
theorem dMo_mirror_80 : decode cMo_mirror 80 = .ok (.goto 9, 3) := by decide +kernel
theorem dMo_mirror_83 : decode cMo_mirror 83 = .ok (.aload_n 0, 1) := by decide +kernel
theorem dMo_mirror_84 : decode cMo_mirror 84 = .ok (.getfield 22, 3) := by decide +kernel
theorem dMo_mirror_87 : decode cMo_mirror 87 = .ok (.iload_n 2, 1) := by decide +kernel
theorem dMo_mirror_88 : decode cMo_mirror 88 = .ok (.iaload, 1) := by decide +kernel
theorem dMo_mirror_89 : decode cMo_mirror 89 = .ok (.iastore, 1) := by decide +kernel
theorem dMo_mirror_90 : decode cMo_mirror 90 = .ok (.iinc 2 1, 3) := by decide +kernel
theorem dMo_mirror_93 : decode cMo_mirror 93 = .ok (.goto (-64), 3) := by decide +kernel
theorem dMo_mirror_96 : decode cMo_mirror 96 = .ok (.aload_n 0, 1) := by decide +kernel
theorem dMo_mirror_97 : decode cMo_mirror 97 = .ok (.aload_n 0, 1) := by decide +kernel
theorem dMo_mirror_98 : decode cMo_mirror 98 = .ok (.getfield 86, 3) := by decide +kernel
theorem dMo_mirror_101 : decode cMo_mirror 101 = .ok (.ifCond .eq 14, 3) := by decide +kernel
theorem dMo_mirror_104 : decode cMo_mirror 104 = .ok (.aload_n 0, 1) := by decide +kernel
theorem dMo_mirror_105 : decode cMo_mirror 105 = .ok (.getfield 90, 3) := by decide +kernel
theorem dMo_mirror_108 : decode cMo_mirror 108 = .ok (.ifCond .ne 7, 3) := by decide +kernel
theorem dMo_mirror_111 : decode cMo_mirror 111 = .ok (.iconst 1, 1) := by decide +kernel
theorem dMo_mirror_112 : decode cMo_mirror 112 = .ok (.goto 4, 3) := by decide +kernel
theorem dMo_mirror_115 : decode cMo_mirror 115 = .ok (.iconst 0, 1) := by decide +kernel
theorem dMo_mirror_116 : decode cMo_mirror 116 = .ok (.putfield 86, 3) := by decide +kernel
theorem dMo_mirror_119 : decode cMo_mirror 119 = .ok (.aload_n 0, 1) := by decide +kernel
theorem dMo_mirror_120 : decode cMo_mirror 120 = .ok (.getfield 90, 3) := by decide +kernel
theorem dMo_mirror_123 : decode cMo_mirror 123 = .ok (.ireturn, 1) := by decide +kernel
theorem dMo_places_0 : decode cMo_places 0 = .ok (.aload_n 0, 1) := by decide +kernel
theorem dMo_places_1 : decode cMo_places 1 = .ok (.iload_n 1, 1) := by decide +kernel
theorem dMo_places_2 : decode cMo_places 2 = .ok (.invokevirtual 93, 3) := by decide +kernel
theorem dMo_places_5 : decode cMo_places 5 = .ok (.ifCond .eq 5, 3) := by decide +kernel
theorem dMo_places_8 : decode cMo_places 8 = .ok (.iconst 0, 1) := by decide +kernel
theorem dMo_places_9 : decode cMo_places 9 = .ok (.ireturn, 1) := by decide +kernel
theorem dMo_places_10 : decode cMo_places 10 = .ok (.aload_n 0, 1) := by decide +kernel
theorem dMo_places_11 : decode cMo_places 11 = .ok (.iload_n 1, 1) := by decide +kernel
theorem dMo_places_12 : decode cMo_places 12 = .ok (.invokevirtual 116, 3) := by decide +kernel
theorem dMo_places_15 : decode cMo_places 15 = .ok (.aload_n 0, 1) := by decide +kernel
theorem dMo_places_16 : decode cMo_places 16 = .ok (.getfield 68, 3) := by decide +kernel
theorem dMo_places_19 : decode cMo_places 19 = .ok (.iload_n 1, 1) := by decide +kernel
theorem dMo_places_20 : decode cMo_places 20 = .ok (.iaload, 1) := by decide +kernel
theorem dMo_places_21 : decode cMo_places 21 = .ok (.ireturn, 1) := by decide +kernel
theorem dMo_fillPlaces_0 : decode cMo_fillPlaces 0 = .ok (.aload_n 0, 1) := by decide +kernel
theorem dMo_fillPlaces_1 : decode cMo_fillPlaces 1 = .ok (.getfield 68, 3) := by decide +kernel
theorem dMo_fillPlaces_4 : decode cMo_fillPlaces 4 = .ok (.iload_n 1, 1) := by decide +kernel
theorem dMo_fillPlaces_5 : decode cMo_fillPlaces 5 = .ok (.iconst 0, 1) := by decide +kernel
theorem dMo_fillPlaces_6 : decode cMo_fillPlaces 6 = .ok (.iastore, 1) := by decide +kernel
theorem dMo_fillPlaces_7 : decode cMo_fillPlaces 7 = .ok (.ldc 101, 2) := by decide +kernel
theorem dMo_fillPlaces_9 : decode cMo_fillPlaces 9 = .ok (.istore_n 2, 1) := by decide +kernel
theorem dMo_fillPlaces_10 : decode cMo_fillPlaces 10 = .ok (.ldc 101, 2) := by decide +kernel
theorem dMo_fillPlaces_12 : decode cMo_fillPlaces 12 = .ok (.istore_n 3, 1) := by decide +kernel
theorem dMo_fillPlaces_13 : decode cMo_fillPlaces 13 = .ok (.iconst 1, 1) := by decide +kernel
theorem dMo_fillPlaces_14 : decode cMo_fillPlaces 14 = .ok (.istore 4, 2) := by decide +kernel
theorem dMo_fillPlaces_16 : decode cMo_fillPlaces 16 = .ok (.iload 4, 2) := by decide +kernel
theorem dMo_fillPlaces_18 : decode cMo_fillPlaces 18 = .ok (.ifCond .eq 244, 3) := by decide +kernel
theorem dMo_fillPlaces_21 : decode cMo_fillPlaces 21 = .ok (.ldc 100, 2) := by decide +kernel
theorem dMo_fillPlaces_23 : decode cMo_fillPlaces 23 = .ok (.istore 5, 2) := by decide +kernel
theorem dMo_fillPlaces_25 : decode cMo_fillPlaces 25 = .ok (.ldc 100, 2) := by decide +kernel
theorem dMo_fillPlaces_27 : decode cMo_fillPlaces 27 = .ok (.istore 6, 2) := by decide +kernel
theorem dMo_fillPlaces_29 : decode cMo_fillPlaces 29 = .ok (.iconst 0, 1) := by decide +kernel
theorem dMo_fillPlaces_30 : decode cMo_fillPlaces 30 = .ok (.istore 7, 2) := by decide +kernel
theorem dMo_fillPlaces_32 : decode cMo_fillPlaces 32 = .ok (.iload 7, 2) := by decide +kernel
theorem dMo_fillPlaces_34 : decode cMo_fillPlaces 34 = .ok (.aload_n 0, 1) := by decide +kernel
theorem dMo_fillPlaces_35 : decode cMo_fillPlaces 35 = .ok (.getfield 75, 3) := by decide +kernel
theorem dMo_fillPlaces_38 : decode cMo_fillPlaces 38 = .ok (.if_icmp .ge 128, 3) := by decide +kernel
theorem dMo_fillPlaces_41 : decode cMo_fillPlaces 41 = .ok (.aload_n 0, 1) := by decide +kernel
theorem dMo_fillPlaces_42 : decode cMo_fillPlaces 42 = .ok (.getfield 19, 3) := by decide +kernel
theorem dMo_fillPlaces_45 : decode cMo_fillPlaces 45 = .ok (.iload_n 1, 1) := by decide +kernel
theorem dMo_fillPlaces_46 : decode cMo_fillPlaces 46 = .ok (.iaload, 1) := by decide +kernel
theorem dMo_fillPlaces_47 : decode cMo_fillPlaces 47 = .ok (.aload_n 0, 1) := by decide +kernel
theorem dMo_fillPlaces_48 : decode cMo_fillPlaces 48 = .ok (.getfield 7, 3) := by decide +kernel
theorem dMo_fillPlaces_51 : decode cMo_fillPlaces 51 = .ok (.iload 7, 2) := by decide +kernel
theorem dMo_fillPlaces_53 : decode cMo_fillPlaces 53 = .ok (.iaload, 1) := by decide +kernel
theorem dMo_fillPlaces_54 : decode cMo_fillPlaces 54 = .ok (.isub, 1) := by decide +kernel
theorem dMo_fillPlaces_55 : decode cMo_fillPlaces 55 = .ok (.istore 8, 2) := by decide +kernel
theorem dMo_fillPlaces_57 : decode cMo_fillPlaces 57 = .ok (.aload_n 0, 1) := by decide +kernel
theorem dMo_fillPlaces_58 : decode cMo_fillPlaces 58 = .ok (.getfield 22, 3) := by decide +kernel
theorem dMo_fillPlaces_61 : decode cMo_fillPlaces 61 = .ok (.iload_n 1, 1) := by decide +kernel
theorem dMo_fillPlaces_62 : decode cMo_fillPlaces 62 = .ok (.iaload, 1) := by decide +kernel
theorem dMo_fillPlaces_63 : decode cMo_fillPlaces 63 = .ok (.aload_n 0, 1) := by decide +kernel
theorem dMo_fillPlaces_64 : decode cMo_fillPlaces 64 = .ok (.getfield 13, 3) := by decide +kernel
theorem dMo_fillPlaces_67 : decode cMo_fillPlaces 67 = .ok (.iload 7, 2) := by decide +kernel
theorem dMo_fillPlaces_69 : decode cMo_fillPlaces 69 = .ok (.iaload, 1) := by decide +kernel
theorem dMo_fillPlaces_70 : decode cMo_fillPlaces 70 = .ok (.isub, 1) := by decide +kernel
theorem dMo_fillPlaces_71 : decode cMo_fillPlaces 71 = .ok (.istore 9, 2) := by decide +kernel
theorem dMo_fillPlaces_73 : decode cMo_fillPlaces 73 = .ok (.iload 8, 2) := by decide +kernel
theorem dMo_fillPlaces_75 : decode cMo_fillPlaces 75 = .ok (.iload_n 2, 1) := by decide +kernel
theorem dMo_fillPlaces_76 : decode cMo_fillPlaces 76 = .ok (.if_icmp .gt 15, 3) := by decide +kernel
theorem dMo_fillPlaces_79 : decode cMo_fillPlaces 79 = .ok (.iload 8, 2) := by decide +kernel
theorem dMo_fillPlaces_81 : decode cMo_fillPlaces 81 = .ok (.iload_n 2, 1) := by decide +kernel
theorem dMo_fillPlaces_82 : decode cMo_fillPlaces 82 = .ok (.if_icmp .ne 13, 3) := by decide +kernel
theorem dMo_fillPlaces_85 : decode cMo_fillPlaces 85 = .ok (.iload 9, 2) := by decide +kernel
theorem dMo_fillPlaces_87 : decode cMo_fillPlaces 87 = .ok (.iload_n 3, 1) := by decide +kernel
theorem dMo_fillPlaces_88 : decode cMo_fillPlaces 88 = .ok (.if_icmp .le 7, 3) := by decide +kernel
theorem dMo_fillPlaces_91 : decode cMo_fillPlaces 91 = .ok (.iconst 1, 1) := by decide +kernel
theorem dMo_fillPlaces_92 : decode cMo_fillPlaces 92 = .ok (.goto 4, 3) := by decide +kernel
theorem dMo_fillPlaces_95 : decode cMo_fillPlaces 95 = .ok (.iconst 0, 1) := by decide +kernel
theorem dMo_fillPlaces_96 : decode cMo_fillPlaces 96 = .ok (.istore 10, 2) := by decide +kernel
theorem dMo_fillPlaces_98 : decode cMo_fillPlaces 98 = .ok (.iload 8, 2) := by decide +kernel
theorem dMo_fillPlaces_100 : decode cMo_fillPlaces 100 = .ok (.iload 5, 2) := by decide +kernel
theorem dMo_fillPlaces_102 : decode cMo_fillPlaces 102 = .ok (.if_icmp .lt 17, 3) := by decide +kernel
theorem dMo_fillPlaces_105 : decode cMo_fillPlaces 105 = .ok (.iload 8, 2) := by decide +kernel
theorem dMo_fillPlaces_107 : decode cMo_fillPlaces 107 = .ok (.iload 5, 2) := by decide +kernel
theorem dMo_fillPlaces_109 : decode cMo_fillPlaces 109 = .ok (.if_icmp .ne 14, 3) := by decide +kernel
theorem dMo_fillPlaces_112 : decode cMo_fillPlaces 112 = .ok (.iload 9, 2) := by decide +kernel
theorem dMo_fillPlaces_114 : decode cMo_fillPlaces 114 = .ok (.iload 6, 2) := by decide +kernel
theorem dMo_fillPlaces_116 : decode cMo_fillPlaces 116 = .ok (.if_icmp .ge 7, 3) := by decide +kernel
theorem dMo_fillPlaces_119 : decode cMo_fillPlaces 119 = .ok (.iconst 1, 1) := by decide +kernel
theorem dMo_fillPlaces_120 : decode cMo_fillPlaces 120 = .ok (.goto 4, 3) := by decide +kernel
theorem dMo_fillPlaces_123 : decode cMo_fillPlaces 123 = .ok (.iconst 0, 1) := by decide +kernel
theorem dMo_fillPlaces_124 : decode cMo_fillPlaces 124 = .ok (.istore 11, 2) := by decide +kernel
theorem dMo_fillPlaces_126 : decode cMo_fillPlaces 126 = .ok (.aload_n 0, 1) := by decide +kernel
theorem dMo_fillPlaces_127 : decode cMo_fillPlaces 127 = .ok (.getfield 16, 3) := by decide +kernel
theorem dMo_fillPlaces_130 : decode cMo_fillPlaces 130 = .ok (.iload 7, 2) := by decide +kernel
theorem dMo_fillPlaces_132 : decode cMo_fillPlaces 132 = .ok (.iaload, 1) := by decide +kernel
theorem dMo_fillPlaces_133 : decode cMo_fillPlaces 133 = .ok (.aload_n 0, 1) := by decide +kernel
theorem dMo_fillPlaces_134 : decode cMo_fillPlaces 134 = .ok (.getfield 25, 3) := by decide +kernel
theorem dMo_fillPlaces_137 : decode cMo_fillPlaces 137 = .ok (.iload_n 1, 1) := by decide +kernel
theorem dMo_fillPlaces_138 : decode cMo_fillPlaces 138 = .ok (.iaload, 1) := by decide +kernel
theorem dMo_fillPlaces_139 : decode cMo_fillPlaces 139 = .ok (.if_icmp .ne 21, 3) := by decide +kernel
theorem dMo_fillPlaces_142 : decode cMo_fillPlaces 142 = .ok (.iload 10, 2) := by decide +kernel
theorem dMo_fillPlaces_144 : decode cMo_fillPlaces 144 = .ok (.ifCond .eq 16, 3) := by decide +kernel
theorem dMo_fillPlaces_147 : decode cMo_fillPlaces 147 = .ok (.iload 11, 2) := by decide +kernel
theorem dMo_fillPlaces_149 : decode cMo_fillPlaces 149 = .ok (.ifCond .eq 11, 3) := by decide +kernel
theorem dMo_fillPlaces_152 : decode cMo_fillPlaces 152 = .ok (.iload 8, 2) := by decide +kernel
theorem dMo_fillPlaces_154 : decode cMo_fillPlaces 154 = .ok (.istore 5, 2) := by decide +kernel
theorem dMo_fillPlaces_156 : decode cMo_fillPlaces 156 = .ok (.iload 9, 2) := by decide +kernel
theorem dMo_fillPlaces_158 : decode cMo_fillPlaces 158 = .ok (.istore 6, 2) := by decide +kernel
theorem dMo_fillPlaces_160 : decode cMo_fillPlaces 160 = .ok (.iinc 7 1, 3) := by decide +kernel
theorem dMo_fillPlaces_163 : decode cMo_fillPlaces 163 = .ok (.goto (-131), 3) := by decide +kernel
theorem dMo_fillPlaces_166 : decode cMo_fillPlaces 166 = .ok (.iload 5, 2) := by decide +kernel
theorem dMo_fillPlaces_168 : decode cMo_fillPlaces 168 = .ok (.ldc 100, 2) := by decide +kernel
theorem dMo_fillPlaces_170 : decode cMo_fillPlaces 170 = .ok (.if_icmp .ge 7, 3) := by decide +kernel
theorem dMo_fillPlaces_173 : decode cMo_fillPlaces 173 = .ok (.iconst 1, 1) := by decide +kernel
theorem dMo_fillPlaces_174 : decode cMo_fillPlaces 174 = .ok (.goto 4, 3) := by decide +kernel
theorem dMo_fillPlaces_177 : decode cMo_fillPlaces 177 = .ok (.iconst 0, 1) := by decide +kernel
theorem dMo_fillPlaces_178 : decode cMo_fillPlaces 178 = .ok (.istore 4, 2) := by decide +kernel
theorem dMo_fillPlaces_180 : decode cMo_fillPlaces 180 = .ok (.iload 4, 2) := by decide +kernel
theorem dMo_fillPlaces_182 : decode cMo_fillPlaces 182 = .ok (.ifCond .eq 71, 3) := by decide +kernel
theorem dMo_fillPlaces_185 : decode cMo_fillPlaces 185 = .ok (.aload_n 0, 1) := by decide +kernel
theorem dMo_fillPlaces_186 : decode cMo_fillPlaces 186 = .ok (.iload 5, 2) := by decide +kernel
theorem dMo_fillPlaces_188 : decode cMo_fillPlaces 188 = .ok (.iload 6, 2) := by decide +kernel
theorem dMo_fillPlaces_190 : decode cMo_fillPlaces 190 = .ok (.invokevirtual 110, 3) := by decide +kernel
theorem dMo_fillPlaces_193 : decode cMo_fillPlaces 193 = .ok (.ifCond .ne 60, 3) := by decide +kernel
theorem dMo_fillPlaces_196 : decode cMo_fillPlaces 196 = .ok (.bipush 16, 2) := by decide +kernel
theorem dMo_fillPlaces_198 : decode cMo_fillPlaces 198 = .ok (.iload_n 1, 1) := by decide +kernel
theorem dMo_fillPlaces_199 : decode cMo_fillPlaces 199 = .ok (.imul, 1) := by decide +kernel
theorem dMo_fillPlaces_200 : decode cMo_fillPlaces 200 = .ok (.aload_n 0, 1) := by decide +kernel
theorem dMo_fillPlaces_201 : decode cMo_fillPlaces 201 = .ok (.getfield 68, 3) := by decide +kernel
theorem dMo_fillPlaces_204 : decode cMo_fillPlaces 204 = .ok (.iload_n 1, 1) := by decide +kernel
theorem dMo_fillPlaces_205 : decode cMo_fillPlaces 205 = .ok (.iaload, 1) := by decide +kernel
theorem dMo_fillPlaces_206 : decode cMo_fillPlaces 206 = .ok (.iadd, 1) := by decide +kernel
theorem dMo_fillPlaces_207 : decode cMo_fillPlaces 207 = .ok (.istore 7, 2) := by decide +kernel
theorem dMo_fillPlaces_209 : decode cMo_fillPlaces 209 = .ok (.aload_n 0, 1) := by decide +kernel
theorem dMo_fillPlaces_210 : decode cMo_fillPlaces 210 = .ok (.getfield 59, 3) := by decide +kernel
theorem dMo_fillPlaces_213 : decode cMo_fillPlaces 213 = .ok (.iload 7, 2) := by decide +kernel
theorem dMo_fillPlaces_215 : decode cMo_fillPlaces 215 = .ok (.iload 5, 2) := by decide +kernel
theorem dMo_fillPlaces_217 : decode cMo_fillPlaces 217 = .ok (.iastore, 1) := by decide +kernel
theorem dMo_fillPlaces_218 : decode cMo_fillPlaces 218 = .ok (.aload_n 0, 1) := by decide +kernel
theorem dMo_fillPlaces_219 : decode cMo_fillPlaces 219 = .ok (.getfield 62, 3) := by decide +kernel
theorem dMo_fillPlaces_222 : decode cMo_fillPlaces 222 = .ok (.iload 7, 2) := by decide +kernel
theorem dMo_fillPlaces_224 : decode cMo_fillPlaces 224 = .ok (.iload 6, 2) := by decide +kernel
theorem dMo_fillPlaces_226 : decode cMo_fillPlaces 226 = .ok (.iastore, 1) := by decide +kernel
theorem dMo_fillPlaces_227 : decode cMo_fillPlaces 227 = .ok (.aload_n 0, 1) := by decide +kernel
theorem dMo_fillPlaces_228 : decode cMo_fillPlaces 228 = .ok (.getfield 65, 3) := by decide +kernel
theorem dMo_fillPlaces_231 : decode cMo_fillPlaces 231 = .ok (.iload 7, 2) := by decide +kernel
theorem dMo_fillPlaces_233 : decode cMo_fillPlaces 233 = .ok (.aload_n 0, 1) := by decide +kernel
theorem dMo_fillPlaces_234 : decode cMo_fillPlaces 234 = .ok (.iload_n 1, 1) := by decide +kernel
theorem dMo_fillPlaces_235 : decode cMo_fillPlaces 235 = .ok (.iload 5, 2) := by decide +kernel
theorem dMo_fillPlaces_237 : decode cMo_fillPlaces 237 = .ok (.iload 6, 2) := by decide +kernel
theorem dMo_fillPlaces_239 : decode cMo_fillPlaces 239 = .ok (.invokevirtual 113, 3) := by decide +kernel
theorem dMo_fillPlaces_242 : decode cMo_fillPlaces 242 = .ok (.iastore, 1) := by decide +kernel
theorem dMo_fillPlaces_243 : decode cMo_fillPlaces 243 = .ok (.aload_n 0, 1) := by decide +kernel
theorem dMo_fillPlaces_244 : decode cMo_fillPlaces 244 = .ok (.getfield 68, 3) := by decide +kernel
theorem dMo_fillPlaces_247 : decode cMo_fillPlaces 247 = .ok (.iload_n 1, 1) := by decide +kernel
theorem dMo_fillPlaces_248 : decode cMo_fillPlaces 248 = .ok (.dup2, 1) := by decide +kernel
theorem dMo_fillPlaces_249 : decode cMo_fillPlaces 249 = .ok (.iaload, 1) := by decide +kernel
theorem dMo_fillPlaces_250 : decode cMo_fillPlaces 250 = .ok (.iconst 1, 1) := by decide +kernel
theorem dMo_fillPlaces_251 : decode cMo_fillPlaces 251 = .ok (.iadd, 1) := by decide +kernel
theorem dMo_fillPlaces_252 : decode cMo_fillPlaces 252 = .ok (.iastore, 1) := by decide +kernel
theorem dMo_fillPlaces_253 : decode cMo_fillPlaces 253 = .ok (.iload 5, 2) := by decide +kernel
theorem dMo_fillPlaces_255 : decode cMo_fillPlaces 255 = .ok (.istore_n 2, 1) := by decide +kernel
theorem dMo_fillPlaces_256 : decode cMo_fillPlaces 256 = .ok (.iload 6, 2) := by decide +kernel
theorem dMo_fillPlaces_258 : decode cMo_fillPlaces 258 = .ok (.istore_n 3, 1) := by decide +kernel
theorem dMo_fillPlaces_259 : decode cMo_fillPlaces 259 = .ok (.goto (-243), 3) := by decide +kernel
theorem dMo_fillPlaces_262 : decode cMo_fillPlaces 262 = .ok (.return_, 1) := by decide +kernel
theorem dMo_isBarred_0 : decode cMo_isBarred 0 = .ok (.ldc 100, 2) := by decide +kernel
theorem dMo_isBarred_2 : decode cMo_isBarred 2 = .ok (.istore_n 3, 1) := by decide +kernel
theorem dMo_isBarred_3 : decode cMo_isBarred 3 = .ok (.ldc 101, 2) := by decide +kernel
theorem dMo_isBarred_5 : decode cMo_isBarred 5 = .ok (.istore 4, 2) := by decide +kernel
theorem dMo_isBarred_7 : decode cMo_isBarred 7 = .ok (.ldc 100, 2) := by decide +kernel
theorem dMo_isBarred_9 : decode cMo_isBarred 9 = .ok (.istore 5, 2) := by decide +kernel
theorem dMo_isBarred_11 : decode cMo_isBarred 11 = .ok (.ldc 101, 2) := by decide +kernel
theorem dMo_isBarred_13 : decode cMo_isBarred 13 = .ok (.istore 6, 2) := by decide +kernel
theorem dMo_isBarred_15 : decode cMo_isBarred 15 = .ok (.iconst 0, 1) := by decide +kernel
theorem dMo_isBarred_16 : decode cMo_isBarred 16 = .ok (.istore 7, 2) := by decide +kernel
theorem dMo_isBarred_18 : decode cMo_isBarred 18 = .ok (.iload 7, 2) := by decide +kernel
theorem dMo_isBarred_20 : decode cMo_isBarred 20 = .ok (.aload_n 0, 1) := by decide +kernel
theorem dMo_isBarred_21 : decode cMo_isBarred 21 = .ok (.getfield 75, 3) := by decide +kernel
theorem dMo_isBarred_24 : decode cMo_isBarred 24 = .ok (.if_icmp .ge 120, 3) := by decide +kernel
theorem dMo_isBarred_27 : decode cMo_isBarred 27 = .ok (.aload_n 0, 1) := by decide +kernel
theorem dMo_isBarred_28 : decode cMo_isBarred 28 = .ok (.getfield 16, 3) := by decide +kernel
theorem dMo_isBarred_31 : decode cMo_isBarred 31 = .ok (.iload 7, 2) := by decide +kernel
theorem dMo_isBarred_33 : decode cMo_isBarred 33 = .ok (.iaload, 1) := by decide +kernel
theorem dMo_isBarred_34 : decode cMo_isBarred 34 = .ok (.ifCond .le 104, 3) := by decide +kernel
theorem dMo_isBarred_37 : decode cMo_isBarred 37 = .ok (.aload_n 0, 1) := by decide +kernel
theorem dMo_isBarred_38 : decode cMo_isBarred 38 = .ok (.getfield 7, 3) := by decide +kernel
theorem dMo_isBarred_41 : decode cMo_isBarred 41 = .ok (.iload 7, 2) := by decide +kernel
theorem dMo_isBarred_43 : decode cMo_isBarred 43 = .ok (.iaload, 1) := by decide +kernel
theorem dMo_isBarred_44 : decode cMo_isBarred 44 = .ok (.iload_n 3, 1) := by decide +kernel
theorem dMo_isBarred_45 : decode cMo_isBarred 45 = .ok (.if_icmp .ge 13, 3) := by decide +kernel
theorem dMo_isBarred_48 : decode cMo_isBarred 48 = .ok (.aload_n 0, 1) := by decide +kernel
theorem dMo_isBarred_49 : decode cMo_isBarred 49 = .ok (.getfield 7, 3) := by decide +kernel
theorem dMo_isBarred_52 : decode cMo_isBarred 52 = .ok (.iload 7, 2) := by decide +kernel
theorem dMo_isBarred_54 : decode cMo_isBarred 54 = .ok (.iaload, 1) := by decide +kernel
theorem dMo_isBarred_55 : decode cMo_isBarred 55 = .ok (.goto 4, 3) := by decide +kernel
theorem dMo_isBarred_58 : decode cMo_isBarred 58 = .ok (.iload_n 3, 1) := by decide +kernel
theorem dMo_isBarred_59 : decode cMo_isBarred 59 = .ok (.istore_n 3, 1) := by decide +kernel
theorem dMo_isBarred_60 : decode cMo_isBarred 60 = .ok (.aload_n 0, 1) := by decide +kernel
theorem dMo_isBarred_61 : decode cMo_isBarred 61 = .ok (.getfield 7, 3) := by decide +kernel
theorem dMo_isBarred_64 : decode cMo_isBarred 64 = .ok (.iload 7, 2) := by decide +kernel
theorem dMo_isBarred_66 : decode cMo_isBarred 66 = .ok (.iaload, 1) := by decide +kernel
theorem dMo_isBarred_67 : decode cMo_isBarred 67 = .ok (.iload 4, 2) := by decide +kernel
theorem dMo_isBarred_69 : decode cMo_isBarred 69 = .ok (.if_icmp .le 13, 3) := by decide +kernel
theorem dMo_isBarred_72 : decode cMo_isBarred 72 = .ok (.aload_n 0, 1) := by decide +kernel
theorem dMo_isBarred_73 : decode cMo_isBarred 73 = .ok (.getfield 7, 3) := by decide +kernel
theorem dMo_isBarred_76 : decode cMo_isBarred 76 = .ok (.iload 7, 2) := by decide +kernel
theorem dMo_isBarred_78 : decode cMo_isBarred 78 = .ok (.iaload, 1) := by decide +kernel
theorem dMo_isBarred_79 : decode cMo_isBarred 79 = .ok (.goto 5, 3) := by decide +kernel
theorem dMo_isBarred_82 : decode cMo_isBarred 82 = .ok (.iload 4, 2) := by decide +kernel
theorem dMo_isBarred_84 : decode cMo_isBarred 84 = .ok (.istore 4, 2) := by decide +kernel
theorem dMo_isBarred_86 : decode cMo_isBarred 86 = .ok (.aload_n 0, 1) := by decide +kernel
theorem dMo_isBarred_87 : decode cMo_isBarred 87 = .ok (.getfield 13, 3) := by decide +kernel
theorem dMo_isBarred_90 : decode cMo_isBarred 90 = .ok (.iload 7, 2) := by decide +kernel
theorem dMo_isBarred_92 : decode cMo_isBarred 92 = .ok (.iaload, 1) := by decide +kernel
theorem dMo_isBarred_93 : decode cMo_isBarred 93 = .ok (.iload 5, 2) := by decide +kernel
theorem dMo_isBarred_95 : decode cMo_isBarred 95 = .ok (.if_icmp .ge 13, 3) := by decide +kernel
theorem dMo_isBarred_98 : decode cMo_isBarred 98 = .ok (.aload_n 0, 1) := by decide +kernel
theorem dMo_isBarred_99 : decode cMo_isBarred 99 = .ok (.getfield 13, 3) := by decide +kernel
theorem dMo_isBarred_102 : decode cMo_isBarred 102 = .ok (.iload 7, 2) := by decide +kernel
theorem dMo_isBarred_104 : decode cMo_isBarred 104 = .ok (.iaload, 1) := by decide +kernel
theorem dMo_isBarred_105 : decode cMo_isBarred 105 = .ok (.goto 5, 3) := by decide +kernel
theorem dMo_isBarred_108 : decode cMo_isBarred 108 = .ok (.iload 5, 2) := by decide +kernel
theorem dMo_isBarred_110 : decode cMo_isBarred 110 = .ok (.istore 5, 2) := by decide +kernel
theorem dMo_isBarred_112 : decode cMo_isBarred 112 = .ok (.aload_n 0, 1) := by decide +kernel
theorem dMo_isBarred_113 : decode cMo_isBarred 113 = .ok (.getfield 13, 3) := by decide +kernel
theorem dMo_isBarred_116 : decode cMo_isBarred 116 = .ok (.iload 7, 2) := by decide +kernel
theorem dMo_isBarred_118 : decode cMo_isBarred 118 = .ok (.iaload, 1) := by decide +kernel
theorem dMo_isBarred_119 : decode cMo_isBarred 119 = .ok (.iload 6, 2) := by decide +kernel
theorem dMo_isBarred_121 : decode cMo_isBarred 121 = .ok (.if_icmp .le 13, 3) := by decide +kernel
theorem dMo_isBarred_124 : decode cMo_isBarred 124 = .ok (.aload_n 0, 1) := by decide +kernel
theorem dMo_isBarred_125 : decode cMo_isBarred 125 = .ok (.getfield 13, 3) := by decide +kernel
theorem dMo_isBarred_128 : decode cMo_isBarred 128 = .ok (.iload 7, 2) := by decide +kernel
theorem dMo_isBarred_130 : decode cMo_isBarred 130 = .ok (.iaload, 1) := by decide +kernel
theorem dMo_isBarred_131 : decode cMo_isBarred 131 = .ok (.goto 5, 3) := by decide +kernel
theorem dMo_isBarred_134 : decode cMo_isBarred 134 = .ok (.iload 6, 2) := by decide +kernel
theorem dMo_isBarred_136 : decode cMo_isBarred 136 = .ok (.istore 6, 2) := by decide +kernel
theorem dMo_isBarred_138 : decode cMo_isBarred 138 = .ok (.iinc 7 1, 3) := by decide +kernel
theorem dMo_isBarred_141 : decode cMo_isBarred 141 = .ok (.goto (-123), 3) := by decide +kernel
theorem dMo_isBarred_144 : decode cMo_isBarred 144 = .ok (.iconst 0, 1) := by decide +kernel
theorem dMo_isBarred_145 : decode cMo_isBarred 145 = .ok (.istore 7, 2) := by decide +kernel
theorem dMo_isBarred_147 : decode cMo_isBarred 147 = .ok (.iconst 0, 1) := by decide +kernel
theorem dMo_isBarred_148 : decode cMo_isBarred 148 = .ok (.istore 8, 2) := by decide +kernel
theorem dMo_isBarred_150 : decode cMo_isBarred 150 = .ok (.iload 8, 2) := by decide +kernel
theorem dMo_isBarred_152 : decode cMo_isBarred 152 = .ok (.iconst 4, 1) := by decide +kernel
theorem dMo_isBarred_153 : decode cMo_isBarred 153 = .ok (.aload_n 0, 1) := by decide +kernel
theorem dMo_isBarred_154 : decode cMo_isBarred 154 = .ok (.getfield 97, 3) := by decide +kernel
theorem dMo_isBarred_157 : decode cMo_isBarred 157 = .ok (.imul, 1) := by decide +kernel
theorem dMo_isBarred_158 : decode cMo_isBarred 158 = .ok (.if_icmp .ge 142, 3) := by decide +kernel
theorem dMo_isBarred_161 : decode cMo_isBarred 161 = .ok (.iload_n 1, 1) := by decide +kernel
theorem dMo_isBarred_162 : decode cMo_isBarred 162 = .ok (.iload_n 3, 1) := by decide +kernel
theorem dMo_isBarred_163 : decode cMo_isBarred 163 = .ok (.iadd, 1) := by decide +kernel
theorem dMo_isBarred_164 : decode cMo_isBarred 164 = .ok (.iconst 1, 1) := by decide +kernel
theorem dMo_isBarred_165 : decode cMo_isBarred 165 = .ok (.isub, 1) := by decide +kernel
theorem dMo_isBarred_166 : decode cMo_isBarred 166 = .ok (.aload_n 0, 1) := by decide +kernel
theorem dMo_isBarred_167 : decode cMo_isBarred 167 = .ok (.getfield 38, 3) := by decide +kernel
theorem dMo_isBarred_170 : decode cMo_isBarred 170 = .ok (.iload 8, 2) := by decide +kernel
theorem dMo_isBarred_172 : decode cMo_isBarred 172 = .ok (.iconst 2, 1) := by decide +kernel
theorem dMo_isBarred_173 : decode cMo_isBarred 173 = .ok (.iadd, 1) := by decide +kernel
theorem dMo_isBarred_174 : decode cMo_isBarred 174 = .ok (.iaload, 1) := by decide +kernel
theorem dMo_isBarred_175 : decode cMo_isBarred 175 = .ok (.if_icmp .ge 59, 3) := by decide +kernel
theorem dMo_isBarred_178 : decode cMo_isBarred 178 = .ok (.iload_n 1, 1) := by decide +kernel
theorem dMo_isBarred_179 : decode cMo_isBarred 179 = .ok (.iload 4, 2) := by decide +kernel
theorem dMo_isBarred_181 : decode cMo_isBarred 181 = .ok (.iadd, 1) := by decide +kernel
theorem dMo_isBarred_182 : decode cMo_isBarred 182 = .ok (.iconst 1, 1) := by decide +kernel
theorem dMo_isBarred_183 : decode cMo_isBarred 183 = .ok (.iadd, 1) := by decide +kernel
theorem dMo_isBarred_184 : decode cMo_isBarred 184 = .ok (.aload_n 0, 1) := by decide +kernel
theorem dMo_isBarred_185 : decode cMo_isBarred 185 = .ok (.getfield 38, 3) := by decide +kernel
theorem dMo_isBarred_188 : decode cMo_isBarred 188 = .ok (.iload 8, 2) := by decide +kernel
theorem dMo_isBarred_190 : decode cMo_isBarred 190 = .ok (.iaload, 1) := by decide +kernel
theorem dMo_isBarred_191 : decode cMo_isBarred 191 = .ok (.if_icmp .le 43, 3) := by decide +kernel
theorem dMo_isBarred_194 : decode cMo_isBarred 194 = .ok (.iload_n 2, 1) := by decide +kernel
theorem dMo_isBarred_195 : decode cMo_isBarred 195 = .ok (.iload 5, 2) := by decide +kernel
theorem dMo_isBarred_197 : decode cMo_isBarred 197 = .ok (.iadd, 1) := by decide +kernel
theorem dMo_isBarred_198 : decode cMo_isBarred 198 = .ok (.iconst 1, 1) := by decide +kernel
theorem dMo_isBarred_199 : decode cMo_isBarred 199 = .ok (.isub, 1) := by decide +kernel
theorem dMo_isBarred_200 : decode cMo_isBarred 200 = .ok (.aload_n 0, 1) := by decide +kernel
theorem dMo_isBarred_201 : decode cMo_isBarred 201 = .ok (.getfield 38, 3) := by decide +kernel
theorem dMo_isBarred_204 : decode cMo_isBarred 204 = .ok (.iload 8, 2) := by decide +kernel
theorem dMo_isBarred_206 : decode cMo_isBarred 206 = .ok (.iconst 3, 1) := by decide +kernel
theorem dMo_isBarred_207 : decode cMo_isBarred 207 = .ok (.iadd, 1) := by decide +kernel
theorem dMo_isBarred_208 : decode cMo_isBarred 208 = .ok (.iaload, 1) := by decide +kernel
theorem dMo_isBarred_209 : decode cMo_isBarred 209 = .ok (.if_icmp .ge 25, 3) := by decide +kernel
theorem dMo_isBarred_212 : decode cMo_isBarred 212 = .ok (.iload_n 2, 1) := by decide +kernel
theorem dMo_isBarred_213 : decode cMo_isBarred 213 = .ok (.iload 6, 2) := by decide +kernel
theorem dMo_isBarred_215 : decode cMo_isBarred 215 = .ok (.iadd, 1) := by decide +kernel
theorem dMo_isBarred_216 : decode cMo_isBarred 216 = .ok (.iconst 1, 1) := by decide +kernel
theorem dMo_isBarred_217 : decode cMo_isBarred 217 = .ok (.iadd, 1) := by decide +kernel
theorem dMo_isBarred_218 : decode cMo_isBarred 218 = .ok (.aload_n 0, 1) := by decide +kernel
theorem dMo_isBarred_219 : decode cMo_isBarred 219 = .ok (.getfield 38, 3) := by decide +kernel
theorem dMo_isBarred_222 : decode cMo_isBarred 222 = .ok (.iload 8, 2) := by decide +kernel
theorem dMo_isBarred_224 : decode cMo_isBarred 224 = .ok (.iconst 1, 1) := by decide +kernel
theorem dMo_isBarred_225 : decode cMo_isBarred 225 = .ok (.iadd, 1) := by decide +kernel
theorem dMo_isBarred_226 : decode cMo_isBarred 226 = .ok (.iaload, 1) := by decide +kernel
theorem dMo_isBarred_227 : decode cMo_isBarred 227 = .ok (.if_icmp .le 7, 3) := by decide +kernel
theorem dMo_isBarred_230 : decode cMo_isBarred 230 = .ok (.iconst 1, 1) := by decide +kernel
theorem dMo_isBarred_231 : decode cMo_isBarred 231 = .ok (.goto 4, 3) := by decide +kernel
theorem dMo_isBarred_234 : decode cMo_isBarred 234 = .ok (.iconst 0, 1) := by decide +kernel
theorem dMo_isBarred_235 : decode cMo_isBarred 235 = .ok (.istore 9, 2) := by decide +kernel
theorem dMo_isBarred_237 : decode cMo_isBarred 237 = .ok (.iload 7, 2) := by decide +kernel
theorem dMo_isBarred_239 : decode cMo_isBarred 239 = .ok (.ifCond .ne 48, 3) := by decide +kernel
theorem dMo_isBarred_242 : decode cMo_isBarred 242 = .ok (.iload 9, 2) := by decide +kernel
theorem dMo_isBarred_244 : decode cMo_isBarred 244 = .ok (.ifCond .eq 47, 3) := by decide +kernel
theorem dMo_isBarred_247 : decode cMo_isBarred 247 = .ok (.aload_n 0, 1) := by decide +kernel
theorem dMo_isBarred_248 : decode cMo_isBarred 248 = .ok (.getfield 38, 3) := by decide +kernel
theorem dMo_isBarred_251 : decode cMo_isBarred 251 = .ok (.iload 8, 2) := by decide +kernel
theorem dMo_isBarred_253 : decode cMo_isBarred 253 = .ok (.iaload, 1) := by decide +kernel
theorem dMo_isBarred_254 : decode cMo_isBarred 254 = .ok (.aload_n 0, 1) := by decide +kernel
theorem dMo_isBarred_255 : decode cMo_isBarred 255 = .ok (.getfield 38, 3) := by decide +kernel
theorem dMo_isBarred_258 : decode cMo_isBarred 258 = .ok (.iload 8, 2) := by decide +kernel
theorem dMo_isBarred_260 : decode cMo_isBarred 260 = .ok (.iconst 2, 1) := by decide +kernel
theorem dMo_isBarred_261 : decode cMo_isBarred 261 = .ok (.iadd, 1) := by decide +kernel
theorem dMo_isBarred_262 : decode cMo_isBarred 262 = .ok (.iaload, 1) := by decide +kernel
theorem dMo_isBarred_263 : decode cMo_isBarred 263 = .ok (.if_icmp .ge 28, 3) := by decide +kernel
theorem dMo_isBarred_266 : decode cMo_isBarred 266 = .ok (.aload_n 0, 1) := by decide +kernel
theorem dMo_isBarred_267 : decode cMo_isBarred 267 = .ok (.getfield 38, 3) := by decide +kernel
theorem dMo_isBarred_270 : decode cMo_isBarred 270 = .ok (.iload 8, 2) := by decide +kernel
theorem dMo_isBarred_272 : decode cMo_isBarred 272 = .ok (.iconst 1, 1) := by decide +kernel
theorem dMo_isBarred_273 : decode cMo_isBarred 273 = .ok (.iadd, 1) := by decide +kernel
theorem dMo_isBarred_274 : decode cMo_isBarred 274 = .ok (.iaload, 1) := by decide +kernel
theorem dMo_isBarred_275 : decode cMo_isBarred 275 = .ok (.aload_n 0, 1) := by decide +kernel
theorem dMo_isBarred_276 : decode cMo_isBarred 276 = .ok (.getfield 38, 3) := by decide +kernel
theorem dMo_isBarred_279 : decode cMo_isBarred 279 = .ok (.iload 8, 2) := by decide +kernel
theorem dMo_isBarred_281 : decode cMo_isBarred 281 = .ok (.iconst 3, 1) := by decide +kernel
theorem dMo_isBarred_282 : decode cMo_isBarred 282 = .ok (.iadd, 1) := by decide +kernel
theorem dMo_isBarred_283 : decode cMo_isBarred 283 = .ok (.iaload, 1) := by decide +kernel
theorem dMo_isBarred_284 : decode cMo_isBarred 284 = .ok (.if_icmp .ge 7, 3) := by decide +kernel
theorem dMo_isBarred_287 : decode cMo_isBarred 287 = .ok (.iconst 1, 1) := by decide +kernel
theorem dMo_isBarred_288 : decode cMo_isBarred 288 = .ok (.goto 4, 3) := by decide +kernel
theorem dMo_isBarred_291 : decode cMo_isBarred 291 = .ok (.iconst 0, 1) := by decide +kernel
theorem dMo_isBarred_292 : decode cMo_isBarred 292 = .ok (.istore 7, 2) := by decide +kernel
theorem dMo_isBarred_294 : decode cMo_isBarred 294 = .ok (.iinc 8 4, 3) := by decide +kernel
theorem dMo_isBarred_297 : decode cMo_isBarred 297 = .ok (.goto (-147), 3) := by decide +kernel
theorem dMo_isBarred_300 : decode cMo_isBarred 300 = .ok (.iload 7, 2) := by decide +kernel
theorem dMo_isBarred_302 : decode cMo_isBarred 302 = .ok (.ireturn, 1) := by decide +kernel
theorem dMo_drilledAt_0 : decode cMo_drilledAt 0 = .ok (.iconst 0, 1) := by decide +kernel
theorem dMo_drilledAt_1 : decode cMo_drilledAt 1 = .ok (.istore 4, 2) := by decide +kernel
theorem dMo_drilledAt_3 : decode cMo_drilledAt 3 = .ok (.iconst 0, 1) := by decide +kernel
theorem dMo_drilledAt_4 : decode cMo_drilledAt 4 = .ok (.istore 5, 2) := by decide +kernel
theorem dMo_drilledAt_6 : decode cMo_drilledAt 6 = .ok (.iload 5, 2) := by decide +kernel
theorem dMo_drilledAt_8 : decode cMo_drilledAt 8 = .ok (.aload_n 0, 1) := by decide +kernel
theorem dMo_drilledAt_9 : decode cMo_drilledAt 9 = .ok (.getfield 90, 3) := by decide +kernel
theorem dMo_drilledAt_12 : decode cMo_drilledAt 12 = .ok (.if_icmp .ge 44, 3) := by decide +kernel
theorem dMo_drilledAt_15 : decode cMo_drilledAt 15 = .ok (.aload_n 0, 1) := by decide +kernel
theorem dMo_drilledAt_16 : decode cMo_drilledAt 16 = .ok (.iload_n 1, 1) := by decide +kernel
theorem dMo_drilledAt_17 : decode cMo_drilledAt 17 = .ok (.iload 5, 2) := by decide +kernel
theorem dMo_drilledAt_19 : decode cMo_drilledAt 19 = .ok (.invokevirtual 102, 3) := by decide +kernel
theorem dMo_drilledAt_22 : decode cMo_drilledAt 22 = .ok (.ifCond .eq 24, 3) := by decide +kernel
theorem dMo_drilledAt_25 : decode cMo_drilledAt 25 = .ok (.aload_n 0, 1) := by decide +kernel
theorem dMo_drilledAt_26 : decode cMo_drilledAt 26 = .ok (.iload 5, 2) := by decide +kernel
theorem dMo_drilledAt_28 : decode cMo_drilledAt 28 = .ok (.iload_n 2, 1) := by decide +kernel
theorem dMo_drilledAt_29 : decode cMo_drilledAt 29 = .ok (.iload_n 3, 1) := by decide +kernel
theorem dMo_drilledAt_30 : decode cMo_drilledAt 30 = .ok (.invokevirtual 106, 3) := by decide +kernel
theorem dMo_drilledAt_33 : decode cMo_drilledAt 33 = .ok (.ifCond .lt 13, 3) := by decide +kernel
theorem dMo_drilledAt_36 : decode cMo_drilledAt 36 = .ok (.iload 4, 2) := by decide +kernel
theorem dMo_drilledAt_38 : decode cMo_drilledAt 38 = .ok (.iconst 1, 1) := by decide +kernel
theorem dMo_drilledAt_39 : decode cMo_drilledAt 39 = .ok (.iload 5, 2) := by decide +kernel
theorem dMo_drilledAt_41 : decode cMo_drilledAt 41 = .ok (.ishl, 1) := by decide +kernel
theorem dMo_drilledAt_42 : decode cMo_drilledAt 42 = .ok (.ior, 1) := by decide +kernel
theorem dMo_drilledAt_43 : decode cMo_drilledAt 43 = .ok (.goto 5, 3) := by decide +kernel
theorem dMo_drilledAt_46 : decode cMo_drilledAt 46 = .ok (.iload 4, 2) := by decide +kernel
theorem dMo_drilledAt_48 : decode cMo_drilledAt 48 = .ok (.istore 4, 2) := by decide +kernel
theorem dMo_drilledAt_50 : decode cMo_drilledAt 50 = .ok (.iinc 5 1, 3) := by decide +kernel
theorem dMo_drilledAt_53 : decode cMo_drilledAt 53 = .ok (.goto (-47), 3) := by decide +kernel
theorem dMo_drilledAt_56 : decode cMo_drilledAt 56 = .ok (.iload 4, 2) := by decide +kernel
theorem dMo_drilledAt_58 : decode cMo_drilledAt 58 = .ok (.ireturn, 1) := by decide +kernel
theorem dMo_areAlike_0 : decode cMo_areAlike 0 = .ok (.aload_n 0, 1) := by decide +kernel
theorem dMo_areAlike_1 : decode cMo_areAlike 1 = .ok (.getfield 31, 3) := by decide +kernel
theorem dMo_areAlike_4 : decode cMo_areAlike 4 = .ok (.iload_n 1, 1) := by decide +kernel
theorem dMo_areAlike_5 : decode cMo_areAlike 5 = .ok (.iaload, 1) := by decide +kernel
theorem dMo_areAlike_6 : decode cMo_areAlike 6 = .ok (.aload_n 0, 1) := by decide +kernel
theorem dMo_areAlike_7 : decode cMo_areAlike 7 = .ok (.getfield 31, 3) := by decide +kernel
theorem dMo_areAlike_10 : decode cMo_areAlike 10 = .ok (.iload_n 2, 1) := by decide +kernel
theorem dMo_areAlike_11 : decode cMo_areAlike 11 = .ok (.iaload, 1) := by decide +kernel
theorem dMo_areAlike_12 : decode cMo_areAlike 12 = .ok (.if_icmp .ne 46, 3) := by decide +kernel
theorem dMo_areAlike_15 : decode cMo_areAlike 15 = .ok (.aload_n 0, 1) := by decide +kernel
theorem dMo_areAlike_16 : decode cMo_areAlike 16 = .ok (.getfield 34, 3) := by decide +kernel
theorem dMo_areAlike_19 : decode cMo_areAlike 19 = .ok (.iload_n 1, 1) := by decide +kernel
theorem dMo_areAlike_20 : decode cMo_areAlike 20 = .ok (.baload, 1) := by decide +kernel
theorem dMo_areAlike_21 : decode cMo_areAlike 21 = .ok (.aload_n 0, 1) := by decide +kernel
theorem dMo_areAlike_22 : decode cMo_areAlike 22 = .ok (.getfield 34, 3) := by decide +kernel
theorem dMo_areAlike_25 : decode cMo_areAlike 25 = .ok (.iload_n 2, 1) := by decide +kernel
theorem dMo_areAlike_26 : decode cMo_areAlike 26 = .ok (.baload, 1) := by decide +kernel
theorem dMo_areAlike_27 : decode cMo_areAlike 27 = .ok (.if_icmp .ne 31, 3) := by decide +kernel
theorem dMo_areAlike_30 : decode cMo_areAlike 30 = .ok (.aload_n 0, 1) := by decide +kernel
theorem dMo_areAlike_31 : decode cMo_areAlike 31 = .ok (.getfield 34, 3) := by decide +kernel
theorem dMo_areAlike_34 : decode cMo_areAlike 34 = .ok (.iload_n 1, 1) := by decide +kernel
theorem dMo_areAlike_35 : decode cMo_areAlike 35 = .ok (.baload, 1) := by decide +kernel
theorem dMo_areAlike_36 : decode cMo_areAlike 36 = .ok (.ifCond .ne 18, 3) := by decide +kernel
theorem dMo_areAlike_39 : decode cMo_areAlike 39 = .ok (.aload_n 0, 1) := by decide +kernel
theorem dMo_areAlike_40 : decode cMo_areAlike 40 = .ok (.getfield 28, 3) := by decide +kernel
theorem dMo_areAlike_43 : decode cMo_areAlike 43 = .ok (.iload_n 1, 1) := by decide +kernel
theorem dMo_areAlike_44 : decode cMo_areAlike 44 = .ok (.iaload, 1) := by decide +kernel
theorem dMo_areAlike_45 : decode cMo_areAlike 45 = .ok (.aload_n 0, 1) := by decide +kernel
theorem dMo_areAlike_46 : decode cMo_areAlike 46 = .ok (.getfield 28, 3) := by decide +kernel
theorem dMo_areAlike_49 : decode cMo_areAlike 49 = .ok (.iload_n 2, 1) := by decide +kernel
theorem dMo_areAlike_50 : decode cMo_areAlike 50 = .ok (.iaload, 1) := by decide +kernel
theorem dMo_areAlike_51 : decode cMo_areAlike 51 = .ok (.if_icmp .ne 7, 3) := by decide +kernel
theorem dMo_areAlike_54 : decode cMo_areAlike 54 = .ok (.iconst 1, 1) := by decide +kernel
theorem dMo_areAlike_55 : decode cMo_areAlike 55 = .ok (.goto 4, 3) := by decide +kernel
theorem dMo_areAlike_58 : decode cMo_areAlike 58 = .ok (.iconst 0, 1) := by decide +kernel
theorem dMo_areAlike_59 : decode cMo_areAlike 59 = .ok (.ireturn, 1) := by decide +kernel
theorem dMo_spindleAt_0 : decode cMo_spindleAt 0 = .ok (.iconst 0, 1) := by decide +kernel
theorem dMo_spindleAt_1 : decode cMo_spindleAt 1 = .ok (.istore 4, 2) := by decide +kernel
theorem dMo_spindleAt_3 : decode cMo_spindleAt 3 = .ok (.iload 4, 2) := by decide +kernel
theorem dMo_spindleAt_5 : decode cMo_spindleAt 5 = .ok (.aload_n 0, 1) := by decide +kernel
theorem dMo_spindleAt_6 : decode cMo_spindleAt 6 = .ok (.getfield 75, 3) := by decide +kernel
theorem dMo_spindleAt_9 : decode cMo_spindleAt 9 = .ok (.if_icmp .ge 64, 3) := by decide +kernel
theorem dMo_spindleAt_12 : decode cMo_spindleAt 12 = .ok (.aload_n 0, 1) := by decide +kernel
theorem dMo_spindleAt_13 : decode cMo_spindleAt 13 = .ok (.getfield 16, 3) := by decide +kernel
theorem dMo_spindleAt_16 : decode cMo_spindleAt 16 = .ok (.iload 4, 2) := by decide +kernel
theorem dMo_spindleAt_18 : decode cMo_spindleAt 18 = .ok (.iaload, 1) := by decide +kernel
theorem dMo_spindleAt_19 : decode cMo_spindleAt 19 = .ok (.aload_n 0, 1) := by decide +kernel
theorem dMo_spindleAt_20 : decode cMo_spindleAt 20 = .ok (.getfield 25, 3) := by decide +kernel
theorem dMo_spindleAt_23 : decode cMo_spindleAt 23 = .ok (.iload_n 1, 1) := by decide +kernel
theorem dMo_spindleAt_24 : decode cMo_spindleAt 24 = .ok (.iaload, 1) := by decide +kernel
theorem dMo_spindleAt_25 : decode cMo_spindleAt 25 = .ok (.if_icmp .ne 42, 3) := by decide +kernel
theorem dMo_spindleAt_28 : decode cMo_spindleAt 28 = .ok (.iload_n 2, 1) := by decide +kernel
theorem dMo_spindleAt_29 : decode cMo_spindleAt 29 = .ok (.aload_n 0, 1) := by decide +kernel
theorem dMo_spindleAt_30 : decode cMo_spindleAt 30 = .ok (.getfield 7, 3) := by decide +kernel
theorem dMo_spindleAt_33 : decode cMo_spindleAt 33 = .ok (.iload 4, 2) := by decide +kernel
theorem dMo_spindleAt_35 : decode cMo_spindleAt 35 = .ok (.iaload, 1) := by decide +kernel
theorem dMo_spindleAt_36 : decode cMo_spindleAt 36 = .ok (.iadd, 1) := by decide +kernel
theorem dMo_spindleAt_37 : decode cMo_spindleAt 37 = .ok (.aload_n 0, 1) := by decide +kernel
theorem dMo_spindleAt_38 : decode cMo_spindleAt 38 = .ok (.getfield 19, 3) := by decide +kernel
theorem dMo_spindleAt_41 : decode cMo_spindleAt 41 = .ok (.iload_n 1, 1) := by decide +kernel
theorem dMo_spindleAt_42 : decode cMo_spindleAt 42 = .ok (.iaload, 1) := by decide +kernel
theorem dMo_spindleAt_43 : decode cMo_spindleAt 43 = .ok (.if_icmp .ne 24, 3) := by decide +kernel
theorem dMo_spindleAt_46 : decode cMo_spindleAt 46 = .ok (.iload_n 3, 1) := by decide +kernel
theorem dMo_spindleAt_47 : decode cMo_spindleAt 47 = .ok (.aload_n 0, 1) := by decide +kernel
theorem dMo_spindleAt_48 : decode cMo_spindleAt 48 = .ok (.getfield 13, 3) := by decide +kernel
theorem dMo_spindleAt_51 : decode cMo_spindleAt 51 = .ok (.iload 4, 2) := by decide +kernel
theorem dMo_spindleAt_53 : decode cMo_spindleAt 53 = .ok (.iaload, 1) := by decide +kernel
theorem dMo_spindleAt_54 : decode cMo_spindleAt 54 = .ok (.iadd, 1) := by decide +kernel
theorem dMo_spindleAt_55 : decode cMo_spindleAt 55 = .ok (.aload_n 0, 1) := by decide +kernel
theorem dMo_spindleAt_56 : decode cMo_spindleAt 56 = .ok (.getfield 22, 3) := by decide +kernel
theorem dMo_spindleAt_59 : decode cMo_spindleAt 59 = .ok (.iload_n 1, 1) := by decide +kernel
theorem dMo_spindleAt_60 : decode cMo_spindleAt 60 = .ok (.iaload, 1) := by decide +kernel
theorem dMo_spindleAt_61 : decode cMo_spindleAt 61 = .ok (.if_icmp .ne 6, 3) := by decide +kernel
theorem dMo_spindleAt_64 : decode cMo_spindleAt 64 = .ok (.iload 4, 2) := by decide +kernel
theorem dMo_spindleAt_66 : decode cMo_spindleAt 66 = .ok (.ireturn, 1) := by decide +kernel
theorem dMo_spindleAt_67 : decode cMo_spindleAt 67 = .ok (.iinc 4 1, 3) := by decide +kernel
theorem dMo_spindleAt_70 : decode cMo_spindleAt 70 = .ok (.goto (-67), 3) := by decide +kernel
theorem dMo_spindleAt_73 : decode cMo_spindleAt 73 = .ok (.iconst (-1), 1) := by decide +kernel
theorem dMo_spindleAt_74 : decode cMo_spindleAt 74 = .ok (.ireturn, 1) := by decide +kernel
theorem dMo_run_0 : decode cMo_run 0 = .ok (.aload_n 0, 1) := by decide +kernel
theorem dMo_run_1 : decode cMo_run 1 = .ok (.iconst 0, 1) := by decide +kernel
theorem dMo_run_2 : decode cMo_run 2 = .ok (.putfield 79, 3) := by decide +kernel
theorem dMo_run_5 : decode cMo_run 5 = .ok (.aload_n 0, 1) := by decide +kernel
theorem dMo_run_6 : decode cMo_run 6 = .ok (.iconst 0, 1) := by decide +kernel
theorem dMo_run_7 : decode cMo_run 7 = .ok (.putfield 120, 3) := by decide +kernel
theorem dMo_run_10 : decode cMo_run 10 = .ok (.iconst 0, 1) := by decide +kernel
theorem dMo_run_11 : decode cMo_run 11 = .ok (.istore_n 1, 1) := by decide +kernel
theorem dMo_run_12 : decode cMo_run 12 = .ok (.iload_n 1, 1) := by decide +kernel
theorem dMo_run_13 : decode cMo_run 13 = .ok (.aload_n 0, 1) := by decide +kernel
theorem dMo_run_14 : decode cMo_run 14 = .ok (.getfield 90, 3) := by decide +kernel
theorem dMo_run_17 : decode cMo_run 17 = .ok (.if_icmp .ge 42, 3) := by decide +kernel
theorem dMo_run_20 : decode cMo_run 20 = .ok (.aload_n 0, 1) := by decide +kernel
theorem dMo_run_21 : decode cMo_run 21 = .ok (.iload_n 1, 1) := by decide +kernel
theorem dMo_run_22 : decode cMo_run 22 = .ok (.invokevirtual 116, 3) := by decide +kernel
theorem dMo_run_25 : decode cMo_run 25 = .ok (.aload_n 0, 1) := by decide +kernel
theorem dMo_run_26 : decode cMo_run 26 = .ok (.aload_n 0, 1) := by decide +kernel
theorem dMo_run_27 : decode cMo_run 27 = .ok (.getfield 68, 3) := by decide +kernel
theorem dMo_run_30 : decode cMo_run 30 = .ok (.iload_n 1, 1) := by decide +kernel
theorem dMo_run_31 : decode cMo_run 31 = .ok (.iaload, 1) := by decide +kernel
theorem dMo_run_32 : decode cMo_run 32 = .ok (.ifCond .ne 14, 3) := by decide +kernel
theorem dMo_run_35 : decode cMo_run 35 = .ok (.aload_n 0, 1) := by decide +kernel
theorem dMo_run_36 : decode cMo_run 36 = .ok (.getfield 120, 3) := by decide +kernel
theorem dMo_run_39 : decode cMo_run 39 = .ok (.iconst 1, 1) := by decide +kernel
theorem dMo_run_40 : decode cMo_run 40 = .ok (.iload_n 1, 1) := by decide +kernel
theorem dMo_run_41 : decode cMo_run 41 = .ok (.ishl, 1) := by decide +kernel
theorem dMo_run_42 : decode cMo_run 42 = .ok (.ior, 1) := by decide +kernel
theorem dMo_run_43 : decode cMo_run 43 = .ok (.goto 7, 3) := by decide +kernel
theorem dMo_run_46 : decode cMo_run 46 = .ok (.aload_n 0, 1) := by decide +kernel
theorem dMo_run_47 : decode cMo_run 47 = .ok (.getfield 120, 3) := by decide +kernel
theorem dMo_run_50 : decode cMo_run 50 = .ok (.putfield 120, 3) := by decide +kernel
theorem dMo_run_53 : decode cMo_run 53 = .ok (.iinc 1 1, 3) := by decide +kernel
theorem dMo_run_56 : decode cMo_run 56 = .ok (.goto (-44), 3) := by decide +kernel
theorem dMo_run_59 : decode cMo_run 59 = .ok (.aload_n 0, 1) := by decide +kernel
theorem dMo_run_60 : decode cMo_run 60 = .ok (.getfield 56, 3) := by decide +kernel
theorem dMo_run_63 : decode cMo_run 63 = .ok (.iconst 0, 1) := by decide +kernel
theorem dMo_run_64 : decode cMo_run 64 = .ok (.iconst 0, 1) := by decide +kernel
theorem dMo_run_65 : decode cMo_run 65 = .ok (.iastore, 1) := by decide +kernel
theorem dMo_run_66 : decode cMo_run 66 = .ok (.iconst 1, 1) := by decide +kernel
theorem dMo_run_67 : decode cMo_run 67 = .ok (.istore_n 1, 1) := by decide +kernel
theorem dMo_run_68 : decode cMo_run 68 = .ok (.iload_n 1, 1) := by decide +kernel
theorem dMo_run_69 : decode cMo_run 69 = .ok (.iconst 1, 1) := by decide +kernel
theorem dMo_run_70 : decode cMo_run 70 = .ok (.aload_n 0, 1) := by decide +kernel
theorem dMo_run_71 : decode cMo_run 71 = .ok (.getfield 90, 3) := by decide +kernel
theorem dMo_run_74 : decode cMo_run 74 = .ok (.ishl, 1) := by decide +kernel
theorem dMo_run_75 : decode cMo_run 75 = .ok (.if_icmp .ge 95, 3) := by decide +kernel
theorem dMo_run_78 : decode cMo_run 78 = .ok (.iload_n 1, 1) := by decide +kernel
theorem dMo_run_79 : decode cMo_run 79 = .ok (.invokestatic 123, 3) := by decide +kernel
theorem dMo_run_82 : decode cMo_run 82 = .ok (.istore_n 2, 1) := by decide +kernel
theorem dMo_run_83 : decode cMo_run 83 = .ok (.aload_n 0, 1) := by decide +kernel
theorem dMo_run_84 : decode cMo_run 84 = .ok (.getfield 56, 3) := by decide +kernel
theorem dMo_run_87 : decode cMo_run 87 = .ok (.iload_n 1, 1) := by decide +kernel
theorem dMo_run_88 : decode cMo_run 88 = .ok (.ldc 100, 2) := by decide +kernel
theorem dMo_run_90 : decode cMo_run 90 = .ok (.iastore, 1) := by decide +kernel
theorem dMo_run_91 : decode cMo_run 91 = .ok (.bipush 16, 2) := by decide +kernel
theorem dMo_run_93 : decode cMo_run 93 = .ok (.iload_n 2, 1) := by decide +kernel
theorem dMo_run_94 : decode cMo_run 94 = .ok (.imul, 1) := by decide +kernel
theorem dMo_run_95 : decode cMo_run 95 = .ok (.istore_n 3, 1) := by decide +kernel
theorem dMo_run_96 : decode cMo_run 96 = .ok (.iload_n 3, 1) := by decide +kernel
theorem dMo_run_97 : decode cMo_run 97 = .ok (.bipush 16, 2) := by decide +kernel
theorem dMo_run_99 : decode cMo_run 99 = .ok (.iload_n 2, 1) := by decide +kernel
theorem dMo_run_100 : decode cMo_run 100 = .ok (.imul, 1) := by decide +kernel
theorem dMo_run_101 : decode cMo_run 101 = .ok (.aload_n 0, 1) := by decide +kernel
theorem dMo_run_102 : decode cMo_run 102 = .ok (.getfield 68, 3) := by decide +kernel
theorem dMo_run_105 : decode cMo_run 105 = .ok (.iload_n 2, 1) := by decide +kernel
theorem dMo_run_106 : decode cMo_run 106 = .ok (.iaload, 1) := by decide +kernel
theorem dMo_run_107 : decode cMo_run 107 = .ok (.iadd, 1) := by decide +kernel
theorem dMo_run_108 : decode cMo_run 108 = .ok (.if_icmp .ge 56, 3) := by decide +kernel
theorem dMo_run_111 : decode cMo_run 111 = .ok (.aload_n 0, 1) := by decide +kernel
theorem dMo_run_112 : decode cMo_run 112 = .ok (.getfield 56, 3) := by decide +kernel
theorem dMo_run_115 : decode cMo_run 115 = .ok (.iload_n 1, 1) := by decide +kernel
theorem dMo_run_116 : decode cMo_run 116 = .ok (.aload_n 0, 1) := by decide +kernel
theorem dMo_run_117 : decode cMo_run 117 = .ok (.getfield 65, 3) := by decide +kernel
theorem dMo_run_120 : decode cMo_run 120 = .ok (.iload_n 3, 1) := by decide +kernel
theorem dMo_run_121 : decode cMo_run 121 = .ok (.iaload, 1) := by decide +kernel
theorem dMo_run_122 : decode cMo_run 122 = .ok (.iconst (-1), 1) := by decide +kernel
theorem dMo_run_123 : decode cMo_run 123 = .ok (.ixor, 1) := by decide +kernel
theorem dMo_run_124 : decode cMo_run 124 = .ok (.iand, 1) := by decide +kernel
theorem dMo_run_125 : decode cMo_run 125 = .ok (.iaload, 1) := by decide +kernel
theorem dMo_run_126 : decode cMo_run 126 = .ok (.iconst 1, 1) := by decide +kernel
theorem dMo_run_127 : decode cMo_run 127 = .ok (.iadd, 1) := by decide +kernel
theorem dMo_run_128 : decode cMo_run 128 = .ok (.istore 4, 2) := by decide +kernel
theorem dMo_run_130 : decode cMo_run 130 = .ok (.aload_n 0, 1) := by decide +kernel
theorem dMo_run_131 : decode cMo_run 131 = .ok (.getfield 56, 3) := by decide +kernel
theorem dMo_run_134 : decode cMo_run 134 = .ok (.iload_n 1, 1) := by decide +kernel
theorem dMo_run_135 : decode cMo_run 135 = .ok (.iload 4, 2) := by decide +kernel
theorem dMo_run_137 : decode cMo_run 137 = .ok (.aload_n 0, 1) := by decide +kernel
theorem dMo_run_138 : decode cMo_run 138 = .ok (.getfield 56, 3) := by decide +kernel
theorem dMo_run_141 : decode cMo_run 141 = .ok (.iload_n 1, 1) := by decide +kernel
theorem dMo_run_142 : decode cMo_run 142 = .ok (.iaload, 1) := by decide +kernel
theorem dMo_run_143 : decode cMo_run 143 = .ok (.if_icmp .ge 8, 3) := by decide +kernel
theorem dMo_run_146 : decode cMo_run 146 = .ok (.iload 4, 2) := by decide +kernel
theorem dMo_run_148 : decode cMo_run 148 = .ok (.goto 9, 3) := by decide +kernel
theorem dMo_run_151 : decode cMo_run 151 = .ok (.aload_n 0, 1) := by decide +kernel
theorem dMo_run_152 : decode cMo_run 152 = .ok (.getfield 56, 3) := by decide +kernel
theorem dMo_run_155 : decode cMo_run 155 = .ok (.iload_n 1, 1) := by decide +kernel
theorem dMo_run_156 : decode cMo_run 156 = .ok (.iaload, 1) := by decide +kernel
theorem dMo_run_157 : decode cMo_run 157 = .ok (.iastore, 1) := by decide +kernel
theorem dMo_run_158 : decode cMo_run 158 = .ok (.iinc 3 1, 3) := by decide +kernel
theorem dMo_run_161 : decode cMo_run 161 = .ok (.goto (-65), 3) := by decide +kernel
theorem dMo_run_164 : decode cMo_run 164 = .ok (.iinc 1 1, 3) := by decide +kernel
theorem dMo_run_167 : decode cMo_run 167 = .ok (.goto (-99), 3) := by decide +kernel
theorem dMo_run_170 : decode cMo_run 170 = .ok (.iconst 1, 1) := by decide +kernel
theorem dMo_run_171 : decode cMo_run 171 = .ok (.aload_n 0, 1) := by decide +kernel
theorem dMo_run_172 : decode cMo_run 172 = .ok (.getfield 90, 3) := by decide +kernel
theorem dMo_run_175 : decode cMo_run 175 = .ok (.ishl, 1) := by decide +kernel
theorem dMo_run_176 : decode cMo_run 176 = .ok (.iconst 1, 1) := by decide +kernel
theorem dMo_run_177 : decode cMo_run 177 = .ok (.isub, 1) := by decide +kernel
theorem dMo_run_178 : decode cMo_run 178 = .ok (.aload_n 0, 1) := by decide +kernel
theorem dMo_run_179 : decode cMo_run 179 = .ok (.getfield 120, 3) := by decide +kernel
theorem dMo_run_182 : decode cMo_run 182 = .ok (.iconst (-1), 1) := by decide +kernel
theorem dMo_run_183 : decode cMo_run 183 = .ok (.ixor, 1) := by decide +kernel
theorem dMo_run_184 : decode cMo_run 184 = .ok (.iand, 1) := by decide +kernel
theorem dMo_run_185 : decode cMo_run 185 = .ok (.istore_n 1, 1) := by decide +kernel
theorem dMo_run_186 : decode cMo_run 186 = .ok (.aload_n 0, 1) := by decide +kernel
theorem dMo_run_187 : decode cMo_run 187 = .ok (.iconst 0, 1) := by decide +kernel
theorem dMo_run_188 : decode cMo_run 188 = .ok (.putfield 127, 3) := by decide +kernel
theorem dMo_run_191 : decode cMo_run 191 = .ok (.iload_n 1, 1) := by decide +kernel
theorem dMo_run_192 : decode cMo_run 192 = .ok (.ifCond .eq 131, 3) := by decide +kernel
theorem dMo_run_195 : decode cMo_run 195 = .ok (.iload_n 1, 1) := by decide +kernel
theorem dMo_run_196 : decode cMo_run 196 = .ok (.invokestatic 123, 3) := by decide +kernel
theorem dMo_run_199 : decode cMo_run 199 = .ok (.istore_n 2, 1) := by decide +kernel
theorem dMo_run_200 : decode cMo_run 200 = .ok (.bipush 16, 2) := by decide +kernel
theorem dMo_run_202 : decode cMo_run 202 = .ok (.iload_n 2, 1) := by decide +kernel
theorem dMo_run_203 : decode cMo_run 203 = .ok (.imul, 1) := by decide +kernel
theorem dMo_run_204 : decode cMo_run 204 = .ok (.istore_n 3, 1) := by decide +kernel
theorem dMo_run_205 : decode cMo_run 205 = .ok (.aload_n 0, 1) := by decide +kernel
theorem dMo_run_206 : decode cMo_run 206 = .ok (.getfield 56, 3) := by decide +kernel
theorem dMo_run_209 : decode cMo_run 209 = .ok (.iload_n 1, 1) := by decide +kernel
theorem dMo_run_210 : decode cMo_run 210 = .ok (.aload_n 0, 1) := by decide +kernel
theorem dMo_run_211 : decode cMo_run 211 = .ok (.getfield 65, 3) := by decide +kernel
theorem dMo_run_214 : decode cMo_run 214 = .ok (.iload_n 3, 1) := by decide +kernel
theorem dMo_run_215 : decode cMo_run 215 = .ok (.iaload, 1) := by decide +kernel
theorem dMo_run_216 : decode cMo_run 216 = .ok (.iconst (-1), 1) := by decide +kernel
theorem dMo_run_217 : decode cMo_run 217 = .ok (.ixor, 1) := by decide +kernel
theorem dMo_run_218 : decode cMo_run 218 = .ok (.iand, 1) := by decide +kernel
theorem dMo_run_219 : decode cMo_run 219 = .ok (.iaload, 1) := by decide +kernel
theorem dMo_run_220 : decode cMo_run 220 = .ok (.iconst 1, 1) := by decide +kernel
theorem dMo_run_221 : decode cMo_run 221 = .ok (.iadd, 1) := by decide +kernel
theorem dMo_run_222 : decode cMo_run 222 = .ok (.aload_n 0, 1) := by decide +kernel
theorem dMo_run_223 : decode cMo_run 223 = .ok (.getfield 56, 3) := by decide +kernel
theorem dMo_run_226 : decode cMo_run 226 = .ok (.iload_n 1, 1) := by decide +kernel
theorem dMo_run_227 : decode cMo_run 227 = .ok (.iaload, 1) := by decide +kernel
theorem dMo_run_228 : decode cMo_run 228 = .ok (.if_icmp .eq 9, 3) := by decide +kernel
theorem dMo_run_231 : decode cMo_run 231 = .ok (.iinc 3 1, 3) := by decide +kernel
theorem dMo_run_234 : decode cMo_run 234 = .ok (.goto (-29), 3) := by decide +kernel
theorem dMo_run_237 : decode cMo_run 237 = .ok (.aload_n 0, 1) := by decide +kernel
theorem dMo_run_238 : decode cMo_run 238 = .ok (.getfield 41, 3) := by decide +kernel
theorem dMo_run_241 : decode cMo_run 241 = .ok (.aload_n 0, 1) := by decide +kernel
theorem dMo_run_242 : decode cMo_run 242 = .ok (.getfield 127, 3) := by decide +kernel
theorem dMo_run_245 : decode cMo_run 245 = .ok (.aload_n 0, 1) := by decide +kernel
theorem dMo_run_246 : decode cMo_run 246 = .ok (.getfield 59, 3) := by decide +kernel
theorem dMo_run_249 : decode cMo_run 249 = .ok (.iload_n 3, 1) := by decide +kernel
theorem dMo_run_250 : decode cMo_run 250 = .ok (.iaload, 1) := by decide +kernel
theorem dMo_run_251 : decode cMo_run 251 = .ok (.iastore, 1) := by decide +kernel
theorem dMo_run_252 : decode cMo_run 252 = .ok (.aload_n 0, 1) := by decide +kernel
theorem dMo_run_253 : decode cMo_run 253 = .ok (.getfield 44, 3) := by decide +kernel
theorem dMo_run_256 : decode cMo_run 256 = .ok (.aload_n 0, 1) := by decide +kernel
theorem dMo_run_257 : decode cMo_run 257 = .ok (.getfield 127, 3) := by decide +kernel
theorem dMo_run_260 : decode cMo_run 260 = .ok (.aload_n 0, 1) := by decide +kernel
theorem dMo_run_261 : decode cMo_run 261 = .ok (.getfield 62, 3) := by decide +kernel
theorem dMo_run_264 : decode cMo_run 264 = .ok (.iload_n 3, 1) := by decide +kernel
theorem dMo_run_265 : decode cMo_run 265 = .ok (.iaload, 1) := by decide +kernel
theorem dMo_run_266 : decode cMo_run 266 = .ok (.iastore, 1) := by decide +kernel
theorem dMo_run_267 : decode cMo_run 267 = .ok (.aload_n 0, 1) := by decide +kernel
theorem dMo_run_268 : decode cMo_run 268 = .ok (.getfield 47, 3) := by decide +kernel
theorem dMo_run_271 : decode cMo_run 271 = .ok (.aload_n 0, 1) := by decide +kernel
theorem dMo_run_272 : decode cMo_run 272 = .ok (.getfield 127, 3) := by decide +kernel
theorem dMo_run_275 : decode cMo_run 275 = .ok (.aload_n 0, 1) := by decide +kernel
theorem dMo_run_276 : decode cMo_run 276 = .ok (.getfield 31, 3) := by decide +kernel
theorem dMo_run_279 : decode cMo_run 279 = .ok (.iload_n 2, 1) := by decide +kernel
theorem dMo_run_280 : decode cMo_run 280 = .ok (.iaload, 1) := by decide +kernel
theorem dMo_run_281 : decode cMo_run 281 = .ok (.iastore, 1) := by decide +kernel
theorem dMo_run_282 : decode cMo_run 282 = .ok (.aload_n 0, 1) := by decide +kernel
theorem dMo_run_283 : decode cMo_run 283 = .ok (.getfield 50, 3) := by decide +kernel
theorem dMo_run_286 : decode cMo_run 286 = .ok (.aload_n 0, 1) := by decide +kernel
theorem dMo_run_287 : decode cMo_run 287 = .ok (.getfield 127, 3) := by decide +kernel
theorem dMo_run_290 : decode cMo_run 290 = .ok (.iload_n 1, 1) := by decide +kernel
theorem dMo_run_291 : decode cMo_run 291 = .ok (.aload_n 0, 1) := by decide +kernel
theorem dMo_run_292 : decode cMo_run 292 = .ok (.getfield 65, 3) := by decide +kernel
theorem dMo_run_295 : decode cMo_run 295 = .ok (.iload_n 3, 1) := by decide +kernel
theorem dMo_run_296 : decode cMo_run 296 = .ok (.iaload, 1) := by decide +kernel
theorem dMo_run_297 : decode cMo_run 297 = .ok (.iand, 1) := by decide +kernel
theorem dMo_run_298 : decode cMo_run 298 = .ok (.iastore, 1) := by decide +kernel
theorem dMo_run_299 : decode cMo_run 299 = .ok (.aload_n 0, 1) := by decide +kernel
theorem dMo_run_300 : decode cMo_run 300 = .ok (.dup, 1) := by decide +kernel
theorem dMo_run_301 : decode cMo_run 301 = .ok (.getfield 127, 3) := by decide +kernel
theorem dMo_run_304 : decode cMo_run 304 = .ok (.iconst 1, 1) := by decide +kernel
theorem dMo_run_305 : decode cMo_run 305 = .ok (.iadd, 1) := by decide +kernel
theorem dMo_run_306 : decode cMo_run 306 = .ok (.putfield 127, 3) := by decide +kernel
theorem dMo_run_309 : decode cMo_run 309 = .ok (.iload_n 1, 1) := by decide +kernel
theorem dMo_run_310 : decode cMo_run 310 = .ok (.aload_n 0, 1) := by decide +kernel
theorem dMo_run_311 : decode cMo_run 311 = .ok (.getfield 65, 3) := by decide +kernel
theorem dMo_run_314 : decode cMo_run 314 = .ok (.iload_n 3, 1) := by decide +kernel
theorem dMo_run_315 : decode cMo_run 315 = .ok (.iaload, 1) := by decide +kernel
theorem dMo_run_316 : decode cMo_run 316 = .ok (.iconst (-1), 1) := by decide +kernel
theorem dMo_run_317 : decode cMo_run 317 = .ok (.ixor, 1) := by decide +kernel
theorem dMo_run_318 : decode cMo_run 318 = .ok (.iand, 1) := by decide +kernel
theorem dMo_run_319 : decode cMo_run 319 = .ok (.istore_n 1, 1) := by decide +kernel
theorem dMo_run_320 : decode cMo_run 320 = .ok (.goto (-129), 3) := by decide +kernel
theorem dMo_run_323 : decode cMo_run 323 = .ok (.aload_n 0, 1) := by decide +kernel
theorem dMo_run_324 : decode cMo_run 324 = .ok (.invokevirtual 130, 3) := by decide +kernel
theorem dMo_run_327 : decode cMo_run 327 = .ok (.aload_n 0, 1) := by decide +kernel
theorem dMo_run_328 : decode cMo_run 328 = .ok (.iconst 1, 1) := by decide +kernel
theorem dMo_run_329 : decode cMo_run 329 = .ok (.putfield 86, 3) := by decide +kernel
theorem dMo_run_332 : decode cMo_run 332 = .ok (.aload_n 0, 1) := by decide +kernel
theorem dMo_run_333 : decode cMo_run 333 = .ok (.getfield 127, 3) := by decide +kernel
theorem dMo_run_336 : decode cMo_run 336 = .ok (.ireturn, 1) := by decide +kernel
theorem dMo_lowest_0 : decode cMo_lowest 0 = .ok (.iconst 0, 1) := by decide +kernel
theorem dMo_lowest_1 : decode cMo_lowest 1 = .ok (.istore_n 1, 1) := by decide +kernel
theorem dMo_lowest_2 : decode cMo_lowest 2 = .ok (.iload_n 0, 1) := by decide +kernel
theorem dMo_lowest_3 : decode cMo_lowest 3 = .ok (.iload_n 1, 1) := by decide +kernel
theorem dMo_lowest_4 : decode cMo_lowest 4 = .ok (.ishr, 1) := by decide +kernel
theorem dMo_lowest_5 : decode cMo_lowest 5 = .ok (.iconst 1, 1) := by decide +kernel
theorem dMo_lowest_6 : decode cMo_lowest 6 = .ok (.iand, 1) := by decide +kernel
theorem dMo_lowest_7 : decode cMo_lowest 7 = .ok (.ifCond .ne 9, 3) := by decide +kernel
theorem dMo_lowest_10 : decode cMo_lowest 10 = .ok (.iinc 1 1, 3) := by decide +kernel
theorem dMo_lowest_13 : decode cMo_lowest 13 = .ok (.goto (-11), 3) := by decide +kernel
theorem dMo_lowest_16 : decode cMo_lowest 16 = .ok (.iload_n 1, 1) := by decide +kernel
theorem dMo_lowest_17 : decode cMo_lowest 17 = .ok (.ireturn, 1) := by decide +kernel
theorem dMo_findOrder_0 : decode cMo_findOrder 0 = .ok (.aload_n 0, 1) := by decide +kernel
theorem dMo_findOrder_1 : decode cMo_findOrder 1 = .ok (.getfield 127, 3) := by decide +kernel
theorem dMo_findOrder_4 : decode cMo_findOrder 4 = .ok (.bipush 10, 2) := by decide +kernel
theorem dMo_findOrder_6 : decode cMo_findOrder 6 = .ok (.if_icmp .le 29, 3) := by decide +kernel
theorem dMo_findOrder_9 : decode cMo_findOrder 9 = .ok (.iconst 0, 1) := by decide +kernel
theorem dMo_findOrder_10 : decode cMo_findOrder 10 = .ok (.istore_n 1, 1) := by decide +kernel
theorem dMo_findOrder_11 : decode cMo_findOrder 11 = .ok (.iload_n 1, 1) := by decide +kernel
theorem dMo_findOrder_12 : decode cMo_findOrder 12 = .ok (.aload_n 0, 1) := by decide +kernel
theorem dMo_findOrder_13 : decode cMo_findOrder 13 = .ok (.getfield 127, 3) := by decide +kernel
theorem dMo_findOrder_16 : decode cMo_findOrder 16 = .ok (.if_icmp .ge 16, 3) := by decide +kernel
theorem dMo_findOrder_19 : decode cMo_findOrder 19 = .ok (.aload_n 0, 1) := by decide +kernel
theorem dMo_findOrder_20 : decode cMo_findOrder 20 = .ok (.getfield 53, 3) := by decide +kernel
theorem dMo_findOrder_23 : decode cMo_findOrder 23 = .ok (.iload_n 1, 1) := by decide +kernel
theorem dMo_findOrder_24 : decode cMo_findOrder 24 = .ok (.iload_n 1, 1) := by decide +kernel
theorem dMo_findOrder_25 : decode cMo_findOrder 25 = .ok (.iastore, 1) := by decide +kernel
theorem dMo_findOrder_26 : decode cMo_findOrder 26 = .ok (.iinc 1 1, 3) := by decide +kernel
theorem dMo_findOrder_29 : decode cMo_findOrder 29 = .ok (.goto (-18), 3) := by decide +kernel
theorem dMo_findOrder_32 : decode cMo_findOrder 32 = .ok (.goto 142, 3) := by decide +kernel
theorem dMo_findOrder_35 : decode cMo_findOrder 35 = .ok (.iconst 1, 1) := by decide +kernel
theorem dMo_findOrder_36 : decode cMo_findOrder 36 = .ok (.aload_n 0, 1) := by decide +kernel
theorem dMo_findOrder_37 : decode cMo_findOrder 37 = .ok (.getfield 127, 3) := by decide +kernel
theorem dMo_findOrder_40 : decode cMo_findOrder 40 = .ok (.ishl, 1) := by decide +kernel
theorem dMo_findOrder_41 : decode cMo_findOrder 41 = .ok (.iconst 1, 1) := by decide +kernel
theorem dMo_findOrder_42 : decode cMo_findOrder 42 = .ok (.isub, 1) := by decide +kernel
theorem dMo_findOrder_43 : decode cMo_findOrder 43 = .ok (.istore_n 1, 1) := by decide +kernel
theorem dMo_findOrder_44 : decode cMo_findOrder 44 = .ok (.iload_n 1, 1) := by decide +kernel
theorem dMo_findOrder_45 : decode cMo_findOrder 45 = .ok (.ifCond .le 125, 3) := by decide +kernel
theorem dMo_findOrder_48 : decode cMo_findOrder 48 = .ok (.iconst 0, 1) := by decide +kernel
theorem dMo_findOrder_49 : decode cMo_findOrder 49 = .ok (.istore_n 2, 1) := by decide +kernel
theorem dMo_findOrder_50 : decode cMo_findOrder 50 = .ok (.iload_n 2, 1) := by decide +kernel
theorem dMo_findOrder_51 : decode cMo_findOrder 51 = .ok (.aload_n 0, 1) := by decide +kernel
theorem dMo_findOrder_52 : decode cMo_findOrder 52 = .ok (.getfield 127, 3) := by decide +kernel
theorem dMo_findOrder_55 : decode cMo_findOrder 55 = .ok (.if_icmp .ge 109, 3) := by decide +kernel
theorem dMo_findOrder_58 : decode cMo_findOrder 58 = .ok (.iload_n 1, 1) := by decide +kernel
theorem dMo_findOrder_59 : decode cMo_findOrder 59 = .ok (.iconst 1, 1) := by decide +kernel
theorem dMo_findOrder_60 : decode cMo_findOrder 60 = .ok (.aload_n 0, 1) := by decide +kernel
theorem dMo_findOrder_61 : decode cMo_findOrder 61 = .ok (.getfield 127, 3) := by decide +kernel
theorem dMo_findOrder_64 : decode cMo_findOrder 64 = .ok (.ishl, 1) := by decide +kernel
theorem dMo_findOrder_65 : decode cMo_findOrder 65 = .ok (.iconst 1, 1) := by decide +kernel
theorem dMo_findOrder_66 : decode cMo_findOrder 66 = .ok (.isub, 1) := by decide +kernel
theorem dMo_findOrder_67 : decode cMo_findOrder 67 = .ok (.if_icmp .ne 7, 3) := by decide +kernel
theorem dMo_findOrder_70 : decode cMo_findOrder 70 = .ok (.lconst 0, 1) := by decide +kernel
theorem dMo_findOrder_71 : decode cMo_findOrder 71 = .ok (.goto 6, 3) := by decide +kernel
theorem dMo_findOrder_74 : decode cMo_findOrder 74 = .ok (.ldc2_w 137, 3) := by decide +kernel
theorem dMo_findOrder_77 : decode cMo_findOrder 77 = .ok (.lstore_n 3, 1) := by decide +kernel
theorem dMo_findOrder_78 : decode cMo_findOrder 78 = .ok (.iconst 0, 1) := by decide +kernel
theorem dMo_findOrder_79 : decode cMo_findOrder 79 = .ok (.istore 5, 2) := by decide +kernel
theorem dMo_findOrder_81 : decode cMo_findOrder 81 = .ok (.iload 5, 2) := by decide +kernel
theorem dMo_findOrder_83 : decode cMo_findOrder 83 = .ok (.aload_n 0, 1) := by decide +kernel
theorem dMo_findOrder_84 : decode cMo_findOrder 84 = .ok (.getfield 127, 3) := by decide +kernel
theorem dMo_findOrder_87 : decode cMo_findOrder 87 = .ok (.if_icmp .ge 59, 3) := by decide +kernel
theorem dMo_findOrder_90 : decode cMo_findOrder 90 = .ok (.iload_n 1, 1) := by decide +kernel
theorem dMo_findOrder_91 : decode cMo_findOrder 91 = .ok (.iload 5, 2) := by decide +kernel
theorem dMo_findOrder_93 : decode cMo_findOrder 93 = .ok (.ishr, 1) := by decide +kernel
theorem dMo_findOrder_94 : decode cMo_findOrder 94 = .ok (.iconst 1, 1) := by decide +kernel
theorem dMo_findOrder_95 : decode cMo_findOrder 95 = .ok (.iand, 1) := by decide +kernel
theorem dMo_findOrder_96 : decode cMo_findOrder 96 = .ok (.ifCond .ne 44, 3) := by decide +kernel
theorem dMo_findOrder_99 : decode cMo_findOrder 99 = .ok (.aload_n 0, 1) := by decide +kernel
theorem dMo_findOrder_100 : decode cMo_findOrder 100 = .ok (.iload_n 2, 1) := by decide +kernel
theorem dMo_findOrder_101 : decode cMo_findOrder 101 = .ok (.iload 5, 2) := by decide +kernel
theorem dMo_findOrder_103 : decode cMo_findOrder 103 = .ok (.invokevirtual 139, 3) := by decide +kernel
theorem dMo_findOrder_106 : decode cMo_findOrder 106 = .ok (.aload_n 0, 1) := by decide +kernel
theorem dMo_findOrder_107 : decode cMo_findOrder 107 = .ok (.getfield 71, 3) := by decide +kernel
theorem dMo_findOrder_110 : decode cMo_findOrder 110 = .ok (.bipush 10, 2) := by decide +kernel
theorem dMo_findOrder_112 : decode cMo_findOrder 112 = .ok (.iload_n 1, 1) := by decide +kernel
theorem dMo_findOrder_113 : decode cMo_findOrder 113 = .ok (.iconst 1, 1) := by decide +kernel
theorem dMo_findOrder_114 : decode cMo_findOrder 114 = .ok (.iload 5, 2) := by decide +kernel
theorem dMo_findOrder_116 : decode cMo_findOrder 116 = .ok (.ishl, 1) := by decide +kernel
theorem dMo_findOrder_117 : decode cMo_findOrder 117 = .ok (.ior, 1) := by decide +kernel
theorem dMo_findOrder_118 : decode cMo_findOrder 118 = .ok (.imul, 1) := by decide +kernel
theorem dMo_findOrder_119 : decode cMo_findOrder 119 = .ok (.iload 5, 2) := by decide +kernel
theorem dMo_findOrder_121 : decode cMo_findOrder 121 = .ok (.iadd, 1) := by decide +kernel
theorem dMo_findOrder_122 : decode cMo_findOrder 122 = .ok (.laload, 1) := by decide +kernel
theorem dMo_findOrder_123 : decode cMo_findOrder 123 = .ok (.ladd, 1) := by decide +kernel
theorem dMo_findOrder_124 : decode cMo_findOrder 124 = .ok (.lstore 6, 2) := by decide +kernel
theorem dMo_findOrder_126 : decode cMo_findOrder 126 = .ok (.lload 6, 2) := by decide +kernel
theorem dMo_findOrder_128 : decode cMo_findOrder 128 = .ok (.lload_n 3, 1) := by decide +kernel
theorem dMo_findOrder_129 : decode cMo_findOrder 129 = .ok (.lcmp, 1) := by decide +kernel
theorem dMo_findOrder_130 : decode cMo_findOrder 130 = .ok (.ifCond .ge 8, 3) := by decide +kernel
theorem dMo_findOrder_133 : decode cMo_findOrder 133 = .ok (.lload 6, 2) := by decide +kernel
theorem dMo_findOrder_135 : decode cMo_findOrder 135 = .ok (.goto 4, 3) := by decide +kernel
theorem dMo_findOrder_138 : decode cMo_findOrder 138 = .ok (.lload_n 3, 1) := by decide +kernel
theorem dMo_findOrder_139 : decode cMo_findOrder 139 = .ok (.lstore_n 3, 1) := by decide +kernel
theorem dMo_findOrder_140 : decode cMo_findOrder 140 = .ok (.iinc 5 1, 3) := by decide +kernel
theorem dMo_findOrder_143 : decode cMo_findOrder 143 = .ok (.goto (-62), 3) := by decide +kernel
theorem dMo_findOrder_146 : decode cMo_findOrder 146 = .ok (.aload_n 0, 1) := by decide +kernel
theorem dMo_findOrder_147 : decode cMo_findOrder 147 = .ok (.getfield 71, 3) := by decide +kernel
theorem dMo_findOrder_150 : decode cMo_findOrder 150 = .ok (.bipush 10, 2) := by decide +kernel
theorem dMo_findOrder_152 : decode cMo_findOrder 152 = .ok (.iload_n 1, 1) := by decide +kernel
theorem dMo_findOrder_153 : decode cMo_findOrder 153 = .ok (.imul, 1) := by decide +kernel
theorem dMo_findOrder_154 : decode cMo_findOrder 154 = .ok (.iload_n 2, 1) := by decide +kernel
theorem dMo_findOrder_155 : decode cMo_findOrder 155 = .ok (.iadd, 1) := by decide +kernel
theorem dMo_findOrder_156 : decode cMo_findOrder 156 = .ok (.lload_n 3, 1) := by decide +kernel
theorem dMo_findOrder_157 : decode cMo_findOrder 157 = .ok (.lastore, 1) := by decide +kernel
theorem dMo_findOrder_158 : decode cMo_findOrder 158 = .ok (.iinc 2 1, 3) := by decide +kernel
theorem dMo_findOrder_161 : decode cMo_findOrder 161 = .ok (.goto (-111), 3) := by decide +kernel
theorem dMo_findOrder_164 : decode cMo_findOrder 164 = .ok (.iinc 1 (-1), 3) := by decide +kernel
theorem dMo_findOrder_167 : decode cMo_findOrder 167 = .ok (.goto (-123), 3) := by decide +kernel
theorem dMo_findOrder_170 : decode cMo_findOrder 170 = .ok (.aload_n 0, 1) := by decide +kernel
theorem dMo_findOrder_171 : decode cMo_findOrder 171 = .ok (.invokevirtual 143, 3) := by decide +kernel
theorem dMo_findOrder_174 : decode cMo_findOrder 174 = .ok (.aload_n 0, 1) := by decide +kernel
theorem dMo_findOrder_175 : decode cMo_findOrder 175 = .ok (.lconst 0, 1) := by decide +kernel
theorem dMo_findOrder_176 : decode cMo_findOrder 176 = .ok (.putfield 146, 3) := by decide +kernel
theorem dMo_findOrder_179 : decode cMo_findOrder 179 = .ok (.iconst 0, 1) := by decide +kernel
theorem dMo_findOrder_180 : decode cMo_findOrder 180 = .ok (.istore_n 1, 1) := by decide +kernel
theorem dMo_findOrder_181 : decode cMo_findOrder 181 = .ok (.iload_n 1, 1) := by decide +kernel
theorem dMo_findOrder_182 : decode cMo_findOrder 182 = .ok (.aload_n 0, 1) := by decide +kernel
theorem dMo_findOrder_183 : decode cMo_findOrder 183 = .ok (.getfield 127, 3) := by decide +kernel
theorem dMo_findOrder_186 : decode cMo_findOrder 186 = .ok (.if_icmp .ge 72, 3) := by decide +kernel
theorem dMo_findOrder_189 : decode cMo_findOrder 189 = .ok (.aload_n 0, 1) := by decide +kernel
theorem dMo_findOrder_190 : decode cMo_findOrder 190 = .ok (.dup, 1) := by decide +kernel
theorem dMo_findOrder_191 : decode cMo_findOrder 191 = .ok (.getfield 146, 3) := by decide +kernel
theorem dMo_findOrder_194 : decode cMo_findOrder 194 = .ok (.iload_n 1, 1) := by decide +kernel
theorem dMo_findOrder_195 : decode cMo_findOrder 195 = .ok (.ifCond .ne 35, 3) := by decide +kernel
theorem dMo_findOrder_198 : decode cMo_findOrder 198 = .ok (.aload_n 0, 1) := by decide +kernel
theorem dMo_findOrder_199 : decode cMo_findOrder 199 = .ok (.getfield 41, 3) := by decide +kernel
theorem dMo_findOrder_202 : decode cMo_findOrder 202 = .ok (.aload_n 0, 1) := by decide +kernel
theorem dMo_findOrder_203 : decode cMo_findOrder 203 = .ok (.getfield 53, 3) := by decide +kernel
theorem dMo_findOrder_206 : decode cMo_findOrder 206 = .ok (.iconst 0, 1) := by decide +kernel
theorem dMo_findOrder_207 : decode cMo_findOrder 207 = .ok (.iaload, 1) := by decide +kernel
theorem dMo_findOrder_208 : decode cMo_findOrder 208 = .ok (.iaload, 1) := by decide +kernel
theorem dMo_findOrder_209 : decode cMo_findOrder 209 = .ok (.invokestatic 133, 3) := by decide +kernel
theorem dMo_findOrder_212 : decode cMo_findOrder 212 = .ok (.aload_n 0, 1) := by decide +kernel
theorem dMo_findOrder_213 : decode cMo_findOrder 213 = .ok (.getfield 44, 3) := by decide +kernel
theorem dMo_findOrder_216 : decode cMo_findOrder 216 = .ok (.aload_n 0, 1) := by decide +kernel
theorem dMo_findOrder_217 : decode cMo_findOrder 217 = .ok (.getfield 53, 3) := by decide +kernel
theorem dMo_findOrder_220 : decode cMo_findOrder 220 = .ok (.iconst 0, 1) := by decide +kernel
theorem dMo_findOrder_221 : decode cMo_findOrder 221 = .ok (.iaload, 1) := by decide +kernel
theorem dMo_findOrder_222 : decode cMo_findOrder 222 = .ok (.iaload, 1) := by decide +kernel
theorem dMo_findOrder_223 : decode cMo_findOrder 223 = .ok (.invokestatic 133, 3) := by decide +kernel
theorem dMo_findOrder_226 : decode cMo_findOrder 226 = .ok (.ladd, 1) := by decide +kernel
theorem dMo_findOrder_227 : decode cMo_findOrder 227 = .ok (.goto 21, 3) := by decide +kernel
theorem dMo_findOrder_230 : decode cMo_findOrder 230 = .ok (.aload_n 0, 1) := by decide +kernel
theorem dMo_findOrder_231 : decode cMo_findOrder 231 = .ok (.aload_n 0, 1) := by decide +kernel
theorem dMo_findOrder_232 : decode cMo_findOrder 232 = .ok (.getfield 53, 3) := by decide +kernel
theorem dMo_findOrder_235 : decode cMo_findOrder 235 = .ok (.iload_n 1, 1) := by decide +kernel
theorem dMo_findOrder_236 : decode cMo_findOrder 236 = .ok (.iconst 1, 1) := by decide +kernel
theorem dMo_findOrder_237 : decode cMo_findOrder 237 = .ok (.isub, 1) := by decide +kernel
theorem dMo_findOrder_238 : decode cMo_findOrder 238 = .ok (.iaload, 1) := by decide +kernel
theorem dMo_findOrder_239 : decode cMo_findOrder 239 = .ok (.aload_n 0, 1) := by decide +kernel
theorem dMo_findOrder_240 : decode cMo_findOrder 240 = .ok (.getfield 53, 3) := by decide +kernel
theorem dMo_findOrder_243 : decode cMo_findOrder 243 = .ok (.iload_n 1, 1) := by decide +kernel
theorem dMo_findOrder_244 : decode cMo_findOrder 244 = .ok (.iaload, 1) := by decide +kernel
theorem dMo_findOrder_245 : decode cMo_findOrder 245 = .ok (.invokevirtual 139, 3) := by decide +kernel
theorem dMo_findOrder_248 : decode cMo_findOrder 248 = .ok (.ladd, 1) := by decide +kernel
theorem dMo_findOrder_249 : decode cMo_findOrder 249 = .ok (.putfield 146, 3) := by decide +kernel
theorem dMo_findOrder_252 : decode cMo_findOrder 252 = .ok (.iinc 1 1, 3) := by decide +kernel
theorem dMo_findOrder_255 : decode cMo_findOrder 255 = .ok (.goto (-74), 3) := by decide +kernel
theorem dMo_findOrder_258 : decode cMo_findOrder 258 = .ok (.return_, 1) := by decide +kernel
theorem dMo_between_0 : decode cMo_between 0 = .ok (.aload_n 0, 1) := by decide +kernel
theorem dMo_between_1 : decode cMo_between 1 = .ok (.getfield 41, 3) := by decide +kernel
theorem dMo_between_4 : decode cMo_between 4 = .ok (.iload_n 1, 1) := by decide +kernel
theorem dMo_between_5 : decode cMo_between 5 = .ok (.iaload, 1) := by decide +kernel
theorem dMo_between_6 : decode cMo_between 6 = .ok (.aload_n 0, 1) := by decide +kernel
theorem dMo_between_7 : decode cMo_between 7 = .ok (.getfield 41, 3) := by decide +kernel
theorem dMo_between_10 : decode cMo_between 10 = .ok (.iload_n 2, 1) := by decide +kernel
theorem dMo_between_11 : decode cMo_between 11 = .ok (.iaload, 1) := by decide +kernel
theorem dMo_between_12 : decode cMo_between 12 = .ok (.isub, 1) := by decide +kernel
theorem dMo_between_13 : decode cMo_between 13 = .ok (.invokestatic 133, 3) := by decide +kernel
theorem dMo_between_16 : decode cMo_between 16 = .ok (.aload_n 0, 1) := by decide +kernel
theorem dMo_between_17 : decode cMo_between 17 = .ok (.getfield 44, 3) := by decide +kernel
theorem dMo_between_20 : decode cMo_between 20 = .ok (.iload_n 1, 1) := by decide +kernel
theorem dMo_between_21 : decode cMo_between 21 = .ok (.iaload, 1) := by decide +kernel
theorem dMo_between_22 : decode cMo_between 22 = .ok (.aload_n 0, 1) := by decide +kernel
theorem dMo_between_23 : decode cMo_between 23 = .ok (.getfield 44, 3) := by decide +kernel
theorem dMo_between_26 : decode cMo_between 26 = .ok (.iload_n 2, 1) := by decide +kernel
theorem dMo_between_27 : decode cMo_between 27 = .ok (.iaload, 1) := by decide +kernel
theorem dMo_between_28 : decode cMo_between 28 = .ok (.isub, 1) := by decide +kernel
theorem dMo_between_29 : decode cMo_between 29 = .ok (.invokestatic 133, 3) := by decide +kernel
theorem dMo_between_32 : decode cMo_between 32 = .ok (.ladd, 1) := by decide +kernel
theorem dMo_between_33 : decode cMo_between 33 = .ok (.lreturn, 1) := by decide +kernel
theorem dMo_size_0 : decode cMo_size 0 = .ok (.iload_n 0, 1) := by decide +kernel
theorem dMo_size_1 : decode cMo_size 1 = .ok (.ifCond .ge 9, 3) := by decide +kernel
theorem dMo_size_4 : decode cMo_size 4 = .ok (.iload_n 0, 1) := by decide +kernel
theorem dMo_size_5 : decode cMo_size 5 = .ok (.i2l, 1) := by decide +kernel
theorem dMo_size_6 : decode cMo_size 6 = .ok (.lneg, 1) := by decide +kernel
theorem dMo_size_7 : decode cMo_size 7 = .ok (.goto 5, 3) := by decide +kernel
theorem dMo_size_10 : decode cMo_size 10 = .ok (.iload_n 0, 1) := by decide +kernel
theorem dMo_size_11 : decode cMo_size 11 = .ok (.i2l, 1) := by decide +kernel
theorem dMo_size_12 : decode cMo_size 12 = .ok (.lreturn, 1) := by decide +kernel
theorem dMo_walkOrder_0 : decode cMo_walkOrder 0 = .ok (.iconst 0, 1) := by decide +kernel
theorem dMo_walkOrder_1 : decode cMo_walkOrder 1 = .ok (.istore_n 1, 1) := by decide +kernel
theorem dMo_walkOrder_2 : decode cMo_walkOrder 2 = .ok (.iconst 0, 1) := by decide +kernel
theorem dMo_walkOrder_3 : decode cMo_walkOrder 3 = .ok (.istore_n 2, 1) := by decide +kernel
theorem dMo_walkOrder_4 : decode cMo_walkOrder 4 = .ok (.iload_n 2, 1) := by decide +kernel
theorem dMo_walkOrder_5 : decode cMo_walkOrder 5 = .ok (.aload_n 0, 1) := by decide +kernel
theorem dMo_walkOrder_6 : decode cMo_walkOrder 6 = .ok (.getfield 127, 3) := by decide +kernel
theorem dMo_walkOrder_9 : decode cMo_walkOrder 9 = .ok (.if_icmp .ge 154, 3) := by decide +kernel
theorem dMo_walkOrder_12 : decode cMo_walkOrder 12 = .ok (.iconst (-1), 1) := by decide +kernel
theorem dMo_walkOrder_13 : decode cMo_walkOrder 13 = .ok (.istore_n 3, 1) := by decide +kernel
theorem dMo_walkOrder_14 : decode cMo_walkOrder 14 = .ok (.lconst 0, 1) := by decide +kernel
theorem dMo_walkOrder_15 : decode cMo_walkOrder 15 = .ok (.lstore 4, 2) := by decide +kernel
theorem dMo_walkOrder_17 : decode cMo_walkOrder 17 = .ok (.iconst 0, 1) := by decide +kernel
theorem dMo_walkOrder_18 : decode cMo_walkOrder 18 = .ok (.istore 6, 2) := by decide +kernel
theorem dMo_walkOrder_20 : decode cMo_walkOrder 20 = .ok (.iload 6, 2) := by decide +kernel
theorem dMo_walkOrder_22 : decode cMo_walkOrder 22 = .ok (.aload_n 0, 1) := by decide +kernel
theorem dMo_walkOrder_23 : decode cMo_walkOrder 23 = .ok (.getfield 127, 3) := by decide +kernel
theorem dMo_walkOrder_26 : decode cMo_walkOrder 26 = .ok (.if_icmp .ge 118, 3) := by decide +kernel
theorem dMo_walkOrder_29 : decode cMo_walkOrder 29 = .ok (.iload_n 1, 1) := by decide +kernel
theorem dMo_walkOrder_30 : decode cMo_walkOrder 30 = .ok (.iload 6, 2) := by decide +kernel
theorem dMo_walkOrder_32 : decode cMo_walkOrder 32 = .ok (.ishr, 1) := by decide +kernel
theorem dMo_walkOrder_33 : decode cMo_walkOrder 33 = .ok (.iconst 1, 1) := by decide +kernel
theorem dMo_walkOrder_34 : decode cMo_walkOrder 34 = .ok (.iand, 1) := by decide +kernel
theorem dMo_walkOrder_35 : decode cMo_walkOrder 35 = .ok (.ifCond .ne 103, 3) := by decide +kernel
theorem dMo_walkOrder_38 : decode cMo_walkOrder 38 = .ok (.iload_n 2, 1) := by decide +kernel
theorem dMo_walkOrder_39 : decode cMo_walkOrder 39 = .ok (.ifCond .ne 27, 3) := by decide +kernel
theorem dMo_walkOrder_42 : decode cMo_walkOrder 42 = .ok (.aload_n 0, 1) := by decide +kernel
theorem dMo_walkOrder_43 : decode cMo_walkOrder 43 = .ok (.getfield 41, 3) := by decide +kernel
theorem dMo_walkOrder_46 : decode cMo_walkOrder 46 = .ok (.iload 6, 2) := by decide +kernel
theorem dMo_walkOrder_48 : decode cMo_walkOrder 48 = .ok (.iaload, 1) := by decide +kernel
theorem dMo_walkOrder_49 : decode cMo_walkOrder 49 = .ok (.invokestatic 133, 3) := by decide +kernel
theorem dMo_walkOrder_52 : decode cMo_walkOrder 52 = .ok (.aload_n 0, 1) := by decide +kernel
theorem dMo_walkOrder_53 : decode cMo_walkOrder 53 = .ok (.getfield 44, 3) := by decide +kernel
theorem dMo_walkOrder_56 : decode cMo_walkOrder 56 = .ok (.iload 6, 2) := by decide +kernel
theorem dMo_walkOrder_58 : decode cMo_walkOrder 58 = .ok (.iaload, 1) := by decide +kernel
theorem dMo_walkOrder_59 : decode cMo_walkOrder 59 = .ok (.invokestatic 133, 3) := by decide +kernel
theorem dMo_walkOrder_62 : decode cMo_walkOrder 62 = .ok (.ladd, 1) := by decide +kernel
theorem dMo_walkOrder_63 : decode cMo_walkOrder 63 = .ok (.goto 17, 3) := by decide +kernel
theorem dMo_walkOrder_66 : decode cMo_walkOrder 66 = .ok (.aload_n 0, 1) := by decide +kernel
theorem dMo_walkOrder_67 : decode cMo_walkOrder 67 = .ok (.aload_n 0, 1) := by decide +kernel
theorem dMo_walkOrder_68 : decode cMo_walkOrder 68 = .ok (.getfield 53, 3) := by decide +kernel
theorem dMo_walkOrder_71 : decode cMo_walkOrder 71 = .ok (.iload_n 2, 1) := by decide +kernel
theorem dMo_walkOrder_72 : decode cMo_walkOrder 72 = .ok (.iconst 1, 1) := by decide +kernel
theorem dMo_walkOrder_73 : decode cMo_walkOrder 73 = .ok (.isub, 1) := by decide +kernel
theorem dMo_walkOrder_74 : decode cMo_walkOrder 74 = .ok (.iaload, 1) := by decide +kernel
theorem dMo_walkOrder_75 : decode cMo_walkOrder 75 = .ok (.iload 6, 2) := by decide +kernel
theorem dMo_walkOrder_77 : decode cMo_walkOrder 77 = .ok (.invokevirtual 139, 3) := by decide +kernel
theorem dMo_walkOrder_80 : decode cMo_walkOrder 80 = .ok (.lstore 7, 2) := by decide +kernel
theorem dMo_walkOrder_82 : decode cMo_walkOrder 82 = .ok (.lload 7, 2) := by decide +kernel
theorem dMo_walkOrder_84 : decode cMo_walkOrder 84 = .ok (.aload_n 0, 1) := by decide +kernel
theorem dMo_walkOrder_85 : decode cMo_walkOrder 85 = .ok (.getfield 71, 3) := by decide +kernel
theorem dMo_walkOrder_88 : decode cMo_walkOrder 88 = .ok (.bipush 10, 2) := by decide +kernel
theorem dMo_walkOrder_90 : decode cMo_walkOrder 90 = .ok (.iload_n 1, 1) := by decide +kernel
theorem dMo_walkOrder_91 : decode cMo_walkOrder 91 = .ok (.iconst 1, 1) := by decide +kernel
theorem dMo_walkOrder_92 : decode cMo_walkOrder 92 = .ok (.iload 6, 2) := by decide +kernel
theorem dMo_walkOrder_94 : decode cMo_walkOrder 94 = .ok (.ishl, 1) := by decide +kernel
theorem dMo_walkOrder_95 : decode cMo_walkOrder 95 = .ok (.ior, 1) := by decide +kernel
theorem dMo_walkOrder_96 : decode cMo_walkOrder 96 = .ok (.imul, 1) := by decide +kernel
theorem dMo_walkOrder_97 : decode cMo_walkOrder 97 = .ok (.iload 6, 2) := by decide +kernel
theorem dMo_walkOrder_99 : decode cMo_walkOrder 99 = .ok (.iadd, 1) := by decide +kernel
theorem dMo_walkOrder_100 : decode cMo_walkOrder 100 = .ok (.laload, 1) := by decide +kernel
theorem dMo_walkOrder_101 : decode cMo_walkOrder 101 = .ok (.ladd, 1) := by decide +kernel
theorem dMo_walkOrder_102 : decode cMo_walkOrder 102 = .ok (.lstore 9, 2) := by decide +kernel
theorem dMo_walkOrder_104 : decode cMo_walkOrder 104 = .ok (.iload_n 3, 1) := by decide +kernel
theorem dMo_walkOrder_105 : decode cMo_walkOrder 105 = .ok (.ifCond .lt 11, 3) := by decide +kernel
theorem dMo_walkOrder_108 : decode cMo_walkOrder 108 = .ok (.lload 9, 2) := by decide +kernel
theorem dMo_walkOrder_110 : decode cMo_walkOrder 110 = .ok (.lload 4, 2) := by decide +kernel
theorem dMo_walkOrder_112 : decode cMo_walkOrder 112 = .ok (.lcmp, 1) := by decide +kernel
theorem dMo_walkOrder_113 : decode cMo_walkOrder 113 = .ok (.ifCond .ge 8, 3) := by decide +kernel
theorem dMo_walkOrder_116 : decode cMo_walkOrder 116 = .ok (.iload 6, 2) := by decide +kernel
theorem dMo_walkOrder_118 : decode cMo_walkOrder 118 = .ok (.goto 4, 3) := by decide +kernel
theorem dMo_walkOrder_121 : decode cMo_walkOrder 121 = .ok (.iload_n 3, 1) := by decide +kernel
theorem dMo_walkOrder_122 : decode cMo_walkOrder 122 = .ok (.istore_n 3, 1) := by decide +kernel
theorem dMo_walkOrder_123 : decode cMo_walkOrder 123 = .ok (.iload_n 3, 1) := by decide +kernel
theorem dMo_walkOrder_124 : decode cMo_walkOrder 124 = .ok (.iload 6, 2) := by decide +kernel
theorem dMo_walkOrder_126 : decode cMo_walkOrder 126 = .ok (.if_icmp .ne 8, 3) := by decide +kernel
theorem dMo_walkOrder_129 : decode cMo_walkOrder 129 = .ok (.lload 9, 2) := by decide +kernel
theorem dMo_walkOrder_131 : decode cMo_walkOrder 131 = .ok (.goto 5, 3) := by decide +kernel
theorem dMo_walkOrder_134 : decode cMo_walkOrder 134 = .ok (.lload 4, 2) := by decide +kernel
theorem dMo_walkOrder_136 : decode cMo_walkOrder 136 = .ok (.lstore 4, 2) := by decide +kernel
theorem dMo_walkOrder_138 : decode cMo_walkOrder 138 = .ok (.iinc 6 1, 3) := by decide +kernel
theorem dMo_walkOrder_141 : decode cMo_walkOrder 141 = .ok (.goto (-121), 3) := by decide +kernel
theorem dMo_walkOrder_144 : decode cMo_walkOrder 144 = .ok (.aload_n 0, 1) := by decide +kernel
theorem dMo_walkOrder_145 : decode cMo_walkOrder 145 = .ok (.getfield 53, 3) := by decide +kernel
theorem dMo_walkOrder_148 : decode cMo_walkOrder 148 = .ok (.iload_n 2, 1) := by decide +kernel
theorem dMo_walkOrder_149 : decode cMo_walkOrder 149 = .ok (.iload_n 3, 1) := by decide +kernel
theorem dMo_walkOrder_150 : decode cMo_walkOrder 150 = .ok (.iastore, 1) := by decide +kernel
theorem dMo_walkOrder_151 : decode cMo_walkOrder 151 = .ok (.iload_n 1, 1) := by decide +kernel
theorem dMo_walkOrder_152 : decode cMo_walkOrder 152 = .ok (.iconst 1, 1) := by decide +kernel
theorem dMo_walkOrder_153 : decode cMo_walkOrder 153 = .ok (.iload_n 3, 1) := by decide +kernel
theorem dMo_walkOrder_154 : decode cMo_walkOrder 154 = .ok (.ishl, 1) := by decide +kernel
theorem dMo_walkOrder_155 : decode cMo_walkOrder 155 = .ok (.ior, 1) := by decide +kernel
theorem dMo_walkOrder_156 : decode cMo_walkOrder 156 = .ok (.istore_n 1, 1) := by decide +kernel
theorem dMo_walkOrder_157 : decode cMo_walkOrder 157 = .ok (.iinc 2 1, 3) := by decide +kernel
theorem dMo_walkOrder_160 : decode cMo_walkOrder 160 = .ok (.goto (-156), 3) := by decide +kernel
theorem dMo_walkOrder_163 : decode cMo_walkOrder 163 = .ok (.return_, 1) := by decide +kernel
theorem dMo_hit_0 : decode cMo_hit 0 = .ok (.aload_n 0, 1) := by decide +kernel
theorem dMo_hit_1 : decode cMo_hit 1 = .ok (.invokevirtual 150, 3) := by decide +kernel
theorem dMo_hit_4 : decode cMo_hit 4 = .ok (.ifCond .eq 5, 3) := by decide +kernel
theorem dMo_hit_7 : decode cMo_hit 7 = .ok (.iconst 0, 1) := by decide +kernel
theorem dMo_hit_8 : decode cMo_hit 8 = .ok (.ireturn, 1) := by decide +kernel
theorem dMo_hit_9 : decode cMo_hit 9 = .ok (.aload_n 0, 1) := by decide +kernel
theorem dMo_hit_10 : decode cMo_hit 10 = .ok (.iload_n 1, 1) := by decide +kernel
theorem dMo_hit_11 : decode cMo_hit 11 = .ok (.ifCond .lt 11, 3) := by decide +kernel
theorem dMo_hit_14 : decode cMo_hit 14 = .ok (.iload_n 1, 1) := by decide +kernel
theorem dMo_hit_15 : decode cMo_hit 15 = .ok (.aload_n 0, 1) := by decide +kernel
theorem dMo_hit_16 : decode cMo_hit 16 = .ok (.getfield 127, 3) := by decide +kernel
theorem dMo_hit_19 : decode cMo_hit 19 = .ok (.if_icmp .lt 7, 3) := by decide +kernel
theorem dMo_hit_22 : decode cMo_hit 22 = .ok (.iconst 2, 1) := by decide +kernel
theorem dMo_hit_23 : decode cMo_hit 23 = .ok (.goto 17, 3) := by decide +kernel
theorem dMo_hit_26 : decode cMo_hit 26 = .ok (.iload_n 2, 1) := by decide +kernel
theorem dMo_hit_27 : decode cMo_hit 27 = .ok (.iconst 0, 1) := by decide +kernel
theorem dMo_hit_28 : decode cMo_hit 28 = .ok (.iconst 3, 1) := by decide +kernel
theorem dMo_hit_29 : decode cMo_hit 29 = .ok (.invokestatic 82, 3) := by decide +kernel
theorem dMo_hit_32 : decode cMo_hit 32 = .ok (.ifCond .eq 7, 3) := by decide +kernel
theorem dMo_hit_35 : decode cMo_hit 35 = .ok (.iconst 0, 1) := by decide +kernel
theorem dMo_hit_36 : decode cMo_hit 36 = .ok (.goto 4, 3) := by decide +kernel
theorem dMo_hit_39 : decode cMo_hit 39 = .ok (.iconst 3, 1) := by decide +kernel
theorem dMo_hit_40 : decode cMo_hit 40 = .ok (.putfield 79, 3) := by decide +kernel
theorem dMo_hit_43 : decode cMo_hit 43 = .ok (.aload_n 0, 1) := by decide +kernel
theorem dMo_hit_44 : decode cMo_hit 44 = .ok (.getfield 79, 3) := by decide +kernel
theorem dMo_hit_47 : decode cMo_hit 47 = .ok (.ifCond .le 5, 3) := by decide +kernel
theorem dMo_hit_50 : decode cMo_hit 50 = .ok (.iconst 0, 1) := by decide +kernel
theorem dMo_hit_51 : decode cMo_hit 51 = .ok (.ireturn, 1) := by decide +kernel
theorem dMo_hit_52 : decode cMo_hit 52 = .ok (.iload_n 2, 1) := by decide +kernel
theorem dMo_hit_53 : decode cMo_hit 53 = .ok (.ifCond .ne 12, 3) := by decide +kernel
theorem dMo_hit_56 : decode cMo_hit 56 = .ok (.aload_n 0, 1) := by decide +kernel
theorem dMo_hit_57 : decode cMo_hit 57 = .ok (.getfield 41, 3) := by decide +kernel
theorem dMo_hit_60 : decode cMo_hit 60 = .ok (.iload_n 1, 1) := by decide +kernel
theorem dMo_hit_61 : decode cMo_hit 61 = .ok (.iaload, 1) := by decide +kernel
theorem dMo_hit_62 : decode cMo_hit 62 = .ok (.goto 37, 3) := by decide +kernel
theorem dMo_hit_65 : decode cMo_hit 65 = .ok (.iload_n 2, 1) := by decide +kernel
theorem dMo_hit_66 : decode cMo_hit 66 = .ok (.iconst 1, 1) := by decide +kernel
theorem dMo_hit_67 : decode cMo_hit 67 = .ok (.if_icmp .ne 12, 3) := by decide +kernel
theorem dMo_hit_70 : decode cMo_hit 70 = .ok (.aload_n 0, 1) := by decide +kernel
theorem dMo_hit_71 : decode cMo_hit 71 = .ok (.getfield 44, 3) := by decide +kernel
theorem dMo_hit_74 : decode cMo_hit 74 = .ok (.iload_n 1, 1) := by decide +kernel
theorem dMo_hit_75 : decode cMo_hit 75 = .ok (.iaload, 1) := by decide +kernel
theorem dMo_hit_76 : decode cMo_hit 76 = .ok (.goto 23, 3) := by decide +kernel
theorem dMo_hit_79 : decode cMo_hit 79 = .ok (.iload_n 2, 1) := by decide +kernel
theorem dMo_hit_80 : decode cMo_hit 80 = .ok (.iconst 2, 1) := by decide +kernel
theorem dMo_hit_81 : decode cMo_hit 81 = .ok (.if_icmp .ne 12, 3) := by decide +kernel
theorem dMo_hit_84 : decode cMo_hit 84 = .ok (.aload_n 0, 1) := by decide +kernel
theorem dMo_hit_85 : decode cMo_hit 85 = .ok (.getfield 47, 3) := by decide +kernel
theorem dMo_hit_88 : decode cMo_hit 88 = .ok (.iload_n 1, 1) := by decide +kernel
theorem dMo_hit_89 : decode cMo_hit 89 = .ok (.iaload, 1) := by decide +kernel
theorem dMo_hit_90 : decode cMo_hit 90 = .ok (.goto 9, 3) := by decide +kernel
theorem dMo_hit_93 : decode cMo_hit 93 = .ok (.aload_n 0, 1) := by decide +kernel
theorem dMo_hit_94 : decode cMo_hit 94 = .ok (.getfield 50, 3) := by decide +kernel
theorem dMo_hit_97 : decode cMo_hit 97 = .ok (.iload_n 1, 1) := by decide +kernel
theorem dMo_hit_98 : decode cMo_hit 98 = .ok (.iaload, 1) := by decide +kernel
theorem dMo_hit_99 : decode cMo_hit 99 = .ok (.ireturn, 1) := by decide +kernel
theorem dMo_none_0 : decode cMo_none 0 = .ok (.aload_n 0, 1) := by decide +kernel
theorem dMo_none_1 : decode cMo_none 1 = .ok (.aload_n 0, 1) := by decide +kernel
theorem dMo_none_2 : decode cMo_none 2 = .ok (.getfield 86, 3) := by decide +kernel
theorem dMo_none_5 : decode cMo_none 5 = .ok (.ifCond .eq 7, 3) := by decide +kernel
theorem dMo_none_8 : decode cMo_none 8 = .ok (.iconst 0, 1) := by decide +kernel
theorem dMo_none_9 : decode cMo_none 9 = .ok (.goto 4, 3) := by decide +kernel
theorem dMo_none_12 : decode cMo_none 12 = .ok (.iconst 1, 1) := by decide +kernel
theorem dMo_none_13 : decode cMo_none 13 = .ok (.putfield 79, 3) := by decide +kernel
theorem dMo_none_16 : decode cMo_none 16 = .ok (.aload_n 0, 1) := by decide +kernel
theorem dMo_none_17 : decode cMo_none 17 = .ok (.getfield 79, 3) := by decide +kernel
theorem dMo_none_20 : decode cMo_none 20 = .ok (.ifCond .le 7, 3) := by decide +kernel
theorem dMo_none_23 : decode cMo_none 23 = .ok (.iconst 1, 1) := by decide +kernel
theorem dMo_none_24 : decode cMo_none 24 = .ok (.goto 4, 3) := by decide +kernel
theorem dMo_none_27 : decode cMo_none 27 = .ok (.iconst 0, 1) := by decide +kernel
theorem dMo_none_28 : decode cMo_none 28 = .ok (.ireturn, 1) := by decide +kernel
theorem dMo_drills_0 : decode cMo_drills 0 = .ok (.aload_n 0, 1) := by decide +kernel
theorem dMo_drills_1 : decode cMo_drills 1 = .ok (.invokevirtual 150, 3) := by decide +kernel
theorem dMo_drills_4 : decode cMo_drills 4 = .ok (.ifCond .eq 5, 3) := by decide +kernel
theorem dMo_drills_7 : decode cMo_drills 7 = .ok (.iconst 0, 1) := by decide +kernel
theorem dMo_drills_8 : decode cMo_drills 8 = .ok (.ireturn, 1) := by decide +kernel
theorem dMo_drills_9 : decode cMo_drills 9 = .ok (.aload_n 0, 1) := by decide +kernel
theorem dMo_drills_10 : decode cMo_drills 10 = .ok (.iload_n 1, 1) := by decide +kernel
theorem dMo_drills_11 : decode cMo_drills 11 = .ok (.ifCond .lt 23, 3) := by decide +kernel
theorem dMo_drills_14 : decode cMo_drills 14 = .ok (.iload_n 1, 1) := by decide +kernel
theorem dMo_drills_15 : decode cMo_drills 15 = .ok (.aload_n 0, 1) := by decide +kernel
theorem dMo_drills_16 : decode cMo_drills 16 = .ok (.getfield 127, 3) := by decide +kernel
theorem dMo_drills_19 : decode cMo_drills 19 = .ok (.if_icmp .ge 15, 3) := by decide +kernel
theorem dMo_drills_22 : decode cMo_drills 22 = .ok (.iload_n 2, 1) := by decide +kernel
theorem dMo_drills_23 : decode cMo_drills 23 = .ok (.ifCond .lt 11, 3) := by decide +kernel
theorem dMo_drills_26 : decode cMo_drills 26 = .ok (.iload_n 2, 1) := by decide +kernel
theorem dMo_drills_27 : decode cMo_drills 27 = .ok (.aload_n 0, 1) := by decide +kernel
theorem dMo_drills_28 : decode cMo_drills 28 = .ok (.getfield 90, 3) := by decide +kernel
theorem dMo_drills_31 : decode cMo_drills 31 = .ok (.if_icmp .lt 7, 3) := by decide +kernel
theorem dMo_drills_34 : decode cMo_drills 34 = .ok (.iconst 2, 1) := by decide +kernel
theorem dMo_drills_35 : decode cMo_drills 35 = .ok (.goto 4, 3) := by decide +kernel
theorem dMo_drills_38 : decode cMo_drills 38 = .ok (.iconst 0, 1) := by decide +kernel
theorem dMo_drills_39 : decode cMo_drills 39 = .ok (.putfield 79, 3) := by decide +kernel
theorem dMo_drills_42 : decode cMo_drills 42 = .ok (.aload_n 0, 1) := by decide +kernel
theorem dMo_drills_43 : decode cMo_drills 43 = .ok (.getfield 79, 3) := by decide +kernel
theorem dMo_drills_46 : decode cMo_drills 46 = .ok (.ifCond .ne 21, 3) := by decide +kernel
theorem dMo_drills_49 : decode cMo_drills 49 = .ok (.aload_n 0, 1) := by decide +kernel
theorem dMo_drills_50 : decode cMo_drills 50 = .ok (.getfield 50, 3) := by decide +kernel
theorem dMo_drills_53 : decode cMo_drills 53 = .ok (.iload_n 1, 1) := by decide +kernel
theorem dMo_drills_54 : decode cMo_drills 54 = .ok (.iaload, 1) := by decide +kernel
theorem dMo_drills_55 : decode cMo_drills 55 = .ok (.iload_n 2, 1) := by decide +kernel
theorem dMo_drills_56 : decode cMo_drills 56 = .ok (.ishr, 1) := by decide +kernel
theorem dMo_drills_57 : decode cMo_drills 57 = .ok (.iconst 1, 1) := by decide +kernel
theorem dMo_drills_58 : decode cMo_drills 58 = .ok (.iand, 1) := by decide +kernel
theorem dMo_drills_59 : decode cMo_drills 59 = .ok (.iconst 1, 1) := by decide +kernel
theorem dMo_drills_60 : decode cMo_drills 60 = .ok (.if_icmp .ne 7, 3) := by decide +kernel
theorem dMo_drills_63 : decode cMo_drills 63 = .ok (.iconst 1, 1) := by decide +kernel
theorem dMo_drills_64 : decode cMo_drills 64 = .ok (.goto 4, 3) := by decide +kernel
theorem dMo_drills_67 : decode cMo_drills 67 = .ok (.iconst 0, 1) := by decide +kernel
theorem dMo_drills_68 : decode cMo_drills 68 = .ok (.ireturn, 1) := by decide +kernel
theorem dMo_by_0 : decode cMo_by 0 = .ok (.aload_n 0, 1) := by decide +kernel
theorem dMo_by_1 : decode cMo_by 1 = .ok (.iload_n 1, 1) := by decide +kernel
theorem dMo_by_2 : decode cMo_by 2 = .ok (.invokevirtual 154, 3) := by decide +kernel
theorem dMo_by_5 : decode cMo_by 5 = .ok (.ifCond .eq 5, 3) := by decide +kernel
theorem dMo_by_8 : decode cMo_by 8 = .ok (.iconst 0, 1) := by decide +kernel
theorem dMo_by_9 : decode cMo_by 9 = .ok (.ireturn, 1) := by decide +kernel
theorem dMo_by_10 : decode cMo_by 10 = .ok (.iconst 0, 1) := by decide +kernel
theorem dMo_by_11 : decode cMo_by 11 = .ok (.istore_n 2, 1) := by decide +kernel
theorem dMo_by_12 : decode cMo_by 12 = .ok (.iload_n 2, 1) := by decide +kernel
theorem dMo_by_13 : decode cMo_by 13 = .ok (.aload_n 0, 1) := by decide +kernel
theorem dMo_by_14 : decode cMo_by 14 = .ok (.getfield 127, 3) := by decide +kernel
theorem dMo_by_17 : decode cMo_by 17 = .ok (.if_icmp .ge 41, 3) := by decide +kernel
theorem dMo_by_20 : decode cMo_by 20 = .ok (.aload_n 0, 1) := by decide +kernel
theorem dMo_by_21 : decode cMo_by 21 = .ok (.getfield 50, 3) := by decide +kernel
theorem dMo_by_24 : decode cMo_by 24 = .ok (.iload_n 2, 1) := by decide +kernel
theorem dMo_by_25 : decode cMo_by 25 = .ok (.iaload, 1) := by decide +kernel
theorem dMo_by_26 : decode cMo_by 26 = .ok (.iload_n 1, 1) := by decide +kernel
theorem dMo_by_27 : decode cMo_by 27 = .ok (.ishr, 1) := by decide +kernel
theorem dMo_by_28 : decode cMo_by 28 = .ok (.iconst 1, 1) := by decide +kernel
theorem dMo_by_29 : decode cMo_by 29 = .ok (.iand, 1) := by decide +kernel
theorem dMo_by_30 : decode cMo_by 30 = .ok (.iconst 1, 1) := by decide +kernel
theorem dMo_by_31 : decode cMo_by 31 = .ok (.if_icmp .ne 21, 3) := by decide +kernel
theorem dMo_by_34 : decode cMo_by 34 = .ok (.aload_n 0, 1) := by decide +kernel
theorem dMo_by_35 : decode cMo_by 35 = .ok (.iload_n 1, 1) := by decide +kernel
theorem dMo_by_36 : decode cMo_by 36 = .ok (.aload_n 0, 1) := by decide +kernel
theorem dMo_by_37 : decode cMo_by 37 = .ok (.getfield 41, 3) := by decide +kernel
theorem dMo_by_40 : decode cMo_by 40 = .ok (.iload_n 2, 1) := by decide +kernel
theorem dMo_by_41 : decode cMo_by 41 = .ok (.iaload, 1) := by decide +kernel
theorem dMo_by_42 : decode cMo_by 42 = .ok (.aload_n 0, 1) := by decide +kernel
theorem dMo_by_43 : decode cMo_by 43 = .ok (.getfield 44, 3) := by decide +kernel
theorem dMo_by_46 : decode cMo_by 46 = .ok (.iload_n 2, 1) := by decide +kernel
theorem dMo_by_47 : decode cMo_by 47 = .ok (.iaload, 1) := by decide +kernel
theorem dMo_by_48 : decode cMo_by 48 = .ok (.invokevirtual 106, 3) := by decide +kernel
theorem dMo_by_51 : decode cMo_by 51 = .ok (.ireturn, 1) := by decide +kernel
theorem dMo_by_52 : decode cMo_by 52 = .ok (.iinc 2 1, 3) := by decide +kernel
theorem dMo_by_55 : decode cMo_by 55 = .ok (.goto (-43), 3) := by decide +kernel
theorem dMo_by_58 : decode cMo_by 58 = .ok (.iconst (-1), 1) := by decide +kernel
theorem dMo_by_59 : decode cMo_by 59 = .ok (.ireturn, 1) := by decide +kernel
theorem dMo_noHoleOf_0 : decode cMo_noHoleOf 0 = .ok (.aload_n 0, 1) := by decide +kernel
theorem dMo_noHoleOf_1 : decode cMo_noHoleOf 1 = .ok (.aload_n 0, 1) := by decide +kernel
theorem dMo_noHoleOf_2 : decode cMo_noHoleOf 2 = .ok (.getfield 86, 3) := by decide +kernel
theorem dMo_noHoleOf_5 : decode cMo_noHoleOf 5 = .ok (.ifCond .ne 7, 3) := by decide +kernel
theorem dMo_noHoleOf_8 : decode cMo_noHoleOf 8 = .ok (.iconst 1, 1) := by decide +kernel
theorem dMo_noHoleOf_9 : decode cMo_noHoleOf 9 = .ok (.goto 20, 3) := by decide +kernel
theorem dMo_noHoleOf_12 : decode cMo_noHoleOf 12 = .ok (.iload_n 1, 1) := by decide +kernel
theorem dMo_noHoleOf_13 : decode cMo_noHoleOf 13 = .ok (.ifCond .lt 11, 3) := by decide +kernel
theorem dMo_noHoleOf_16 : decode cMo_noHoleOf 16 = .ok (.iload_n 1, 1) := by decide +kernel
theorem dMo_noHoleOf_17 : decode cMo_noHoleOf 17 = .ok (.aload_n 0, 1) := by decide +kernel
theorem dMo_noHoleOf_18 : decode cMo_noHoleOf 18 = .ok (.getfield 90, 3) := by decide +kernel
theorem dMo_noHoleOf_21 : decode cMo_noHoleOf 21 = .ok (.if_icmp .lt 7, 3) := by decide +kernel
theorem dMo_noHoleOf_24 : decode cMo_noHoleOf 24 = .ok (.iconst 2, 1) := by decide +kernel
theorem dMo_noHoleOf_25 : decode cMo_noHoleOf 25 = .ok (.goto 4, 3) := by decide +kernel
theorem dMo_noHoleOf_28 : decode cMo_noHoleOf 28 = .ok (.iconst 0, 1) := by decide +kernel
theorem dMo_noHoleOf_29 : decode cMo_noHoleOf 29 = .ok (.putfield 79, 3) := by decide +kernel
theorem dMo_noHoleOf_32 : decode cMo_noHoleOf 32 = .ok (.aload_n 0, 1) := by decide +kernel
theorem dMo_noHoleOf_33 : decode cMo_noHoleOf 33 = .ok (.getfield 79, 3) := by decide +kernel
theorem dMo_noHoleOf_36 : decode cMo_noHoleOf 36 = .ok (.ifCond .le 7, 3) := by decide +kernel
theorem dMo_noHoleOf_39 : decode cMo_noHoleOf 39 = .ok (.iconst 1, 1) := by decide +kernel
theorem dMo_noHoleOf_40 : decode cMo_noHoleOf 40 = .ok (.goto 4, 3) := by decide +kernel
theorem dMo_noHoleOf_43 : decode cMo_noHoleOf 43 = .ok (.iconst 0, 1) := by decide +kernel
theorem dMo_noHoleOf_44 : decode cMo_noHoleOf 44 = .ok (.ireturn, 1) := by decide +kernel
theorem dMo_single_0 : decode cMo_single 0 = .ok (.aload_n 0, 1) := by decide +kernel
theorem dMo_single_1 : decode cMo_single 1 = .ok (.iload_n 1, 1) := by decide +kernel
theorem dMo_single_2 : decode cMo_single 2 = .ok (.invokevirtual 154, 3) := by decide +kernel
theorem dMo_single_5 : decode cMo_single 5 = .ok (.ifCond .ne 19, 3) := by decide +kernel
theorem dMo_single_8 : decode cMo_single 8 = .ok (.aload_n 0, 1) := by decide +kernel
theorem dMo_single_9 : decode cMo_single 9 = .ok (.getfield 120, 3) := by decide +kernel
theorem dMo_single_12 : decode cMo_single 12 = .ok (.iload_n 1, 1) := by decide +kernel
theorem dMo_single_13 : decode cMo_single 13 = .ok (.ishr, 1) := by decide +kernel
theorem dMo_single_14 : decode cMo_single 14 = .ok (.iconst 1, 1) := by decide +kernel
theorem dMo_single_15 : decode cMo_single 15 = .ok (.iand, 1) := by decide +kernel
theorem dMo_single_16 : decode cMo_single 16 = .ok (.iconst 1, 1) := by decide +kernel
theorem dMo_single_17 : decode cMo_single 17 = .ok (.if_icmp .ne 7, 3) := by decide +kernel
theorem dMo_single_20 : decode cMo_single 20 = .ok (.iconst 1, 1) := by decide +kernel
theorem dMo_single_21 : decode cMo_single 21 = .ok (.goto 4, 3) := by decide +kernel
theorem dMo_single_24 : decode cMo_single 24 = .ok (.iconst 0, 1) := by decide +kernel
theorem dMo_single_25 : decode cMo_single 25 = .ok (.ireturn, 1) := by decide +kernel
theorem dMo_order_0 : decode cMo_order 0 = .ok (.aload_n 0, 1) := by decide +kernel
theorem dMo_order_1 : decode cMo_order 1 = .ok (.invokevirtual 150, 3) := by decide +kernel
theorem dMo_order_4 : decode cMo_order 4 = .ok (.ifCond .eq 5, 3) := by decide +kernel
theorem dMo_order_7 : decode cMo_order 7 = .ok (.iconst 0, 1) := by decide +kernel
theorem dMo_order_8 : decode cMo_order 8 = .ok (.ireturn, 1) := by decide +kernel
theorem dMo_order_9 : decode cMo_order 9 = .ok (.aload_n 0, 1) := by decide +kernel
theorem dMo_order_10 : decode cMo_order 10 = .ok (.iload_n 1, 1) := by decide +kernel
theorem dMo_order_11 : decode cMo_order 11 = .ok (.ifCond .lt 11, 3) := by decide +kernel
theorem dMo_order_14 : decode cMo_order 14 = .ok (.iload_n 1, 1) := by decide +kernel
theorem dMo_order_15 : decode cMo_order 15 = .ok (.aload_n 0, 1) := by decide +kernel
theorem dMo_order_16 : decode cMo_order 16 = .ok (.getfield 127, 3) := by decide +kernel
theorem dMo_order_19 : decode cMo_order 19 = .ok (.if_icmp .lt 7, 3) := by decide +kernel
theorem dMo_order_22 : decode cMo_order 22 = .ok (.iconst 2, 1) := by decide +kernel
theorem dMo_order_23 : decode cMo_order 23 = .ok (.goto 4, 3) := by decide +kernel
theorem dMo_order_26 : decode cMo_order 26 = .ok (.iconst 0, 1) := by decide +kernel
theorem dMo_order_27 : decode cMo_order 27 = .ok (.putfield 79, 3) := by decide +kernel
theorem dMo_order_30 : decode cMo_order 30 = .ok (.aload_n 0, 1) := by decide +kernel
theorem dMo_order_31 : decode cMo_order 31 = .ok (.getfield 79, 3) := by decide +kernel
theorem dMo_order_34 : decode cMo_order 34 = .ok (.ifCond .le 7, 3) := by decide +kernel
theorem dMo_order_37 : decode cMo_order 37 = .ok (.iconst 0, 1) := by decide +kernel
theorem dMo_order_38 : decode cMo_order 38 = .ok (.goto 9, 3) := by decide +kernel
theorem dMo_order_41 : decode cMo_order 41 = .ok (.aload_n 0, 1) := by decide +kernel
theorem dMo_order_42 : decode cMo_order 42 = .ok (.getfield 53, 3) := by decide +kernel
theorem dMo_order_45 : decode cMo_order 45 = .ok (.iload_n 1, 1) := by decide +kernel
theorem dMo_order_46 : decode cMo_order 46 = .ok (.iaload, 1) := by decide +kernel
theorem dMo_order_47 : decode cMo_order 47 = .ok (.ireturn, 1) := by decide +kernel
theorem dMo_travel_0 : decode cMo_travel 0 = .ok (.aload_n 0, 1) := by decide +kernel
theorem dMo_travel_1 : decode cMo_travel 1 = .ok (.invokevirtual 150, 3) := by decide +kernel
theorem dMo_travel_4 : decode cMo_travel 4 = .ok (.ifCond .eq 7, 3) := by decide +kernel
theorem dMo_travel_7 : decode cMo_travel 7 = .ok (.lconst 0, 1) := by decide +kernel
theorem dMo_travel_8 : decode cMo_travel 8 = .ok (.goto 7, 3) := by decide +kernel
theorem dMo_travel_11 : decode cMo_travel 11 = .ok (.aload_n 0, 1) := by decide +kernel
theorem dMo_travel_12 : decode cMo_travel 12 = .ok (.getfield 146, 3) := by decide +kernel
theorem dMo_travel_15 : decode cMo_travel 15 = .ok (.lreturn, 1) := by decide +kernel
theorem dMo_least_0 : decode cMo_least 0 = .ok (.aload_n 0, 1) := by decide +kernel
theorem dMo_least_1 : decode cMo_least 1 = .ok (.invokevirtual 150, 3) := by decide +kernel
theorem dMo_least_4 : decode cMo_least 4 = .ok (.ifCond .ne 16, 3) := by decide +kernel
theorem dMo_least_7 : decode cMo_least 7 = .ok (.aload_n 0, 1) := by decide +kernel
theorem dMo_least_8 : decode cMo_least 8 = .ok (.getfield 127, 3) := by decide +kernel
theorem dMo_least_11 : decode cMo_least 11 = .ok (.bipush 10, 2) := by decide +kernel
theorem dMo_least_13 : decode cMo_least 13 = .ok (.if_icmp .gt 7, 3) := by decide +kernel
theorem dMo_least_16 : decode cMo_least 16 = .ok (.iconst 1, 1) := by decide +kernel
theorem dMo_least_17 : decode cMo_least 17 = .ok (.goto 4, 3) := by decide +kernel
theorem dMo_least_20 : decode cMo_least 20 = .ok (.iconst 0, 1) := by decide +kernel
theorem dMo_least_21 : decode cMo_least 21 = .ok (.ireturn, 1) := by decide +kernel
theorem dMo_bound_0 : decode cMo_bound 0 = .ok (.aload_n 0, 1) := by decide +kernel
theorem dMo_bound_1 : decode cMo_bound 1 = .ok (.invokevirtual 150, 3) := by decide +kernel
theorem dMo_bound_4 : decode cMo_bound 4 = .ok (.ifCond .eq 5, 3) := by decide +kernel
theorem dMo_bound_7 : decode cMo_bound 7 = .ok (.iconst 0, 1) := by decide +kernel
theorem dMo_bound_8 : decode cMo_bound 8 = .ok (.ireturn, 1) := by decide +kernel
theorem dMo_bound_9 : decode cMo_bound 9 = .ok (.iconst 0, 1) := by decide +kernel
theorem dMo_bound_10 : decode cMo_bound 10 = .ok (.istore_n 1, 1) := by decide +kernel
theorem dMo_bound_11 : decode cMo_bound 11 = .ok (.iconst 0, 1) := by decide +kernel
theorem dMo_bound_12 : decode cMo_bound 12 = .ok (.istore_n 2, 1) := by decide +kernel
theorem dMo_bound_13 : decode cMo_bound 13 = .ok (.iload_n 2, 1) := by decide +kernel
theorem dMo_bound_14 : decode cMo_bound 14 = .ok (.aload_n 0, 1) := by decide +kernel
theorem dMo_bound_15 : decode cMo_bound 15 = .ok (.getfield 75, 3) := by decide +kernel
theorem dMo_bound_18 : decode cMo_bound 18 = .ok (.if_icmp .ge 26, 3) := by decide +kernel
theorem dMo_bound_21 : decode cMo_bound 21 = .ok (.aload_n 0, 1) := by decide +kernel
theorem dMo_bound_22 : decode cMo_bound 22 = .ok (.getfield 16, 3) := by decide +kernel
theorem dMo_bound_25 : decode cMo_bound 25 = .ok (.iload_n 2, 1) := by decide +kernel
theorem dMo_bound_26 : decode cMo_bound 26 = .ok (.iaload, 1) := by decide +kernel
theorem dMo_bound_27 : decode cMo_bound 27 = .ok (.ifCond .le 9, 3) := by decide +kernel
theorem dMo_bound_30 : decode cMo_bound 30 = .ok (.iload_n 1, 1) := by decide +kernel
theorem dMo_bound_31 : decode cMo_bound 31 = .ok (.iconst 1, 1) := by decide +kernel
theorem dMo_bound_32 : decode cMo_bound 32 = .ok (.iadd, 1) := by decide +kernel
theorem dMo_bound_33 : decode cMo_bound 33 = .ok (.goto 4, 3) := by decide +kernel
theorem dMo_bound_36 : decode cMo_bound 36 = .ok (.iload_n 1, 1) := by decide +kernel
theorem dMo_bound_37 : decode cMo_bound 37 = .ok (.istore_n 1, 1) := by decide +kernel
theorem dMo_bound_38 : decode cMo_bound 38 = .ok (.iinc 2 1, 3) := by decide +kernel
theorem dMo_bound_41 : decode cMo_bound 41 = .ok (.goto (-28), 3) := by decide +kernel
theorem dMo_bound_44 : decode cMo_bound 44 = .ok (.aload_n 0, 1) := by decide +kernel
theorem dMo_bound_45 : decode cMo_bound 45 = .ok (.getfield 90, 3) := by decide +kernel
theorem dMo_bound_48 : decode cMo_bound 48 = .ok (.aload_n 0, 1) := by decide +kernel
theorem dMo_bound_49 : decode cMo_bound 49 = .ok (.invokevirtual 157, 3) := by decide +kernel
theorem dMo_bound_52 : decode cMo_bound 52 = .ok (.isub, 1) := by decide +kernel
theorem dMo_bound_53 : decode cMo_bound 53 = .ok (.istore_n 2, 1) := by decide +kernel
theorem dMo_bound_54 : decode cMo_bound 54 = .ok (.iload_n 1, 1) := by decide +kernel
theorem dMo_bound_55 : decode cMo_bound 55 = .ok (.ifCond .eq 7, 3) := by decide +kernel
theorem dMo_bound_58 : decode cMo_bound 58 = .ok (.iload_n 2, 1) := by decide +kernel
theorem dMo_bound_59 : decode cMo_bound 59 = .ok (.ifCond .ne 7, 3) := by decide +kernel
theorem dMo_bound_62 : decode cMo_bound 62 = .ok (.iconst 0, 1) := by decide +kernel
theorem dMo_bound_63 : decode cMo_bound 63 = .ok (.goto 10, 3) := by decide +kernel
theorem dMo_bound_66 : decode cMo_bound 66 = .ok (.iload_n 2, 1) := by decide +kernel
theorem dMo_bound_67 : decode cMo_bound 67 = .ok (.iload_n 1, 1) := by decide +kernel
theorem dMo_bound_68 : decode cMo_bound 68 = .ok (.iadd, 1) := by decide +kernel
theorem dMo_bound_69 : decode cMo_bound 69 = .ok (.iconst 1, 1) := by decide +kernel
theorem dMo_bound_70 : decode cMo_bound 70 = .ok (.isub, 1) := by decide +kernel
theorem dMo_bound_71 : decode cMo_bound 71 = .ok (.iload_n 1, 1) := by decide +kernel
theorem dMo_bound_72 : decode cMo_bound 72 = .ok (.idiv, 1) := by decide +kernel
theorem dMo_bound_73 : decode cMo_bound 73 = .ok (.ireturn, 1) := by decide +kernel
theorem dMo_singleCount_0 : decode cMo_singleCount 0 = .ok (.iconst 0, 1) := by decide +kernel
theorem dMo_singleCount_1 : decode cMo_singleCount 1 = .ok (.istore_n 1, 1) := by decide +kernel
theorem dMo_singleCount_2 : decode cMo_singleCount 2 = .ok (.iconst 0, 1) := by decide +kernel
theorem dMo_singleCount_3 : decode cMo_singleCount 3 = .ok (.istore_n 2, 1) := by decide +kernel
theorem dMo_singleCount_4 : decode cMo_singleCount 4 = .ok (.iload_n 2, 1) := by decide +kernel
theorem dMo_singleCount_5 : decode cMo_singleCount 5 = .ok (.aload_n 0, 1) := by decide +kernel
theorem dMo_singleCount_6 : decode cMo_singleCount 6 = .ok (.getfield 90, 3) := by decide +kernel
theorem dMo_singleCount_9 : decode cMo_singleCount 9 = .ok (.if_icmp .ge 29, 3) := by decide +kernel
theorem dMo_singleCount_12 : decode cMo_singleCount 12 = .ok (.aload_n 0, 1) := by decide +kernel
theorem dMo_singleCount_13 : decode cMo_singleCount 13 = .ok (.getfield 120, 3) := by decide +kernel
theorem dMo_singleCount_16 : decode cMo_singleCount 16 = .ok (.iload_n 2, 1) := by decide +kernel
theorem dMo_singleCount_17 : decode cMo_singleCount 17 = .ok (.ishr, 1) := by decide +kernel
theorem dMo_singleCount_18 : decode cMo_singleCount 18 = .ok (.iconst 1, 1) := by decide +kernel
theorem dMo_singleCount_19 : decode cMo_singleCount 19 = .ok (.iand, 1) := by decide +kernel
theorem dMo_singleCount_20 : decode cMo_singleCount 20 = .ok (.iconst 1, 1) := by decide +kernel
theorem dMo_singleCount_21 : decode cMo_singleCount 21 = .ok (.if_icmp .ne 9, 3) := by decide +kernel
theorem dMo_singleCount_24 : decode cMo_singleCount 24 = .ok (.iload_n 1, 1) := by decide +kernel
theorem dMo_singleCount_25 : decode cMo_singleCount 25 = .ok (.iconst 1, 1) := by decide +kernel
theorem dMo_singleCount_26 : decode cMo_singleCount 26 = .ok (.iadd, 1) := by decide +kernel
theorem dMo_singleCount_27 : decode cMo_singleCount 27 = .ok (.goto 4, 3) := by decide +kernel
theorem dMo_singleCount_30 : decode cMo_singleCount 30 = .ok (.iload_n 1, 1) := by decide +kernel
theorem dMo_singleCount_31 : decode cMo_singleCount 31 = .ok (.istore_n 1, 1) := by decide +kernel
theorem dMo_singleCount_32 : decode cMo_singleCount 32 = .ok (.iinc 2 1, 3) := by decide +kernel
theorem dMo_singleCount_35 : decode cMo_singleCount 35 = .ok (.goto (-31), 3) := by decide +kernel
theorem dMo_singleCount_38 : decode cMo_singleCount 38 = .ok (.iload_n 1, 1) := by decide +kernel
theorem dMo_singleCount_39 : decode cMo_singleCount 39 = .ok (.ireturn, 1) := by decide +kernel
theorem dMo_seconds_0 : decode cMo_seconds 0 = .ok (.aload_n 0, 1) := by decide +kernel
theorem dMo_seconds_1 : decode cMo_seconds 1 = .ok (.invokevirtual 150, 3) := by decide +kernel
theorem dMo_seconds_4 : decode cMo_seconds 4 = .ok (.ifCond .eq 7, 3) := by decide +kernel
theorem dMo_seconds_7 : decode cMo_seconds 7 = .ok (.lconst 0, 1) := by decide +kernel
theorem dMo_seconds_8 : decode cMo_seconds 8 = .ok (.goto 31, 3) := by decide +kernel
theorem dMo_seconds_11 : decode cMo_seconds 11 = .ok (.ldc2_w 161, 3) := by decide +kernel
theorem dMo_seconds_14 : decode cMo_seconds 14 = .ok (.aload_n 0, 1) := by decide +kernel
theorem dMo_seconds_15 : decode cMo_seconds 15 = .ok (.getfield 127, 3) := by decide +kernel
theorem dMo_seconds_18 : decode cMo_seconds 18 = .ok (.i2l, 1) := by decide +kernel
theorem dMo_seconds_19 : decode cMo_seconds 19 = .ok (.lmul, 1) := by decide +kernel
theorem dMo_seconds_20 : decode cMo_seconds 20 = .ok (.ldc2_w 163, 3) := by decide +kernel
theorem dMo_seconds_23 : decode cMo_seconds 23 = .ok (.aload_n 0, 1) := by decide +kernel
theorem dMo_seconds_24 : decode cMo_seconds 24 = .ok (.invokevirtual 157, 3) := by decide +kernel
theorem dMo_seconds_27 : decode cMo_seconds 27 = .ok (.i2l, 1) := by decide +kernel
theorem dMo_seconds_28 : decode cMo_seconds 28 = .ok (.lmul, 1) := by decide +kernel
theorem dMo_seconds_29 : decode cMo_seconds 29 = .ok (.ladd, 1) := by decide +kernel
theorem dMo_seconds_30 : decode cMo_seconds 30 = .ok (.aload_n 0, 1) := by decide +kernel
theorem dMo_seconds_31 : decode cMo_seconds 31 = .ok (.getfield 146, 3) := by decide +kernel
theorem dMo_seconds_34 : decode cMo_seconds 34 = .ok (.ldc2_w 165, 3) := by decide +kernel
theorem dMo_seconds_37 : decode cMo_seconds 37 = .ok (.ldiv, 1) := by decide +kernel
theorem dMo_seconds_38 : decode cMo_seconds 38 = .ok (.ladd, 1) := by decide +kernel
theorem dMo_seconds_39 : decode cMo_seconds 39 = .ok (.lreturn, 1) := by decide +kernel
