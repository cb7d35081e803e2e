theorem dX11_sumOf_24 : decode cX11_sumOf 24 = .ok (.iload_n 3, 1) := by decide +kernel
theorem dX11_sumOf_25 : decode cX11_sumOf 25 = .ok (.invokevirtual 71, 3) := by decide +kernel
theorem dX11_sumOf_28 : decode cX11_sumOf 28 = .ok (.iastore, 1) := by decide +kernel
theorem dX11_sumOf_29 : decode cX11_sumOf 29 = .ok (.aload_n 0, 1) := by decide +kernel
theorem dX11_sumOf_30 : decode cX11_sumOf 30 = .ok (.getfield 28, 3) := by decide +kernel
theorem dX11_sumOf_33 : decode cX11_sumOf 33 = .ok (.bipush 119, 2) := by decide +kernel
theorem dX11_sumOf_35 : decode cX11_sumOf 35 = .ok (.aload_n 0, 1) := by decide +kernel
theorem dX11_sumOf_36 : decode cX11_sumOf 36 = .ok (.iload_n 1, 1) := by decide +kernel
theorem dX11_sumOf_37 : decode cX11_sumOf 37 = .ok (.iconst 2, 1) := by decide +kernel
theorem dX11_sumOf_38 : decode cX11_sumOf 38 = .ok (.iload_n 2, 1) := by decide +kernel
theorem dX11_sumOf_39 : decode cX11_sumOf 39 = .ok (.iload_n 3, 1) := by decide +kernel
theorem dX11_sumOf_40 : decode cX11_sumOf 40 = .ok (.invokevirtual 71, 3) := by decide +kernel
theorem dX11_sumOf_43 : decode cX11_sumOf 43 = .ok (.iastore, 1) := by decide +kernel
theorem dX11_sumOf_44 : decode cX11_sumOf 44 = .ok (.aload_n 0, 1) := by decide +kernel
theorem dX11_sumOf_45 : decode cX11_sumOf 45 = .ok (.getfield 28, 3) := by decide +kernel
theorem dX11_sumOf_48 : decode cX11_sumOf 48 = .ok (.bipush 100, 2) := by decide +kernel
theorem dX11_sumOf_50 : decode cX11_sumOf 50 = .ok (.aload_n 0, 1) := by decide +kernel
theorem dX11_sumOf_51 : decode cX11_sumOf 51 = .ok (.iload_n 1, 1) := by decide +kernel
theorem dX11_sumOf_52 : decode cX11_sumOf 52 = .ok (.iconst 3, 1) := by decide +kernel
theorem dX11_sumOf_53 : decode cX11_sumOf 53 = .ok (.iload_n 2, 1) := by decide +kernel
theorem dX11_sumOf_54 : decode cX11_sumOf 54 = .ok (.iload_n 3, 1) := by decide +kernel
theorem dX11_sumOf_55 : decode cX11_sumOf 55 = .ok (.invokevirtual 71, 3) := by decide +kernel
theorem dX11_sumOf_58 : decode cX11_sumOf 58 = .ok (.iastore, 1) := by decide +kernel
theorem dX11_sumOf_59 : decode cX11_sumOf 59 = .ok (.aload_n 0, 1) := by decide +kernel
theorem dX11_sumOf_60 : decode cX11_sumOf 60 = .ok (.getfield 28, 3) := by decide +kernel
theorem dX11_sumOf_63 : decode cX11_sumOf 63 = .ok (.bipush 115, 2) := by decide +kernel
theorem dX11_sumOf_65 : decode cX11_sumOf 65 = .ok (.aload_n 0, 1) := by decide +kernel
theorem dX11_sumOf_66 : decode cX11_sumOf 66 = .ok (.getfield 7, 3) := by decide +kernel
theorem dX11_sumOf_69 : decode cX11_sumOf 69 = .ok (.bipush 30, 2) := by decide +kernel
theorem dX11_sumOf_71 : decode cX11_sumOf 71 = .ok (.iconst 3, 1) := by decide +kernel
theorem dX11_sumOf_72 : decode cX11_sumOf 72 = .ok (.iload_n 1, 1) := by decide +kernel
theorem dX11_sumOf_73 : decode cX11_sumOf 73 = .ok (.imul, 1) := by decide +kernel
theorem dX11_sumOf_74 : decode cX11_sumOf 74 = .ok (.iadd, 1) := by decide +kernel
theorem dX11_sumOf_75 : decode cX11_sumOf 75 = .ok (.iaload, 1) := by decide +kernel
theorem dX11_sumOf_76 : decode cX11_sumOf 76 = .ok (.iconst 2, 1) := by decide +kernel
theorem dX11_sumOf_77 : decode cX11_sumOf 77 = .ok (.if_icmp .ne 7, 3) := by decide +kernel
theorem dX11_sumOf_80 : decode cX11_sumOf 80 = .ok (.iconst 1, 1) := by decide +kernel
theorem dX11_sumOf_81 : decode cX11_sumOf 81 = .ok (.goto 4, 3) := by decide +kernel
theorem dX11_sumOf_84 : decode cX11_sumOf 84 = .ok (.iconst 0, 1) := by decide +kernel
theorem dX11_sumOf_85 : decode cX11_sumOf 85 = .ok (.iastore, 1) := by decide +kernel
theorem dX11_sumOf_86 : decode cX11_sumOf 86 = .ok (.aload_n 0, 1) := by decide +kernel
theorem dX11_sumOf_87 : decode cX11_sumOf 87 = .ok (.getfield 28, 3) := by decide +kernel
theorem dX11_sumOf_90 : decode cX11_sumOf 90 = .ok (.bipush 121, 2) := by decide +kernel
theorem dX11_sumOf_92 : decode cX11_sumOf 92 = .ok (.aload_n 0, 1) := by decide +kernel
theorem dX11_sumOf_93 : decode cX11_sumOf 93 = .ok (.iload_n 1, 1) := by decide +kernel
theorem dX11_sumOf_94 : decode cX11_sumOf 94 = .ok (.invokevirtual 66, 3) := by decide +kernel
theorem dX11_sumOf_97 : decode cX11_sumOf 97 = .ok (.ifCond .eq 7, 3) := by decide +kernel
theorem dX11_sumOf_100 : decode cX11_sumOf 100 = .ok (.iconst 1, 1) := by decide +kernel
theorem dX11_sumOf_101 : decode cX11_sumOf 101 = .ok (.goto 4, 3) := by decide +kernel
theorem dX11_sumOf_104 : decode cX11_sumOf 104 = .ok (.iconst 0, 1) := by decide +kernel
theorem dX11_sumOf_105 : decode cX11_sumOf 105 = .ok (.iastore, 1) := by decide +kernel
theorem dX11_sumOf_106 : decode cX11_sumOf 106 = .ok (.aload_n 0, 1) := by decide +kernel
theorem dX11_sumOf_107 : decode cX11_sumOf 107 = .ok (.iconst 1, 1) := by decide +kernel
theorem dX11_sumOf_108 : decode cX11_sumOf 108 = .ok (.invokevirtual 192, 3) := by decide +kernel
theorem dX11_sumOf_111 : decode cX11_sumOf 111 = .ok (.aload_n 0, 1) := by decide +kernel
theorem dX11_sumOf_112 : decode cX11_sumOf 112 = .ok (.getfield 7, 3) := by decide +kernel
theorem dX11_sumOf_115 : decode cX11_sumOf 115 = .ok (.bipush 7, 2) := by decide +kernel
theorem dX11_sumOf_117 : decode cX11_sumOf 117 = .ok (.iaload, 1) := by decide +kernel
theorem dX11_sumOf_118 : decode cX11_sumOf 118 = .ok (.invokestatic 75, 3) := by decide +kernel
theorem dX11_sumOf_121 : decode cX11_sumOf 121 = .ok (.aload_n 0, 1) := by decide +kernel
theorem dX11_sumOf_122 : decode cX11_sumOf 122 = .ok (.getfield 7, 3) := by decide +kernel
theorem dX11_sumOf_125 : decode cX11_sumOf 125 = .ok (.bipush 8, 2) := by decide +kernel
theorem dX11_sumOf_127 : decode cX11_sumOf 127 = .ok (.iaload, 1) := by decide +kernel
theorem dX11_sumOf_128 : decode cX11_sumOf 128 = .ok (.invokestatic 195, 3) := by decide +kernel
theorem dX11_sumOf_131 : decode cX11_sumOf 131 = .ok (.ireturn, 1) := by decide +kernel
theorem dX11_sum_0 : decode cX11_sum 0 = .ok (.aload_n 0, 1) := by decide +kernel
theorem dX11_sum_1 : decode cX11_sum 1 = .ok (.iload_n 1, 1) := by decide +kernel
theorem dX11_sum_2 : decode cX11_sum 2 = .ok (.invokevirtual 62, 3) := by decide +kernel
theorem dX11_sum_5 : decode cX11_sum 5 = .ok (.ifCond .eq 28, 3) := by decide +kernel
theorem dX11_sum_8 : decode cX11_sum 8 = .ok (.iload_n 2, 1) := by decide +kernel
theorem dX11_sum_9 : decode cX11_sum 9 = .ok (.iconst 0, 1) := by decide +kernel
theorem dX11_sum_10 : decode cX11_sum 10 = .ok (.sipush 3000, 3) := by decide +kernel
theorem dX11_sum_13 : decode cX11_sum 13 = .ok (.invokestatic 56, 3) := by decide +kernel
theorem dX11_sum_16 : decode cX11_sum 16 = .ok (.ifCond .eq 17, 3) := by decide +kernel
theorem dX11_sum_19 : decode cX11_sum 19 = .ok (.iload_n 3, 1) := by decide +kernel
theorem dX11_sum_20 : decode cX11_sum 20 = .ok (.iconst 0, 1) := by decide +kernel
theorem dX11_sum_21 : decode cX11_sum 21 = .ok (.aload_n 0, 1) := by decide +kernel
theorem dX11_sum_22 : decode cX11_sum 22 = .ok (.getfield 7, 3) := by decide +kernel
theorem dX11_sum_25 : decode cX11_sum 25 = .ok (.iconst 0, 1) := by decide +kernel
theorem dX11_sum_26 : decode cX11_sum 26 = .ok (.iaload, 1) := by decide +kernel
theorem dX11_sum_27 : decode cX11_sum 27 = .ok (.invokestatic 56, 3) := by decide +kernel
theorem dX11_sum_30 : decode cX11_sum 30 = .ok (.ifCond .ne 6, 3) := by decide +kernel
theorem dX11_sum_33 : decode cX11_sum 33 = .ok (.ldc 60, 2) := by decide +kernel
theorem dX11_sum_35 : decode cX11_sum 35 = .ok (.ireturn, 1) := by decide +kernel
theorem dX11_sum_36 : decode cX11_sum 36 = .ok (.aload_n 0, 1) := by decide +kernel
theorem dX11_sum_37 : decode cX11_sum 37 = .ok (.getfield 7, 3) := by decide +kernel
theorem dX11_sum_40 : decode cX11_sum 40 = .ok (.bipush 21, 2) := by decide +kernel
theorem dX11_sum_42 : decode cX11_sum 42 = .ok (.iaload, 1) := by decide +kernel
theorem dX11_sum_43 : decode cX11_sum 43 = .ok (.ifCond .ne 8, 3) := by decide +kernel
theorem dX11_sum_46 : decode cX11_sum 46 = .ok (.ldc 69, 2) := by decide +kernel
theorem dX11_sum_48 : decode cX11_sum 48 = .ok (.goto 10, 3) := by decide +kernel
theorem dX11_sum_51 : decode cX11_sum 51 = .ok (.aload_n 0, 1) := by decide +kernel
theorem dX11_sum_52 : decode cX11_sum 52 = .ok (.iload_n 1, 1) := by decide +kernel
theorem dX11_sum_53 : decode cX11_sum 53 = .ok (.iload_n 2, 1) := by decide +kernel
theorem dX11_sum_54 : decode cX11_sum 54 = .ok (.iload_n 3, 1) := by decide +kernel
theorem dX11_sum_55 : decode cX11_sum 55 = .ok (.invokevirtual 201, 3) := by decide +kernel
theorem dX11_sum_58 : decode cX11_sum 58 = .ok (.ireturn, 1) := by decide +kernel
theorem dX11_joined_0 : decode cX11_joined 0 = .ok (.iconst 0, 1) := by decide +kernel
theorem dX11_joined_1 : decode cX11_joined 1 = .ok (.istore_n 2, 1) := by decide +kernel
theorem dX11_joined_2 : decode cX11_joined 2 = .ok (.iconst (-1), 1) := by decide +kernel
theorem dX11_joined_3 : decode cX11_joined 3 = .ok (.istore_n 3, 1) := by decide +kernel
theorem dX11_joined_4 : decode cX11_joined 4 = .ok (.iconst 0, 1) := by decide +kernel
theorem dX11_joined_5 : decode cX11_joined 5 = .ok (.istore 4, 2) := by decide +kernel
theorem dX11_joined_7 : decode cX11_joined 7 = .ok (.iload 4, 2) := by decide +kernel
theorem dX11_joined_9 : decode cX11_joined 9 = .ok (.aload_n 0, 1) := by decide +kernel
theorem dX11_joined_10 : decode cX11_joined 10 = .ok (.getfield 7, 3) := by decide +kernel
theorem dX11_joined_13 : decode cX11_joined 13 = .ok (.bipush 19, 2) := by decide +kernel
theorem dX11_joined_15 : decode cX11_joined 15 = .ok (.iaload, 1) := by decide +kernel
theorem dX11_joined_16 : decode cX11_joined 16 = .ok (.if_icmp .ge 89, 3) := by decide +kernel
theorem dX11_joined_19 : decode cX11_joined 19 = .ok (.aload_n 0, 1) := by decide +kernel
theorem dX11_joined_20 : decode cX11_joined 20 = .ok (.getfield 7, 3) := by decide +kernel
theorem dX11_joined_23 : decode cX11_joined 23 = .ok (.sipush 642, 3) := by decide +kernel
theorem dX11_joined_26 : decode cX11_joined 26 = .ok (.iconst 5, 1) := by decide +kernel
theorem dX11_joined_27 : decode cX11_joined 27 = .ok (.iload 4, 2) := by decide +kernel
theorem dX11_joined_29 : decode cX11_joined 29 = .ok (.imul, 1) := by decide +kernel
theorem dX11_joined_30 : decode cX11_joined 30 = .ok (.iadd, 1) := by decide +kernel
theorem dX11_joined_31 : decode cX11_joined 31 = .ok (.iconst 1, 1) := by decide +kernel
theorem dX11_joined_32 : decode cX11_joined 32 = .ok (.iadd, 1) := by decide +kernel
theorem dX11_joined_33 : decode cX11_joined 33 = .ok (.iaload, 1) := by decide +kernel
theorem dX11_joined_34 : decode cX11_joined 34 = .ok (.iload_n 1, 1) := by decide +kernel
theorem dX11_joined_35 : decode cX11_joined 35 = .ok (.if_icmp .ne 64, 3) := by decide +kernel
theorem dX11_joined_38 : decode cX11_joined 38 = .ok (.aload_n 0, 1) := by decide +kernel
theorem dX11_joined_39 : decode cX11_joined 39 = .ok (.getfield 7, 3) := by decide +kernel
theorem dX11_joined_42 : decode cX11_joined 42 = .ok (.sipush 642, 3) := by decide +kernel
theorem dX11_joined_45 : decode cX11_joined 45 = .ok (.iconst 5, 1) := by decide +kernel
theorem dX11_joined_46 : decode cX11_joined 46 = .ok (.iload 4, 2) := by decide +kernel
theorem dX11_joined_48 : decode cX11_joined 48 = .ok (.imul, 1) := by decide +kernel
theorem dX11_joined_49 : decode cX11_joined 49 = .ok (.iadd, 1) := by decide +kernel
theorem dX11_joined_50 : decode cX11_joined 50 = .ok (.iconst 4, 1) := by decide +kernel
theorem dX11_joined_51 : decode cX11_joined 51 = .ok (.iadd, 1) := by decide +kernel
theorem dX11_joined_52 : decode cX11_joined 52 = .ok (.iaload, 1) := by decide +kernel
theorem dX11_joined_53 : decode cX11_joined 53 = .ok (.iconst (-1), 1) := by decide +kernel
theorem dX11_joined_54 : decode cX11_joined 54 = .ok (.if_icmp .eq 6, 3) := by decide +kernel
theorem dX11_joined_57 : decode cX11_joined 57 = .ok (.goto 42, 3) := by decide +kernel
theorem dX11_joined_60 : decode cX11_joined 60 = .ok (.aload_n 0, 1) := by decide +kernel
theorem dX11_joined_61 : decode cX11_joined 61 = .ok (.iload 4, 2) := by decide +kernel
theorem dX11_joined_63 : decode cX11_joined 63 = .ok (.invokevirtual 198, 3) := by decide +kernel
theorem dX11_joined_66 : decode cX11_joined 66 = .ok (.istore 5, 2) := by decide +kernel
theorem dX11_joined_68 : decode cX11_joined 68 = .ok (.iload_n 3, 1) := by decide +kernel
theorem dX11_joined_69 : decode cX11_joined 69 = .ok (.iconst (-1), 1) := by decide +kernel
theorem dX11_joined_70 : decode cX11_joined 70 = .ok (.if_icmp .eq 9, 3) := by decide +kernel
theorem dX11_joined_73 : decode cX11_joined 73 = .ok (.iload 5, 2) := by decide +kernel
theorem dX11_joined_75 : decode cX11_joined 75 = .ok (.iload_n 2, 1) := by decide +kernel
theorem dX11_joined_76 : decode cX11_joined 76 = .ok (.if_icmp .le 8, 3) := by decide +kernel
theorem dX11_joined_79 : decode cX11_joined 79 = .ok (.iload 4, 2) := by decide +kernel
theorem dX11_joined_81 : decode cX11_joined 81 = .ok (.goto 4, 3) := by decide +kernel
theorem dX11_joined_84 : decode cX11_joined 84 = .ok (.iload_n 3, 1) := by decide +kernel
theorem dX11_joined_85 : decode cX11_joined 85 = .ok (.istore_n 3, 1) := by decide +kernel
theorem dX11_joined_86 : decode cX11_joined 86 = .ok (.iload_n 3, 1) := by decide +kernel
theorem dX11_joined_87 : decode cX11_joined 87 = .ok (.iload 4, 2) := by decide +kernel
theorem dX11_joined_89 : decode cX11_joined 89 = .ok (.if_icmp .ne 8, 3) := by decide +kernel
theorem dX11_joined_92 : decode cX11_joined 92 = .ok (.iload 5, 2) := by decide +kernel
theorem dX11_joined_94 : decode cX11_joined 94 = .ok (.goto 4, 3) := by decide +kernel
theorem dX11_joined_97 : decode cX11_joined 97 = .ok (.iload_n 2, 1) := by decide +kernel
theorem dX11_joined_98 : decode cX11_joined 98 = .ok (.istore_n 2, 1) := by decide +kernel
theorem dX11_joined_99 : decode cX11_joined 99 = .ok (.iinc 4 1, 3) := by decide +kernel
theorem dX11_joined_102 : decode cX11_joined 102 = .ok (.goto (-95), 3) := by decide +kernel
theorem dX11_joined_105 : decode cX11_joined 105 = .ok (.iload_n 3, 1) := by decide +kernel
theorem dX11_joined_106 : decode cX11_joined 106 = .ok (.iconst (-1), 1) := by decide +kernel
theorem dX11_joined_107 : decode cX11_joined 107 = .ok (.if_icmp .ne 5, 3) := by decide +kernel
theorem dX11_joined_110 : decode cX11_joined 110 = .ok (.iconst (-1), 1) := by decide +kernel
theorem dX11_joined_111 : decode cX11_joined 111 = .ok (.ireturn, 1) := by decide +kernel
theorem dX11_joined_112 : decode cX11_joined 112 = .ok (.iload_n 2, 1) := by decide +kernel
theorem dX11_joined_113 : decode cX11_joined 113 = .ok (.istore 4, 2) := by decide +kernel
theorem dX11_joined_115 : decode cX11_joined 115 = .ok (.iconst 0, 1) := by decide +kernel
theorem dX11_joined_116 : decode cX11_joined 116 = .ok (.istore 5, 2) := by decide +kernel
theorem dX11_joined_118 : decode cX11_joined 118 = .ok (.iload 5, 2) := by decide +kernel
theorem dX11_joined_120 : decode cX11_joined 120 = .ok (.aload_n 0, 1) := by decide +kernel
theorem dX11_joined_121 : decode cX11_joined 121 = .ok (.getfield 7, 3) := by decide +kernel
theorem dX11_joined_124 : decode cX11_joined 124 = .ok (.bipush 19, 2) := by decide +kernel
theorem dX11_joined_126 : decode cX11_joined 126 = .ok (.iaload, 1) := by decide +kernel
theorem dX11_joined_127 : decode cX11_joined 127 = .ok (.if_icmp .ge 77, 3) := by decide +kernel
theorem dX11_joined_130 : decode cX11_joined 130 = .ok (.aload_n 0, 1) := by decide +kernel
theorem dX11_joined_131 : decode cX11_joined 131 = .ok (.getfield 7, 3) := by decide +kernel
theorem dX11_joined_134 : decode cX11_joined 134 = .ok (.sipush 642, 3) := by decide +kernel
theorem dX11_joined_137 : decode cX11_joined 137 = .ok (.iconst 5, 1) := by decide +kernel
theorem dX11_joined_138 : decode cX11_joined 138 = .ok (.iload 5, 2) := by decide +kernel
theorem dX11_joined_140 : decode cX11_joined 140 = .ok (.imul, 1) := by decide +kernel
theorem dX11_joined_141 : decode cX11_joined 141 = .ok (.iadd, 1) := by decide +kernel
theorem dX11_joined_142 : decode cX11_joined 142 = .ok (.iconst 1, 1) := by decide +kernel
theorem dX11_joined_143 : decode cX11_joined 143 = .ok (.iadd, 1) := by decide +kernel
theorem dX11_joined_144 : decode cX11_joined 144 = .ok (.iaload, 1) := by decide +kernel
theorem dX11_joined_145 : decode cX11_joined 145 = .ok (.iload_n 1, 1) := by decide +kernel
theorem dX11_joined_146 : decode cX11_joined 146 = .ok (.if_icmp .ne 52, 3) := by decide +kernel
theorem dX11_joined_149 : decode cX11_joined 149 = .ok (.aload_n 0, 1) := by decide +kernel
theorem dX11_joined_150 : decode cX11_joined 150 = .ok (.getfield 7, 3) := by decide +kernel
theorem dX11_joined_153 : decode cX11_joined 153 = .ok (.sipush 642, 3) := by decide +kernel
theorem dX11_joined_156 : decode cX11_joined 156 = .ok (.iconst 5, 1) := by decide +kernel
theorem dX11_joined_157 : decode cX11_joined 157 = .ok (.iload 5, 2) := by decide +kernel
theorem dX11_joined_159 : decode cX11_joined 159 = .ok (.imul, 1) := by decide +kernel
theorem dX11_joined_160 : decode cX11_joined 160 = .ok (.iadd, 1) := by decide +kernel
theorem dX11_joined_161 : decode cX11_joined 161 = .ok (.iconst 4, 1) := by decide +kernel
theorem dX11_joined_162 : decode cX11_joined 162 = .ok (.iadd, 1) := by decide +kernel
theorem dX11_joined_163 : decode cX11_joined 163 = .ok (.iaload, 1) := by decide +kernel
theorem dX11_joined_164 : decode cX11_joined 164 = .ok (.iconst (-1), 1) := by decide +kernel
theorem dX11_joined_165 : decode cX11_joined 165 = .ok (.if_icmp .ne 33, 3) := by decide +kernel
theorem dX11_joined_168 : decode cX11_joined 168 = .ok (.iload 5, 2) := by decide +kernel
theorem dX11_joined_170 : decode cX11_joined 170 = .ok (.iload_n 3, 1) := by decide +kernel
theorem dX11_joined_171 : decode cX11_joined 171 = .ok (.if_icmp .ne 6, 3) := by decide +kernel
theorem dX11_joined_174 : decode cX11_joined 174 = .ok (.goto 24, 3) := by decide +kernel
theorem dX11_joined_177 : decode cX11_joined 177 = .ok (.iload 4, 2) := by decide +kernel
theorem dX11_joined_179 : decode cX11_joined 179 = .ok (.aload_n 0, 1) := by decide +kernel
theorem dX11_joined_180 : decode cX11_joined 180 = .ok (.iload 5, 2) := by decide +kernel
theorem dX11_joined_182 : decode cX11_joined 182 = .ok (.invokevirtual 198, 3) := by decide +kernel
theorem dX11_joined_185 : decode cX11_joined 185 = .ok (.aload_n 0, 1) := by decide +kernel
theorem dX11_joined_186 : decode cX11_joined 186 = .ok (.getfield 7, 3) := by decide +kernel
theorem dX11_joined_189 : decode cX11_joined 189 = .ok (.iconst 5, 1) := by decide +kernel
theorem dX11_joined_190 : decode cX11_joined 190 = .ok (.iaload, 1) := by decide +kernel
theorem dX11_joined_191 : decode cX11_joined 191 = .ok (.imul, 1) := by decide +kernel
theorem dX11_joined_192 : decode cX11_joined 192 = .ok (.bipush 100, 2) := by decide +kernel
theorem dX11_joined_194 : decode cX11_joined 194 = .ok (.idiv, 1) := by decide +kernel
theorem dX11_joined_195 : decode cX11_joined 195 = .ok (.iadd, 1) := by decide +kernel
theorem dX11_joined_196 : decode cX11_joined 196 = .ok (.istore 4, 2) := by decide +kernel
theorem dX11_joined_198 : decode cX11_joined 198 = .ok (.iinc 5 1, 3) := by decide +kernel
theorem dX11_joined_201 : decode cX11_joined 201 = .ok (.goto (-83), 3) := by decide +kernel
theorem dX11_joined_204 : decode cX11_joined 204 = .ok (.iload 4, 2) := by decide +kernel
theorem dX11_joined_206 : decode cX11_joined 206 = .ok (.aload_n 0, 1) := by decide +kernel
theorem dX11_joined_207 : decode cX11_joined 207 = .ok (.getfield 7, 3) := by decide +kernel
theorem dX11_joined_210 : decode cX11_joined 210 = .ok (.bipush 6, 2) := by decide +kernel
theorem dX11_joined_212 : decode cX11_joined 212 = .ok (.iaload, 1) := by decide +kernel
theorem dX11_joined_213 : decode cX11_joined 213 = .ok (.invokestatic 195, 3) := by decide +kernel
theorem dX11_joined_216 : decode cX11_joined 216 = .ok (.ireturn, 1) := by decide +kernel
theorem dX11_judge_0 : decode cX11_judge 0 = .ok (.aload_n 0, 1) := by decide +kernel
theorem dX11_judge_1 : decode cX11_judge 1 = .ok (.iload_n 1, 1) := by decide +kernel
theorem dX11_judge_2 : decode cX11_judge 2 = .ok (.invokevirtual 62, 3) := by decide +kernel
theorem dX11_judge_5 : decode cX11_judge 5 = .ok (.ifCond .ne 6, 3) := by decide +kernel
theorem dX11_judge_8 : decode cX11_judge 8 = .ok (.ldc 60, 2) := by decide +kernel
theorem dX11_judge_10 : decode cX11_judge 10 = .ok (.ireturn, 1) := by decide +kernel
theorem dX11_judge_11 : decode cX11_judge 11 = .ok (.aload_n 0, 1) := by decide +kernel
theorem dX11_judge_12 : decode cX11_judge 12 = .ok (.getfield 7, 3) := by decide +kernel
theorem dX11_judge_15 : decode cX11_judge 15 = .ok (.bipush 21, 2) := by decide +kernel
theorem dX11_judge_17 : decode cX11_judge 17 = .ok (.iaload, 1) := by decide +kernel
theorem dX11_judge_18 : decode cX11_judge 18 = .ok (.ifCond .ne 6, 3) := by decide +kernel
theorem dX11_judge_21 : decode cX11_judge 21 = .ok (.ldc 69, 2) := by decide +kernel
theorem dX11_judge_23 : decode cX11_judge 23 = .ok (.ireturn, 1) := by decide +kernel
theorem dX11_judge_24 : decode cX11_judge 24 = .ok (.aload_n 0, 1) := by decide +kernel
theorem dX11_judge_25 : decode cX11_judge 25 = .ok (.iload_n 1, 1) := by decide +kernel
theorem dX11_judge_26 : decode cX11_judge 26 = .ok (.invokevirtual 204, 3) := by decide +kernel
theorem dX11_judge_29 : decode cX11_judge 29 = .ok (.istore_n 2, 1) := by decide +kernel
theorem dX11_judge_30 : decode cX11_judge 30 = .ok (.iload_n 2, 1) := by decide +kernel
theorem dX11_judge_31 : decode cX11_judge 31 = .ok (.iconst (-1), 1) := by decide +kernel
theorem dX11_judge_32 : decode cX11_judge 32 = .ok (.if_icmp .ne 6, 3) := by decide +kernel
theorem dX11_judge_35 : decode cX11_judge 35 = .ok (.ldc 69, 2) := by decide +kernel
theorem dX11_judge_37 : decode cX11_judge 37 = .ok (.ireturn, 1) := by decide +kernel
theorem dX11_judge_38 : decode cX11_judge 38 = .ok (.aload_n 0, 1) := by decide +kernel
theorem dX11_judge_39 : decode cX11_judge 39 = .ok (.getfield 7, 3) := by decide +kernel
theorem dX11_judge_42 : decode cX11_judge 42 = .ok (.bipush 20, 2) := by decide +kernel
theorem dX11_judge_44 : decode cX11_judge 44 = .ok (.iaload, 1) := by decide +kernel
theorem dX11_judge_45 : decode cX11_judge 45 = .ok (.bipush 16, 2) := by decide +kernel
theorem dX11_judge_47 : decode cX11_judge 47 = .ok (.if_icmp .ne 6, 3) := by decide +kernel
theorem dX11_judge_50 : decode cX11_judge 50 = .ok (.ldc 61, 2) := by decide +kernel
theorem dX11_judge_52 : decode cX11_judge 52 = .ok (.ireturn, 1) := by decide +kernel
theorem dX11_judge_53 : decode cX11_judge 53 = .ok (.aload_n 0, 1) := by decide +kernel
theorem dX11_judge_54 : decode cX11_judge 54 = .ok (.getfield 7, 3) := by decide +kernel
theorem dX11_judge_57 : decode cX11_judge 57 = .ok (.bipush 20, 2) := by decide +kernel
theorem dX11_judge_59 : decode cX11_judge 59 = .ok (.iaload, 1) := by decide +kernel
theorem dX11_judge_60 : decode cX11_judge 60 = .ok (.istore_n 3, 1) := by decide +kernel
theorem dX11_judge_61 : decode cX11_judge 61 = .ok (.sipush 792, 3) := by decide +kernel
theorem dX11_judge_64 : decode cX11_judge 64 = .ok (.bipush 10, 2) := by decide +kernel
theorem dX11_judge_66 : decode cX11_judge 66 = .ok (.iload_n 3, 1) := by decide +kernel
theorem dX11_judge_67 : decode cX11_judge 67 = .ok (.imul, 1) := by decide +kernel
theorem dX11_judge_68 : decode cX11_judge 68 = .ok (.iadd, 1) := by decide +kernel
theorem dX11_judge_69 : decode cX11_judge 69 = .ok (.istore 4, 2) := by decide +kernel
theorem dX11_judge_71 : decode cX11_judge 71 = .ok (.iconst 0, 1) := by decide +kernel
theorem dX11_judge_72 : decode cX11_judge 72 = .ok (.istore 5, 2) := by decide +kernel
theorem dX11_judge_74 : decode cX11_judge 74 = .ok (.iload 5, 2) := by decide +kernel
theorem dX11_judge_76 : decode cX11_judge 76 = .ok (.bipush 10, 2) := by decide +kernel
theorem dX11_judge_78 : decode cX11_judge 78 = .ok (.if_icmp .ge 20, 3) := by decide +kernel
theorem dX11_judge_81 : decode cX11_judge 81 = .ok (.aload_n 0, 1) := by decide +kernel
theorem dX11_judge_82 : decode cX11_judge 82 = .ok (.getfield 7, 3) := by decide +kernel
theorem dX11_judge_85 : decode cX11_judge 85 = .ok (.iload 4, 2) := by decide +kernel
theorem dX11_judge_87 : decode cX11_judge 87 = .ok (.iload 5, 2) := by decide +kernel
theorem dX11_judge_89 : decode cX11_judge 89 = .ok (.iadd, 1) := by decide +kernel
theorem dX11_judge_90 : decode cX11_judge 90 = .ok (.iconst 0, 1) := by decide +kernel
theorem dX11_judge_91 : decode cX11_judge 91 = .ok (.iastore, 1) := by decide +kernel
theorem dX11_judge_92 : decode cX11_judge 92 = .ok (.iinc 5 1, 3) := by decide +kernel
theorem dX11_judge_95 : decode cX11_judge 95 = .ok (.goto (-21), 3) := by decide +kernel
theorem dX11_judge_98 : decode cX11_judge 98 = .ok (.iload_n 2, 1) := by decide +kernel
theorem dX11_judge_99 : decode cX11_judge 99 = .ok (.aload_n 0, 1) := by decide +kernel
theorem dX11_judge_100 : decode cX11_judge 100 = .ok (.getfield 7, 3) := by decide +kernel
theorem dX11_judge_103 : decode cX11_judge 103 = .ok (.bipush 30, 2) := by decide +kernel
theorem dX11_judge_105 : decode cX11_judge 105 = .ok (.iconst 3, 1) := by decide +kernel
theorem dX11_judge_106 : decode cX11_judge 106 = .ok (.iload_n 1, 1) := by decide +kernel
theorem dX11_judge_107 : decode cX11_judge 107 = .ok (.imul, 1) := by decide +kernel
theorem dX11_judge_108 : decode cX11_judge 108 = .ok (.iadd, 1) := by decide +kernel
theorem dX11_judge_109 : decode cX11_judge 109 = .ok (.iconst 2, 1) := by decide +kernel
theorem dX11_judge_110 : decode cX11_judge 110 = .ok (.iadd, 1) := by decide +kernel
theorem dX11_judge_111 : decode cX11_judge 111 = .ok (.iaload, 1) := by decide +kernel
theorem dX11_judge_112 : decode cX11_judge 112 = .ok (.invokestatic 195, 3) := by decide +kernel
theorem dX11_judge_115 : decode cX11_judge 115 = .ok (.istore 5, 2) := by decide +kernel
theorem dX11_judge_117 : decode cX11_judge 117 = .ok (.aload_n 0, 1) := by decide +kernel
theorem dX11_judge_118 : decode cX11_judge 118 = .ok (.getfield 7, 3) := by decide +kernel
theorem dX11_judge_121 : decode cX11_judge 121 = .ok (.bipush 30, 2) := by decide +kernel
theorem dX11_judge_123 : decode cX11_judge 123 = .ok (.iconst 3, 1) := by decide +kernel
theorem dX11_judge_124 : decode cX11_judge 124 = .ok (.iload_n 1, 1) := by decide +kernel
theorem dX11_judge_125 : decode cX11_judge 125 = .ok (.imul, 1) := by decide +kernel
theorem dX11_judge_126 : decode cX11_judge 126 = .ok (.iadd, 1) := by decide +kernel
theorem dX11_judge_127 : decode cX11_judge 127 = .ok (.iconst 2, 1) := by decide +kernel
theorem dX11_judge_128 : decode cX11_judge 128 = .ok (.iadd, 1) := by decide +kernel
theorem dX11_judge_129 : decode cX11_judge 129 = .ok (.dup2, 1) := by decide +kernel
theorem dX11_judge_130 : decode cX11_judge 130 = .ok (.iaload, 1) := by decide +kernel
theorem dX11_judge_131 : decode cX11_judge 131 = .ok (.iload 5, 2) := by decide +kernel
theorem dX11_judge_133 : decode cX11_judge 133 = .ok (.isub, 1) := by decide +kernel
theorem dX11_judge_134 : decode cX11_judge 134 = .ok (.iastore, 1) := by decide +kernel
theorem dX11_judge_135 : decode cX11_judge 135 = .ok (.aload_n 0, 1) := by decide +kernel
theorem dX11_judge_136 : decode cX11_judge 136 = .ok (.getfield 7, 3) := by decide +kernel
theorem dX11_judge_139 : decode cX11_judge 139 = .ok (.iload 4, 2) := by decide +kernel
theorem dX11_judge_141 : decode cX11_judge 141 = .ok (.iconst 0, 1) := by decide +kernel
theorem dX11_judge_142 : decode cX11_judge 142 = .ok (.iadd, 1) := by decide +kernel
theorem dX11_judge_143 : decode cX11_judge 143 = .ok (.iload_n 1, 1) := by decide +kernel
theorem dX11_judge_144 : decode cX11_judge 144 = .ok (.iastore, 1) := by decide +kernel
theorem dX11_judge_145 : decode cX11_judge 145 = .ok (.aload_n 0, 1) := by decide +kernel
theorem dX11_judge_146 : decode cX11_judge 146 = .ok (.getfield 7, 3) := by decide +kernel
theorem dX11_judge_149 : decode cX11_judge 149 = .ok (.iload 4, 2) := by decide +kernel
theorem dX11_judge_151 : decode cX11_judge 151 = .ok (.iconst 1, 1) := by decide +kernel
theorem dX11_judge_152 : decode cX11_judge 152 = .ok (.iadd, 1) := by decide +kernel
theorem dX11_judge_153 : decode cX11_judge 153 = .ok (.aload_n 0, 1) := by decide +kernel
theorem dX11_judge_154 : decode cX11_judge 154 = .ok (.getfield 7, 3) := by decide +kernel
theorem dX11_judge_157 : decode cX11_judge 157 = .ok (.iconst 0, 1) := by decide +kernel
theorem dX11_judge_158 : decode cX11_judge 158 = .ok (.iaload, 1) := by decide +kernel
theorem dX11_judge_159 : decode cX11_judge 159 = .ok (.iastore, 1) := by decide +kernel
theorem dX11_judge_160 : decode cX11_judge 160 = .ok (.aload_n 0, 1) := by decide +kernel
theorem dX11_judge_161 : decode cX11_judge 161 = .ok (.getfield 7, 3) := by decide +kernel
theorem dX11_judge_164 : decode cX11_judge 164 = .ok (.iload 4, 2) := by decide +kernel
theorem dX11_judge_166 : decode cX11_judge 166 = .ok (.iconst 2, 1) := by decide +kernel
theorem dX11_judge_167 : decode cX11_judge 167 = .ok (.iadd, 1) := by decide +kernel
theorem dX11_judge_168 : decode cX11_judge 168 = .ok (.iload_n 2, 1) := by decide +kernel
theorem dX11_judge_169 : decode cX11_judge 169 = .ok (.iload 5, 2) := by decide +kernel
theorem dX11_judge_171 : decode cX11_judge 171 = .ok (.isub, 1) := by decide +kernel
theorem dX11_judge_172 : decode cX11_judge 172 = .ok (.iastore, 1) := by decide +kernel
theorem dX11_judge_173 : decode cX11_judge 173 = .ok (.aload_n 0, 1) := by decide +kernel
theorem dX11_judge_174 : decode cX11_judge 174 = .ok (.getfield 7, 3) := by decide +kernel
theorem dX11_judge_177 : decode cX11_judge 177 = .ok (.iload 4, 2) := by decide +kernel
theorem dX11_judge_179 : decode cX11_judge 179 = .ok (.iconst 3, 1) := by decide +kernel
theorem dX11_judge_180 : decode cX11_judge 180 = .ok (.iadd, 1) := by decide +kernel
theorem dX11_judge_181 : decode cX11_judge 181 = .ok (.aload_n 0, 1) := by decide +kernel
theorem dX11_judge_182 : decode cX11_judge 182 = .ok (.iload_n 1, 1) := by decide +kernel
theorem dX11_judge_183 : decode cX11_judge 183 = .ok (.aload_n 0, 1) := by decide +kernel
theorem dX11_judge_184 : decode cX11_judge 184 = .ok (.getfield 7, 3) := by decide +kernel
theorem dX11_judge_187 : decode cX11_judge 187 = .ok (.iconst 0, 1) := by decide +kernel
theorem dX11_judge_188 : decode cX11_judge 188 = .ok (.iaload, 1) := by decide +kernel
theorem dX11_judge_189 : decode cX11_judge 189 = .ok (.aload_n 0, 1) := by decide +kernel
theorem dX11_judge_190 : decode cX11_judge 190 = .ok (.getfield 7, 3) := by decide +kernel
theorem dX11_judge_193 : decode cX11_judge 193 = .ok (.iconst 0, 1) := by decide +kernel
theorem dX11_judge_194 : decode cX11_judge 194 = .ok (.iaload, 1) := by decide +kernel
theorem dX11_judge_195 : decode cX11_judge 195 = .ok (.invokevirtual 201, 3) := by decide +kernel
theorem dX11_judge_198 : decode cX11_judge 198 = .ok (.iastore, 1) := by decide +kernel
theorem dX11_judge_199 : decode cX11_judge 199 = .ok (.aload_n 0, 1) := by decide +kernel
theorem dX11_judge_200 : decode cX11_judge 200 = .ok (.getfield 7, 3) := by decide +kernel
theorem dX11_judge_203 : decode cX11_judge 203 = .ok (.iload 4, 2) := by decide +kernel
theorem dX11_judge_205 : decode cX11_judge 205 = .ok (.bipush 6, 2) := by decide +kernel
theorem dX11_judge_207 : decode cX11_judge 207 = .ok (.iadd, 1) := by decide +kernel
theorem dX11_judge_208 : decode cX11_judge 208 = .ok (.aload_n 0, 1) := by decide +kernel
theorem dX11_judge_209 : decode cX11_judge 209 = .ok (.getfield 7, 3) := by decide +kernel
theorem dX11_judge_212 : decode cX11_judge 212 = .ok (.iconst 0, 1) := by decide +kernel
theorem dX11_judge_213 : decode cX11_judge 213 = .ok (.iaload, 1) := by decide +kernel
theorem dX11_judge_214 : decode cX11_judge 214 = .ok (.iastore, 1) := by decide +kernel
theorem dX11_judge_215 : decode cX11_judge 215 = .ok (.iconst 0, 1) := by decide +kernel
theorem dX11_judge_216 : decode cX11_judge 216 = .ok (.istore 6, 2) := by decide +kernel
theorem dX11_judge_218 : decode cX11_judge 218 = .ok (.iload 6, 2) := by decide +kernel
theorem dX11_judge_220 : decode cX11_judge 220 = .ok (.aload_n 0, 1) := by decide +kernel
theorem dX11_judge_221 : decode cX11_judge 221 = .ok (.getfield 7, 3) := by decide +kernel
theorem dX11_judge_224 : decode cX11_judge 224 = .ok (.bipush 19, 2) := by decide +kernel
theorem dX11_judge_226 : decode cX11_judge 226 = .ok (.iaload, 1) := by decide +kernel
theorem dX11_judge_227 : decode cX11_judge 227 = .ok (.if_icmp .ge 63, 3) := by decide +kernel
theorem dX11_judge_230 : decode cX11_judge 230 = .ok (.aload_n 0, 1) := by decide +kernel
theorem dX11_judge_231 : decode cX11_judge 231 = .ok (.getfield 7, 3) := by decide +kernel
theorem dX11_judge_234 : decode cX11_judge 234 = .ok (.sipush 642, 3) := by decide +kernel
theorem dX11_judge_237 : decode cX11_judge 237 = .ok (.iconst 5, 1) := by decide +kernel
theorem dX11_judge_238 : decode cX11_judge 238 = .ok (.iload 6, 2) := by decide +kernel
theorem dX11_judge_240 : decode cX11_judge 240 = .ok (.imul, 1) := by decide +kernel
theorem dX11_judge_241 : decode cX11_judge 241 = .ok (.iadd, 1) := by decide +kernel
theorem dX11_judge_242 : decode cX11_judge 242 = .ok (.iconst 1, 1) := by decide +kernel
theorem dX11_judge_243 : decode cX11_judge 243 = .ok (.iadd, 1) := by decide +kernel
theorem dX11_judge_244 : decode cX11_judge 244 = .ok (.iaload, 1) := by decide +kernel
theorem dX11_judge_245 : decode cX11_judge 245 = .ok (.iload_n 1, 1) := by decide +kernel
theorem dX11_judge_246 : decode cX11_judge 246 = .ok (.if_icmp .ne 38, 3) := by decide +kernel
theorem dX11_judge_249 : decode cX11_judge 249 = .ok (.aload_n 0, 1) := by decide +kernel
theorem dX11_judge_250 : decode cX11_judge 250 = .ok (.getfield 7, 3) := by decide +kernel
theorem dX11_judge_253 : decode cX11_judge 253 = .ok (.sipush 642, 3) := by decide +kernel
theorem dX11_judge_256 : decode cX11_judge 256 = .ok (.iconst 5, 1) := by decide +kernel
theorem dX11_judge_257 : decode cX11_judge 257 = .ok (.iload 6, 2) := by decide +kernel
theorem dX11_judge_259 : decode cX11_judge 259 = .ok (.imul, 1) := by decide +kernel
theorem dX11_judge_260 : decode cX11_judge 260 = .ok (.iadd, 1) := by decide +kernel
theorem dX11_judge_261 : decode cX11_judge 261 = .ok (.iconst 4, 1) := by decide +kernel
theorem dX11_judge_262 : decode cX11_judge 262 = .ok (.iadd, 1) := by decide +kernel
theorem dX11_judge_263 : decode cX11_judge 263 = .ok (.iaload, 1) := by decide +kernel
theorem dX11_judge_264 : decode cX11_judge 264 = .ok (.iconst (-1), 1) := by decide +kernel
theorem dX11_judge_265 : decode cX11_judge 265 = .ok (.if_icmp .ne 19, 3) := by decide +kernel
theorem dX11_judge_268 : decode cX11_judge 268 = .ok (.aload_n 0, 1) := by decide +kernel
theorem dX11_judge_269 : decode cX11_judge 269 = .ok (.getfield 7, 3) := by decide +kernel
theorem dX11_judge_272 : decode cX11_judge 272 = .ok (.sipush 642, 3) := by decide +kernel
theorem dX11_judge_275 : decode cX11_judge 275 = .ok (.iconst 5, 1) := by decide +kernel
theorem dX11_judge_276 : decode cX11_judge 276 = .ok (.iload 6, 2) := by decide +kernel
theorem dX11_judge_278 : decode cX11_judge 278 = .ok (.imul, 1) := by decide +kernel
theorem dX11_judge_279 : decode cX11_judge 279 = .ok (.iadd, 1) := by decide +kernel
theorem dX11_judge_280 : decode cX11_judge 280 = .ok (.iconst 4, 1) := by decide +kernel
theorem dX11_judge_281 : decode cX11_judge 281 = .ok (.iadd, 1) := by decide +kernel
theorem dX11_judge_282 : decode cX11_judge 282 = .ok (.iload_n 3, 1) := by decide +kernel
theorem dX11_judge_283 : decode cX11_judge 283 = .ok (.iastore, 1) := by decide +kernel
theorem dX11_judge_284 : decode cX11_judge 284 = .ok (.iinc 6 1, 3) := by decide +kernel
theorem dX11_judge_287 : decode cX11_judge 287 = .ok (.goto (-69), 3) := by decide +kernel
theorem dX11_judge_290 : decode cX11_judge 290 = .ok (.aload_n 0, 1) := by decide +kernel
theorem dX11_judge_291 : decode cX11_judge 291 = .ok (.getfield 7, 3) := by decide +kernel
theorem dX11_judge_294 : decode cX11_judge 294 = .ok (.bipush 20, 2) := by decide +kernel
theorem dX11_judge_296 : decode cX11_judge 296 = .ok (.dup2, 1) := by decide +kernel
theorem dX11_judge_297 : decode cX11_judge 297 = .ok (.iaload, 1) := by decide +kernel
theorem dX11_judge_298 : decode cX11_judge 298 = .ok (.iconst 1, 1) := by decide +kernel
theorem dX11_judge_299 : decode cX11_judge 299 = .ok (.iadd, 1) := by decide +kernel
theorem dX11_judge_300 : decode cX11_judge 300 = .ok (.iastore, 1) := by decide +kernel
theorem dX11_judge_301 : decode cX11_judge 301 = .ok (.iload_n 3, 1) := by decide +kernel
theorem dX11_judge_302 : decode cX11_judge 302 = .ok (.ireturn, 1) := by decide +kernel
theorem dX11_fine_0 : decode cX11_fine 0 = .ok (.aload_n 0, 1) := by decide +kernel
theorem dX11_fine_1 : decode cX11_fine 1 = .ok (.getfield 7, 3) := by decide +kernel
theorem dX11_fine_4 : decode cX11_fine 4 = .ok (.sipush 792, 3) := by decide +kernel
theorem dX11_fine_7 : decode cX11_fine 7 = .ok (.bipush 10, 2) := by decide +kernel
theorem dX11_fine_9 : decode cX11_fine 9 = .ok (.iload_n 1, 1) := by decide +kernel
theorem dX11_fine_10 : decode cX11_fine 10 = .ok (.imul, 1) := by decide +kernel
theorem dX11_fine_11 : decode cX11_fine 11 = .ok (.iadd, 1) := by decide +kernel
theorem dX11_fine_12 : decode cX11_fine 12 = .ok (.iconst 2, 1) := by decide +kernel
theorem dX11_fine_13 : decode cX11_fine 13 = .ok (.iadd, 1) := by decide +kernel
theorem dX11_fine_14 : decode cX11_fine 14 = .ok (.iaload, 1) := by decide +kernel
theorem dX11_fine_15 : decode cX11_fine 15 = .ok (.aload_n 0, 1) := by decide +kernel
theorem dX11_fine_16 : decode cX11_fine 16 = .ok (.getfield 7, 3) := by decide +kernel
theorem dX11_fine_19 : decode cX11_fine 19 = .ok (.sipush 792, 3) := by decide +kernel
theorem dX11_fine_22 : decode cX11_fine 22 = .ok (.bipush 10, 2) := by decide +kernel
theorem dX11_fine_24 : decode cX11_fine 24 = .ok (.iload_n 1, 1) := by decide +kernel
theorem dX11_fine_25 : decode cX11_fine 25 = .ok (.imul, 1) := by decide +kernel
theorem dX11_fine_26 : decode cX11_fine 26 = .ok (.iadd, 1) := by decide +kernel
theorem dX11_fine_27 : decode cX11_fine 27 = .ok (.iconst 3, 1) := by decide +kernel
theorem dX11_fine_28 : decode cX11_fine 28 = .ok (.iadd, 1) := by decide +kernel
theorem dX11_fine_29 : decode cX11_fine 29 = .ok (.iaload, 1) := by decide +kernel
theorem dX11_fine_30 : decode cX11_fine 30 = .ok (.imul, 1) := by decide +kernel
theorem dX11_fine_31 : decode cX11_fine 31 = .ok (.ireturn, 1) := by decide +kernel
theorem dX11_unpaid_0 : decode cX11_unpaid 0 = .ok (.iconst 0, 1) := by decide +kernel
theorem dX11_unpaid_1 : decode cX11_unpaid 1 = .ok (.aload_n 0, 1) := by decide +kernel
theorem dX11_unpaid_2 : decode cX11_unpaid 2 = .ok (.iload_n 1, 1) := by decide +kernel
theorem dX11_unpaid_3 : decode cX11_unpaid 3 = .ok (.invokevirtual 207, 3) := by decide +kernel
theorem dX11_unpaid_6 : decode cX11_unpaid 6 = .ok (.aload_n 0, 1) := by decide +kernel
theorem dX11_unpaid_7 : decode cX11_unpaid 7 = .ok (.getfield 7, 3) := by decide +kernel
theorem dX11_unpaid_10 : decode cX11_unpaid 10 = .ok (.sipush 792, 3) := by decide +kernel
theorem dX11_unpaid_13 : decode cX11_unpaid 13 = .ok (.bipush 10, 2) := by decide +kernel
theorem dX11_unpaid_15 : decode cX11_unpaid 15 = .ok (.iload_n 1, 1) := by decide +kernel
theorem dX11_unpaid_16 : decode cX11_unpaid 16 = .ok (.imul, 1) := by decide +kernel
theorem dX11_unpaid_17 : decode cX11_unpaid 17 = .ok (.iadd, 1) := by decide +kernel
theorem dX11_unpaid_18 : decode cX11_unpaid 18 = .ok (.iconst 4, 1) := by decide +kernel
theorem dX11_unpaid_19 : decode cX11_unpaid 19 = .ok (.iadd, 1) := by decide +kernel
theorem dX11_unpaid_20 : decode cX11_unpaid 20 = .ok (.iaload, 1) := by decide +kernel
theorem dX11_unpaid_21 : decode cX11_unpaid 21 = .ok (.isub, 1) := by decide +kernel
theorem dX11_unpaid_22 : decode cX11_unpaid 22 = .ok (.invokestatic 75, 3) := by decide +kernel
theorem dX11_unpaid_25 : decode cX11_unpaid 25 = .ok (.ireturn, 1) := by decide +kernel
theorem dX11_unpaidDays_0 : decode cX11_unpaidDays 0 = .ok (.aload_n 0, 1) := by decide +kernel
theorem dX11_unpaidDays_1 : decode cX11_unpaidDays 1 = .ok (.getfield 7, 3) := by decide +kernel
theorem dX11_unpaidDays_4 : decode cX11_unpaidDays 4 = .ok (.sipush 792, 3) := by decide +kernel
theorem dX11_unpaidDays_7 : decode cX11_unpaidDays 7 = .ok (.bipush 10, 2) := by decide +kernel
theorem dX11_unpaidDays_9 : decode cX11_unpaidDays 9 = .ok (.iload_n 1, 1) := by decide +kernel
theorem dX11_unpaidDays_10 : decode cX11_unpaidDays 10 = .ok (.imul, 1) := by decide +kernel
theorem dX11_unpaidDays_11 : decode cX11_unpaidDays 11 = .ok (.iadd, 1) := by decide +kernel
theorem dX11_unpaidDays_12 : decode cX11_unpaidDays 12 = .ok (.iconst 3, 1) := by decide +kernel
theorem dX11_unpaidDays_13 : decode cX11_unpaidDays 13 = .ok (.iadd, 1) := by decide +kernel
theorem dX11_unpaidDays_14 : decode cX11_unpaidDays 14 = .ok (.iaload, 1) := by decide +kernel
theorem dX11_unpaidDays_15 : decode cX11_unpaidDays 15 = .ok (.istore_n 2, 1) := by decide +kernel
theorem dX11_unpaidDays_16 : decode cX11_unpaidDays 16 = .ok (.iload_n 2, 1) := by decide +kernel
theorem dX11_unpaidDays_17 : decode cX11_unpaidDays 17 = .ok (.ifCond .ne 7, 3) := by decide +kernel
theorem dX11_unpaidDays_20 : decode cX11_unpaidDays 20 = .ok (.iconst 0, 1) := by decide +kernel
theorem dX11_unpaidDays_21 : decode cX11_unpaidDays 21 = .ok (.goto 14, 3) := by decide +kernel
theorem dX11_unpaidDays_24 : decode cX11_unpaidDays 24 = .ok (.aload_n 0, 1) := by decide +kernel
theorem dX11_unpaidDays_25 : decode cX11_unpaidDays 25 = .ok (.iload_n 1, 1) := by decide +kernel
theorem dX11_unpaidDays_26 : decode cX11_unpaidDays 26 = .ok (.invokevirtual 210, 3) := by decide +kernel
theorem dX11_unpaidDays_29 : decode cX11_unpaidDays 29 = .ok (.iload_n 2, 1) := by decide +kernel
theorem dX11_unpaidDays_30 : decode cX11_unpaidDays 30 = .ok (.iadd, 1) := by decide +kernel
theorem dX11_unpaidDays_31 : decode cX11_unpaidDays 31 = .ok (.iconst 1, 1) := by decide +kernel
theorem dX11_unpaidDays_32 : decode cX11_unpaidDays 32 = .ok (.isub, 1) := by decide +kernel
theorem dX11_unpaidDays_33 : decode cX11_unpaidDays 33 = .ok (.iload_n 2, 1) := by decide +kernel
theorem dX11_unpaidDays_34 : decode cX11_unpaidDays 34 = .ok (.idiv, 1) := by decide +kernel
theorem dX11_unpaidDays_35 : decode cX11_unpaidDays 35 = .ok (.ireturn, 1) := by decide +kernel
theorem dX11_deedsOf_0 : decode cX11_deedsOf 0 = .ok (.iconst 0, 1) := by decide +kernel
theorem dX11_deedsOf_1 : decode cX11_deedsOf 1 = .ok (.istore_n 3, 1) := by decide +kernel
theorem dX11_deedsOf_2 : decode cX11_deedsOf 2 = .ok (.iconst 0, 1) := by decide +kernel
theorem dX11_deedsOf_3 : decode cX11_deedsOf 3 = .ok (.istore 4, 2) := by decide +kernel
theorem dX11_deedsOf_5 : decode cX11_deedsOf 5 = .ok (.iload 4, 2) := by decide +kernel
theorem dX11_deedsOf_7 : decode cX11_deedsOf 7 = .ok (.aload_n 0, 1) := by decide +kernel
theorem dX11_deedsOf_8 : decode cX11_deedsOf 8 = .ok (.getfield 7, 3) := by decide +kernel
theorem dX11_deedsOf_11 : decode cX11_deedsOf 11 = .ok (.bipush 19, 2) := by decide +kernel
theorem dX11_deedsOf_13 : decode cX11_deedsOf 13 = .ok (.iaload, 1) := by decide +kernel
theorem dX11_deedsOf_14 : decode cX11_deedsOf 14 = .ok (.if_icmp .ge 58, 3) := by decide +kernel
theorem dX11_deedsOf_17 : decode cX11_deedsOf 17 = .ok (.iload_n 3, 1) := by decide +kernel
theorem dX11_deedsOf_18 : decode cX11_deedsOf 18 = .ok (.aload_n 0, 1) := by decide +kernel
theorem dX11_deedsOf_19 : decode cX11_deedsOf 19 = .ok (.getfield 7, 3) := by decide +kernel
theorem dX11_deedsOf_22 : decode cX11_deedsOf 22 = .ok (.sipush 642, 3) := by decide +kernel
theorem dX11_deedsOf_25 : decode cX11_deedsOf 25 = .ok (.iconst 5, 1) := by decide +kernel
theorem dX11_deedsOf_26 : decode cX11_deedsOf 26 = .ok (.iload 4, 2) := by decide +kernel
theorem dX11_deedsOf_28 : decode cX11_deedsOf 28 = .ok (.imul, 1) := by decide +kernel
theorem dX11_deedsOf_29 : decode cX11_deedsOf 29 = .ok (.iadd, 1) := by decide +kernel
theorem dX11_deedsOf_30 : decode cX11_deedsOf 30 = .ok (.iconst 4, 1) := by decide +kernel
theorem dX11_deedsOf_31 : decode cX11_deedsOf 31 = .ok (.iadd, 1) := by decide +kernel
theorem dX11_deedsOf_32 : decode cX11_deedsOf 32 = .ok (.iaload, 1) := by decide +kernel
theorem dX11_deedsOf_33 : decode cX11_deedsOf 33 = .ok (.iload_n 1, 1) := by decide +kernel
theorem dX11_deedsOf_34 : decode cX11_deedsOf 34 = .ok (.if_icmp .ne 29, 3) := by decide +kernel
theorem dX11_deedsOf_37 : decode cX11_deedsOf 37 = .ok (.iload_n 2, 1) := by decide +kernel
theorem dX11_deedsOf_38 : decode cX11_deedsOf 38 = .ok (.iconst (-1), 1) := by decide +kernel
theorem dX11_deedsOf_39 : decode cX11_deedsOf 39 = .ok (.if_icmp .eq 20, 3) := by decide +kernel
theorem dX11_deedsOf_42 : decode cX11_deedsOf 42 = .ok (.aload_n 0, 1) := by decide +kernel
theorem dX11_deedsOf_43 : decode cX11_deedsOf 43 = .ok (.getfield 7, 3) := by decide +kernel
theorem dX11_deedsOf_46 : decode cX11_deedsOf 46 = .ok (.sipush 642, 3) := by decide +kernel
theorem dX11_deedsOf_49 : decode cX11_deedsOf 49 = .ok (.iconst 5, 1) := by decide +kernel
theorem dX11_deedsOf_50 : decode cX11_deedsOf 50 = .ok (.iload 4, 2) := by decide +kernel
theorem dX11_deedsOf_52 : decode cX11_deedsOf 52 = .ok (.imul, 1) := by decide +kernel
theorem dX11_deedsOf_53 : decode cX11_deedsOf 53 = .ok (.iadd, 1) := by decide +kernel
theorem dX11_deedsOf_54 : decode cX11_deedsOf 54 = .ok (.iaload, 1) := by decide +kernel
theorem dX11_deedsOf_55 : decode cX11_deedsOf 55 = .ok (.iload_n 2, 1) := by decide +kernel
theorem dX11_deedsOf_56 : decode cX11_deedsOf 56 = .ok (.if_icmp .ne 7, 3) := by decide +kernel
theorem dX11_deedsOf_59 : decode cX11_deedsOf 59 = .ok (.iconst 1, 1) := by decide +kernel
theorem dX11_deedsOf_60 : decode cX11_deedsOf 60 = .ok (.goto 4, 3) := by decide +kernel
theorem dX11_deedsOf_63 : decode cX11_deedsOf 63 = .ok (.iconst 0, 1) := by decide +kernel
theorem dX11_deedsOf_64 : decode cX11_deedsOf 64 = .ok (.iadd, 1) := by decide +kernel
theorem dX11_deedsOf_65 : decode cX11_deedsOf 65 = .ok (.istore_n 3, 1) := by decide +kernel
theorem dX11_deedsOf_66 : decode cX11_deedsOf 66 = .ok (.iinc 4 1, 3) := by decide +kernel
theorem dX11_deedsOf_69 : decode cX11_deedsOf 69 = .ok (.goto (-64), 3) := by decide +kernel
theorem dX11_deedsOf_72 : decode cX11_deedsOf 72 = .ok (.iload_n 3, 1) := by decide +kernel
theorem dX11_deedsOf_73 : decode cX11_deedsOf 73 = .ok (.ireturn, 1) := by decide +kernel
theorem dX11_flatOf_0 : decode cX11_flatOf 0 = .ok (.iconst 0, 1) := by decide +kernel
theorem dX11_flatOf_1 : decode cX11_flatOf 1 = .ok (.istore_n 2, 1) := by decide +kernel
theorem dX11_flatOf_2 : decode cX11_flatOf 2 = .ok (.iconst 0, 1) := by decide +kernel
theorem dX11_flatOf_3 : decode cX11_flatOf 3 = .ok (.istore_n 3, 1) := by decide +kernel
theorem dX11_flatOf_4 : decode cX11_flatOf 4 = .ok (.iload_n 3, 1) := by decide +kernel
theorem dX11_flatOf_5 : decode cX11_flatOf 5 = .ok (.iconst 4, 1) := by decide +kernel
theorem dX11_flatOf_6 : decode cX11_flatOf 6 = .ok (.if_icmp .ge 28, 3) := by decide +kernel
theorem dX11_flatOf_9 : decode cX11_flatOf 9 = .ok (.iload_n 2, 1) := by decide +kernel
theorem dX11_flatOf_10 : decode cX11_flatOf 10 = .ok (.aload_n 0, 1) := by decide +kernel
theorem dX11_flatOf_11 : decode cX11_flatOf 11 = .ok (.iload_n 1, 1) := by decide +kernel
theorem dX11_flatOf_12 : decode cX11_flatOf 12 = .ok (.iload_n 3, 1) := by decide +kernel
theorem dX11_flatOf_13 : decode cX11_flatOf 13 = .ok (.invokevirtual 213, 3) := by decide +kernel
theorem dX11_flatOf_16 : decode cX11_flatOf 16 = .ok (.aload_n 0, 1) := by decide +kernel
theorem dX11_flatOf_17 : decode cX11_flatOf 17 = .ok (.getfield 7, 3) := by decide +kernel
theorem dX11_flatOf_20 : decode cX11_flatOf 20 = .ok (.bipush 24, 2) := by decide +kernel
theorem dX11_flatOf_22 : decode cX11_flatOf 22 = .ok (.iload_n 3, 1) := by decide +kernel
theorem dX11_flatOf_23 : decode cX11_flatOf 23 = .ok (.iadd, 1) := by decide +kernel
theorem dX11_flatOf_24 : decode cX11_flatOf 24 = .ok (.iaload, 1) := by decide +kernel
theorem dX11_flatOf_25 : decode cX11_flatOf 25 = .ok (.imul, 1) := by decide +kernel
theorem dX11_flatOf_26 : decode cX11_flatOf 26 = .ok (.iadd, 1) := by decide +kernel
theorem dX11_flatOf_27 : decode cX11_flatOf 27 = .ok (.istore_n 2, 1) := by decide +kernel
theorem dX11_flatOf_28 : decode cX11_flatOf 28 = .ok (.iinc 3 1, 3) := by decide +kernel
theorem dX11_flatOf_31 : decode cX11_flatOf 31 = .ok (.goto (-27), 3) := by decide +kernel
theorem dX11_flatOf_34 : decode cX11_flatOf 34 = .ok (.iload_n 2, 1) := by decide +kernel
theorem dX11_flatOf_35 : decode cX11_flatOf 35 = .ok (.ireturn, 1) := by decide +kernel
theorem dX11_share_0 : decode cX11_share 0 = .ok (.aload_n 0, 1) := by decide +kernel
theorem dX11_share_1 : decode cX11_share 1 = .ok (.getfield 7, 3) := by decide +kernel
theorem dX11_share_4 : decode cX11_share 4 = .ok (.sipush 792, 3) := by decide +kernel
theorem dX11_share_7 : decode cX11_share 7 = .ok (.bipush 10, 2) := by decide +kernel
theorem dX11_share_9 : decode cX11_share 9 = .ok (.iload_n 1, 1) := by decide +kernel
theorem dX11_share_10 : decode cX11_share 10 = .ok (.imul, 1) := by decide +kernel
theorem dX11_share_11 : decode cX11_share 11 = .ok (.iadd, 1) := by decide +kernel
theorem dX11_share_12 : decode cX11_share 12 = .ok (.iaload, 1) := by decide +kernel
theorem dX11_share_13 : decode cX11_share 13 = .ok (.istore_n 3, 1) := by decide +kernel
theorem dX11_share_14 : decode cX11_share 14 = .ok (.aload_n 0, 1) := by decide +kernel
theorem dX11_share_15 : decode cX11_share 15 = .ok (.getfield 7, 3) := by decide +kernel
theorem dX11_share_18 : decode cX11_share 18 = .ok (.sipush 792, 3) := by decide +kernel
theorem dX11_share_21 : decode cX11_share 21 = .ok (.bipush 10, 2) := by decide +kernel
theorem dX11_share_23 : decode cX11_share 23 = .ok (.iload_n 1, 1) := by decide +kernel
theorem dX11_share_24 : decode cX11_share 24 = .ok (.imul, 1) := by decide +kernel
theorem dX11_share_25 : decode cX11_share 25 = .ok (.iadd, 1) := by decide +kernel
theorem dX11_share_26 : decode cX11_share 26 = .ok (.iconst 1, 1) := by decide +kernel
theorem dX11_share_27 : decode cX11_share 27 = .ok (.iadd, 1) := by decide +kernel
theorem dX11_share_28 : decode cX11_share 28 = .ok (.iaload, 1) := by decide +kernel
theorem dX11_share_29 : decode cX11_share 29 = .ok (.istore 4, 2) := by decide +kernel
theorem dX11_share_31 : decode cX11_share 31 = .ok (.ldc2_w 216, 3) := by decide +kernel
theorem dX11_share_34 : decode cX11_share 34 = .ok (.iload_n 2, 1) := by decide +kernel
theorem dX11_share_35 : decode cX11_share 35 = .ok (.i2l, 1) := by decide +kernel
theorem dX11_share_36 : decode cX11_share 36 = .ok (.lmul, 1) := by decide +kernel
theorem dX11_share_37 : decode cX11_share 37 = .ok (.iconst 1, 1) := by decide +kernel
theorem dX11_share_38 : decode cX11_share 38 = .ok (.aload_n 0, 1) := by decide +kernel
theorem dX11_share_39 : decode cX11_share 39 = .ok (.iload_n 3, 1) := by decide +kernel
theorem dX11_share_40 : decode cX11_share 40 = .ok (.iload 4, 2) := by decide +kernel
theorem dX11_share_42 : decode cX11_share 42 = .ok (.iload 4, 2) := by decide +kernel
theorem dX11_share_44 : decode cX11_share 44 = .ok (.invokevirtual 83, 3) := by decide +kernel
theorem dX11_share_47 : decode cX11_share 47 = .ok (.invokestatic 75, 3) := by decide +kernel
theorem dX11_share_50 : decode cX11_share 50 = .ok (.i2l, 1) := by decide +kernel
theorem dX11_share_51 : decode cX11_share 51 = .ok (.ldiv, 1) := by decide +kernel
theorem dX11_share_52 : decode cX11_share 52 = .ok (.lstore 5, 2) := by decide +kernel
theorem dX11_share_54 : decode cX11_share 54 = .ok (.lload 5, 2) := by decide +kernel
theorem dX11_share_56 : decode cX11_share 56 = .ok (.ldc2_w 218, 3) := by decide +kernel
theorem dX11_share_59 : decode cX11_share 59 = .ok (.lcmp, 1) := by decide +kernel
theorem dX11_share_60 : decode cX11_share 60 = .ok (.ifCond .le 8, 3) := by decide +kernel
theorem dX11_share_63 : decode cX11_share 63 = .ok (.ldc 220, 2) := by decide +kernel
theorem dX11_share_65 : decode cX11_share 65 = .ok (.goto 6, 3) := by decide +kernel
theorem dX11_share_68 : decode cX11_share 68 = .ok (.lload 5, 2) := by decide +kernel
theorem dX11_share_70 : decode cX11_share 70 = .ok (.l2i, 1) := by decide +kernel
theorem dX11_share_71 : decode cX11_share 71 = .ok (.ireturn, 1) := by decide +kernel
theorem dX11_about_0 : decode cX11_about 0 = .ok (.aload_n 0, 1) := by decide +kernel
theorem dX11_about_1 : decode cX11_about 1 = .ok (.iload_n 1, 1) := by decide +kernel
theorem dX11_about_2 : decode cX11_about 2 = .ok (.invokevirtual 221, 3) := by decide +kernel
theorem dX11_about_5 : decode cX11_about 5 = .ok (.ifCond .eq 13, 3) := by decide +kernel
theorem dX11_about_8 : decode cX11_about 8 = .ok (.iload_n 2, 1) := by decide +kernel
theorem dX11_about_9 : decode cX11_about 9 = .ok (.iconst 0, 1) := by decide +kernel
theorem dX11_about_10 : decode cX11_about 10 = .ok (.bipush 13, 2) := by decide +kernel
theorem dX11_about_12 : decode cX11_about 12 = .ok (.invokestatic 56, 3) := by decide +kernel
theorem dX11_about_15 : decode cX11_about 15 = .ok (.ifCond .ne 6, 3) := by decide +kernel
theorem dX11_about_18 : decode cX11_about 18 = .ok (.ldc 60, 2) := by decide +kernel
theorem dX11_about_20 : decode cX11_about 20 = .ok (.ireturn, 1) := by decide +kernel
theorem dX11_about_21 : decode cX11_about 21 = .ok (.sipush 792, 3) := by decide +kernel
theorem dX11_about_24 : decode cX11_about 24 = .ok (.bipush 10, 2) := by decide +kernel
theorem dX11_about_26 : decode cX11_about 26 = .ok (.iload_n 1, 1) := by decide +kernel
theorem dX11_about_27 : decode cX11_about 27 = .ok (.imul, 1) := by decide +kernel
theorem dX11_about_28 : decode cX11_about 28 = .ok (.iadd, 1) := by decide +kernel
theorem dX11_about_29 : decode cX11_about 29 = .ok (.istore_n 3, 1) := by decide +kernel
theorem dX11_about_30 : decode cX11_about 30 = .ok (.iload_n 2, 1) := by decide +kernel
theorem dX11_about_31 : decode cX11_about 31 = .ok (.tableswitch 174 0 12 #[65, 72, 81, 90, 99, 105, 114, 120, 126, 135, 145, 152, 163], 65) := by decide +kernel
theorem dX11_about_96 : decode cX11_about 96 = .ok (.aload_n 0, 1) := by decide +kernel
theorem dX11_about_97 : decode cX11_about 97 = .ok (.getfield 7, 3) := by decide +kernel
theorem dX11_about_100 : decode cX11_about 100 = .ok (.iload_n 3, 1) := by decide +kernel
theorem dX11_about_101 : decode cX11_about 101 = .ok (.iaload, 1) := by decide +kernel
theorem dX11_about_102 : decode cX11_about 102 = .ok (.ireturn, 1) := by decide +kernel
theorem dX11_about_103 : decode cX11_about 103 = .ok (.aload_n 0, 1) := by decide +kernel
theorem dX11_about_104 : decode cX11_about 104 = .ok (.getfield 7, 3) := by decide +kernel
theorem dX11_about_107 : decode cX11_about 107 = .ok (.iload_n 3, 1) := by decide +kernel
theorem dX11_about_108 : decode cX11_about 108 = .ok (.iconst 1, 1) := by decide +kernel
theorem dX11_about_109 : decode cX11_about 109 = .ok (.iadd, 1) := by decide +kernel
theorem dX11_about_110 : decode cX11_about 110 = .ok (.iaload, 1) := by decide +kernel
theorem dX11_about_111 : decode cX11_about 111 = .ok (.ireturn, 1) := by decide +kernel
theorem dX11_about_112 : decode cX11_about 112 = .ok (.aload_n 0, 1) := by decide +kernel
theorem dX11_about_113 : decode cX11_about 113 = .ok (.getfield 7, 3) := by decide +kernel
theorem dX11_about_116 : decode cX11_about 116 = .ok (.iload_n 3, 1) := by decide +kernel
theorem dX11_about_117 : decode cX11_about 117 = .ok (.iconst 2, 1) := by decide +kernel
theorem dX11_about_118 : decode cX11_about 118 = .ok (.iadd, 1) := by decide +kernel
theorem dX11_about_119 : decode cX11_about 119 = .ok (.iaload, 1) := by decide +kernel
theorem dX11_about_120 : decode cX11_about 120 = .ok (.ireturn, 1) := by decide +kernel
theorem dX11_about_121 : decode cX11_about 121 = .ok (.aload_n 0, 1) := by decide +kernel
theorem dX11_about_122 : decode cX11_about 122 = .ok (.getfield 7, 3) := by decide +kernel
theorem dX11_about_125 : decode cX11_about 125 = .ok (.iload_n 3, 1) := by decide +kernel
theorem dX11_about_126 : decode cX11_about 126 = .ok (.iconst 3, 1) := by decide +kernel
theorem dX11_about_127 : decode cX11_about 127 = .ok (.iadd, 1) := by decide +kernel
theorem dX11_about_128 : decode cX11_about 128 = .ok (.iaload, 1) := by decide +kernel
theorem dX11_about_129 : decode cX11_about 129 = .ok (.ireturn, 1) := by decide +kernel
theorem dX11_about_130 : decode cX11_about 130 = .ok (.aload_n 0, 1) := by decide +kernel
theorem dX11_about_131 : decode cX11_about 131 = .ok (.iload_n 1, 1) := by decide +kernel
theorem dX11_about_132 : decode cX11_about 132 = .ok (.invokevirtual 207, 3) := by decide +kernel
theorem dX11_about_135 : decode cX11_about 135 = .ok (.ireturn, 1) := by decide +kernel
theorem dX11_about_136 : decode cX11_about 136 = .ok (.aload_n 0, 1) := by decide +kernel
theorem dX11_about_137 : decode cX11_about 137 = .ok (.getfield 7, 3) := by decide +kernel
theorem dX11_about_140 : decode cX11_about 140 = .ok (.iload_n 3, 1) := by decide +kernel
theorem dX11_about_141 : decode cX11_about 141 = .ok (.iconst 4, 1) := by decide +kernel
theorem dX11_about_142 : decode cX11_about 142 = .ok (.iadd, 1) := by decide +kernel
theorem dX11_about_143 : decode cX11_about 143 = .ok (.iaload, 1) := by decide +kernel
theorem dX11_about_144 : decode cX11_about 144 = .ok (.ireturn, 1) := by decide +kernel
theorem dX11_about_145 : decode cX11_about 145 = .ok (.aload_n 0, 1) := by decide +kernel
theorem dX11_about_146 : decode cX11_about 146 = .ok (.iload_n 1, 1) := by decide +kernel
theorem dX11_about_147 : decode cX11_about 147 = .ok (.invokevirtual 210, 3) := by decide +kernel
theorem dX11_about_150 : decode cX11_about 150 = .ok (.ireturn, 1) := by decide +kernel
theorem dX11_about_151 : decode cX11_about 151 = .ok (.aload_n 0, 1) := by decide +kernel
theorem dX11_about_152 : decode cX11_about 152 = .ok (.iload_n 1, 1) := by decide +kernel
theorem dX11_about_153 : decode cX11_about 153 = .ok (.invokevirtual 224, 3) := by decide +kernel
theorem dX11_about_156 : decode cX11_about 156 = .ok (.ireturn, 1) := by decide +kernel
theorem dX11_about_157 : decode cX11_about 157 = .ok (.aload_n 0, 1) := by decide +kernel
theorem dX11_about_158 : decode cX11_about 158 = .ok (.getfield 7, 3) := by decide +kernel
theorem dX11_about_161 : decode cX11_about 161 = .ok (.iload_n 3, 1) := by decide +kernel
theorem dX11_about_162 : decode cX11_about 162 = .ok (.iconst 5, 1) := by decide +kernel
theorem dX11_about_163 : decode cX11_about 163 = .ok (.iadd, 1) := by decide +kernel
theorem dX11_about_164 : decode cX11_about 164 = .ok (.iaload, 1) := by decide +kernel
theorem dX11_about_165 : decode cX11_about 165 = .ok (.ireturn, 1) := by decide +kernel
theorem dX11_about_166 : decode cX11_about 166 = .ok (.aload_n 0, 1) := by decide +kernel
theorem dX11_about_167 : decode cX11_about 167 = .ok (.getfield 7, 3) := by decide +kernel
theorem dX11_about_170 : decode cX11_about 170 = .ok (.iload_n 3, 1) := by decide +kernel
theorem dX11_about_171 : decode cX11_about 171 = .ok (.bipush 7, 2) := by decide +kernel
theorem dX11_about_173 : decode cX11_about 173 = .ok (.iadd, 1) := by decide +kernel
theorem dX11_about_174 : decode cX11_about 174 = .ok (.iaload, 1) := by decide +kernel
theorem dX11_about_175 : decode cX11_about 175 = .ok (.ireturn, 1) := by decide +kernel
theorem dX11_about_176 : decode cX11_about 176 = .ok (.aload_n 0, 1) := by decide +kernel
theorem dX11_about_177 : decode cX11_about 177 = .ok (.iload_n 1, 1) := by decide +kernel
theorem dX11_about_178 : decode cX11_about 178 = .ok (.iconst (-1), 1) := by decide +kernel
theorem dX11_about_179 : decode cX11_about 179 = .ok (.invokevirtual 213, 3) := by decide +kernel
theorem dX11_about_182 : decode cX11_about 182 = .ok (.ireturn, 1) := by decide +kernel
theorem dX11_about_183 : decode cX11_about 183 = .ok (.aload_n 0, 1) := by decide +kernel
theorem dX11_about_184 : decode cX11_about 184 = .ok (.iload_n 1, 1) := by decide +kernel
theorem dX11_about_185 : decode cX11_about 185 = .ok (.aload_n 0, 1) := by decide +kernel
theorem dX11_about_186 : decode cX11_about 186 = .ok (.iload_n 1, 1) := by decide +kernel
theorem dX11_about_187 : decode cX11_about 187 = .ok (.invokevirtual 207, 3) := by decide +kernel
theorem dX11_about_190 : decode cX11_about 190 = .ok (.invokevirtual 227, 3) := by decide +kernel
theorem dX11_about_193 : decode cX11_about 193 = .ok (.ireturn, 1) := by decide +kernel
theorem dX11_about_194 : decode cX11_about 194 = .ok (.aload_n 0, 1) := by decide +kernel
theorem dX11_about_195 : decode cX11_about 195 = .ok (.iload_n 1, 1) := by decide +kernel
theorem dX11_about_196 : decode cX11_about 196 = .ok (.aload_n 0, 1) := by decide +kernel
theorem dX11_about_197 : decode cX11_about 197 = .ok (.iload_n 1, 1) := by decide +kernel
theorem dX11_about_198 : decode cX11_about 198 = .ok (.invokevirtual 230, 3) := by decide +kernel
theorem dX11_about_201 : decode cX11_about 201 = .ok (.invokevirtual 227, 3) := by decide +kernel
theorem dX11_about_204 : decode cX11_about 204 = .ok (.ireturn, 1) := by decide +kernel
theorem dX11_about_205 : decode cX11_about 205 = .ok (.aload_n 0, 1) := by decide +kernel
theorem dX11_about_206 : decode cX11_about 206 = .ok (.getfield 7, 3) := by decide +kernel
theorem dX11_about_209 : decode cX11_about 209 = .ok (.iload_n 3, 1) := by decide +kernel
theorem dX11_about_210 : decode cX11_about 210 = .ok (.iconst 1, 1) := by decide +kernel
theorem dX11_about_211 : decode cX11_about 211 = .ok (.iadd, 1) := by decide +kernel
theorem dX11_about_212 : decode cX11_about 212 = .ok (.iaload, 1) := by decide +kernel
theorem dX11_about_213 : decode cX11_about 213 = .ok (.aload_n 0, 1) := by decide +kernel
theorem dX11_about_214 : decode cX11_about 214 = .ok (.getfield 7, 3) := by decide +kernel
theorem dX11_about_217 : decode cX11_about 217 = .ok (.bipush 13, 2) := by decide +kernel
theorem dX11_about_219 : decode cX11_about 219 = .ok (.iaload, 1) := by decide +kernel
theorem dX11_about_220 : decode cX11_about 220 = .ok (.iadd, 1) := by decide +kernel
theorem dX11_about_221 : decode cX11_about 221 = .ok (.ireturn, 1) := by decide +kernel
theorem dX11_isTurned_0 : decode cX11_isTurned 0 = .ok (.aload_n 0, 1) := by decide +kernel
theorem dX11_isTurned_1 : decode cX11_isTurned 1 = .ok (.getfield 7, 3) := by decide +kernel
theorem dX11_isTurned_4 : decode cX11_isTurned 4 = .ok (.sipush 792, 3) := by decide +kernel
theorem dX11_isTurned_7 : decode cX11_isTurned 7 = .ok (.bipush 10, 2) := by decide +kernel
theorem dX11_isTurned_9 : decode cX11_isTurned 9 = .ok (.iload_n 1, 1) := by decide +kernel
theorem dX11_isTurned_10 : decode cX11_isTurned 10 = .ok (.imul, 1) := by decide +kernel
theorem dX11_isTurned_11 : decode cX11_isTurned 11 = .ok (.iadd, 1) := by decide +kernel
theorem dX11_isTurned_12 : decode cX11_isTurned 12 = .ok (.iconst 5, 1) := by decide +kernel
theorem dX11_isTurned_13 : decode cX11_isTurned 13 = .ok (.iadd, 1) := by decide +kernel
theorem dX11_isTurned_14 : decode cX11_isTurned 14 = .ok (.iaload, 1) := by decide +kernel
theorem dX11_isTurned_15 : decode cX11_isTurned 15 = .ok (.iconst 3, 1) := by decide +kernel
theorem dX11_isTurned_16 : decode cX11_isTurned 16 = .ok (.if_icmp .ne 7, 3) := by decide +kernel
theorem dX11_isTurned_19 : decode cX11_isTurned 19 = .ok (.iconst 1, 1) := by decide +kernel
theorem dX11_isTurned_20 : decode cX11_isTurned 20 = .ok (.goto 4, 3) := by decide +kernel
theorem dX11_isTurned_23 : decode cX11_isTurned 23 = .ok (.iconst 0, 1) := by decide +kernel
theorem dX11_isTurned_24 : decode cX11_isTurned 24 = .ok (.ireturn, 1) := by decide +kernel
theorem dX11_isLate_0 : decode cX11_isLate 0 = .ok (.aload_n 0, 1) := by decide +kernel
theorem dX11_isLate_1 : decode cX11_isLate 1 = .ok (.getfield 7, 3) := by decide +kernel
theorem dX11_isLate_4 : decode cX11_isLate 4 = .ok (.iconst 0, 1) := by decide +kernel
theorem dX11_isLate_5 : decode cX11_isLate 5 = .ok (.iaload, 1) := by decide +kernel
theorem dX11_isLate_6 : decode cX11_isLate 6 = .ok (.aload_n 0, 1) := by decide +kernel
theorem dX11_isLate_7 : decode cX11_isLate 7 = .ok (.getfield 7, 3) := by decide +kernel
theorem dX11_isLate_10 : decode cX11_isLate 10 = .ok (.sipush 792, 3) := by decide +kernel
theorem dX11_isLate_13 : decode cX11_isLate 13 = .ok (.bipush 10, 2) := by decide +kernel
theorem dX11_isLate_15 : decode cX11_isLate 15 = .ok (.iload_n 1, 1) := by decide +kernel
theorem dX11_isLate_16 : decode cX11_isLate 16 = .ok (.imul, 1) := by decide +kernel
theorem dX11_isLate_17 : decode cX11_isLate 17 = .ok (.iadd, 1) := by decide +kernel
theorem dX11_isLate_18 : decode cX11_isLate 18 = .ok (.iconst 1, 1) := by decide +kernel
theorem dX11_isLate_19 : decode cX11_isLate 19 = .ok (.iadd, 1) := by decide +kernel
theorem dX11_isLate_20 : decode cX11_isLate 20 = .ok (.iaload, 1) := by decide +kernel
theorem dX11_isLate_21 : decode cX11_isLate 21 = .ok (.isub, 1) := by decide +kernel
theorem dX11_isLate_22 : decode cX11_isLate 22 = .ok (.iload_n 2, 1) := by decide +kernel
theorem dX11_isLate_23 : decode cX11_isLate 23 = .ok (.if_icmp .le 7, 3) := by decide +kernel
theorem dX11_isLate_26 : decode cX11_isLate 26 = .ok (.iconst 1, 1) := by decide +kernel
theorem dX11_isLate_27 : decode cX11_isLate 27 = .ok (.goto 4, 3) := by decide +kernel
theorem dX11_isLate_30 : decode cX11_isLate 30 = .ok (.iconst 0, 1) := by decide +kernel
theorem dX11_isLate_31 : decode cX11_isLate 31 = .ok (.ireturn, 1) := by decide +kernel
theorem dX11_appeal_0 : decode cX11_appeal 0 = .ok (.aload_n 0, 1) := by decide +kernel
theorem dX11_appeal_1 : decode cX11_appeal 1 = .ok (.iload_n 1, 1) := by decide +kernel
theorem dX11_appeal_2 : decode cX11_appeal 2 = .ok (.invokevirtual 221, 3) := by decide +kernel
theorem dX11_appeal_5 : decode cX11_appeal 5 = .ok (.ifCond .eq 40, 3) := by decide +kernel
theorem dX11_appeal_8 : decode cX11_appeal 8 = .ok (.iload_n 2, 1) := by decide +kernel
theorem dX11_appeal_9 : decode cX11_appeal 9 = .ok (.iconst 0, 1) := by decide +kernel
theorem dX11_appeal_10 : decode cX11_appeal 10 = .ok (.iconst 1, 1) := by decide +kernel
theorem dX11_appeal_11 : decode cX11_appeal 11 = .ok (.invokestatic 56, 3) := by decide +kernel
theorem dX11_appeal_14 : decode cX11_appeal 14 = .ok (.ifCond .eq 31, 3) := by decide +kernel
theorem dX11_appeal_17 : decode cX11_appeal 17 = .ok (.iload_n 3, 1) := by decide +kernel
theorem dX11_appeal_18 : decode cX11_appeal 18 = .ok (.iconst 0, 1) := by decide +kernel
theorem dX11_appeal_19 : decode cX11_appeal 19 = .ok (.iload_n 2, 1) := by decide +kernel
theorem dX11_appeal_20 : decode cX11_appeal 20 = .ok (.ifCond .ne 12, 3) := by decide +kernel
theorem dX11_appeal_23 : decode cX11_appeal 23 = .ok (.aload_n 0, 1) := by decide +kernel
theorem dX11_appeal_24 : decode cX11_appeal 24 = .ok (.getfield 7, 3) := by decide +kernel
theorem dX11_appeal_27 : decode cX11_appeal 27 = .ok (.iconst 4, 1) := by decide +kernel
theorem dX11_appeal_28 : decode cX11_appeal 28 = .ok (.iaload, 1) := by decide +kernel
theorem dX11_appeal_29 : decode cX11_appeal 29 = .ok (.goto 10, 3) := by decide +kernel
theorem dX11_appeal_32 : decode cX11_appeal 32 = .ok (.aload_n 0, 1) := by decide +kernel
theorem dX11_appeal_33 : decode cX11_appeal 33 = .ok (.getfield 7, 3) := by decide +kernel
theorem dX11_appeal_36 : decode cX11_appeal 36 = .ok (.bipush 8, 2) := by decide +kernel
theorem dX11_appeal_38 : decode cX11_appeal 38 = .ok (.iaload, 1) := by decide +kernel
theorem dX11_appeal_39 : decode cX11_appeal 39 = .ok (.invokestatic 56, 3) := by decide +kernel
theorem dX11_appeal_42 : decode cX11_appeal 42 = .ok (.ifCond .ne 6, 3) := by decide +kernel
theorem dX11_appeal_45 : decode cX11_appeal 45 = .ok (.ldc 60, 2) := by decide +kernel
theorem dX11_appeal_47 : decode cX11_appeal 47 = .ok (.ireturn, 1) := by decide +kernel
theorem dX11_appeal_48 : decode cX11_appeal 48 = .ok (.sipush 792, 3) := by decide +kernel
theorem dX11_appeal_51 : decode cX11_appeal 51 = .ok (.bipush 10, 2) := by decide +kernel
theorem dX11_appeal_53 : decode cX11_appeal 53 = .ok (.iload_n 1, 1) := by decide +kernel
theorem dX11_appeal_54 : decode cX11_appeal 54 = .ok (.imul, 1) := by decide +kernel
theorem dX11_appeal_55 : decode cX11_appeal 55 = .ok (.iadd, 1) := by decide +kernel
theorem dX11_appeal_56 : decode cX11_appeal 56 = .ok (.istore 4, 2) := by decide +kernel
theorem dX11_appeal_58 : decode cX11_appeal 58 = .ok (.aload_n 0, 1) := by decide +kernel
theorem dX11_appeal_59 : decode cX11_appeal 59 = .ok (.iload_n 1, 1) := by decide +kernel
theorem dX11_appeal_60 : decode cX11_appeal 60 = .ok (.aload_n 0, 1) := by decide +kernel
theorem dX11_appeal_61 : decode cX11_appeal 61 = .ok (.getfield 7, 3) := by decide +kernel
theorem dX11_appeal_64 : decode cX11_appeal 64 = .ok (.bipush 9, 2) := by decide +kernel
theorem dX11_appeal_66 : decode cX11_appeal 66 = .ok (.iaload, 1) := by decide +kernel
theorem dX11_appeal_67 : decode cX11_appeal 67 = .ok (.invokevirtual 233, 3) := by decide +kernel
theorem dX11_appeal_70 : decode cX11_appeal 70 = .ok (.ifCond .ne 29, 3) := by decide +kernel
theorem dX11_appeal_73 : decode cX11_appeal 73 = .ok (.aload_n 0, 1) := by decide +kernel
theorem dX11_appeal_74 : decode cX11_appeal 74 = .ok (.getfield 7, 3) := by decide +kernel
theorem dX11_appeal_77 : decode cX11_appeal 77 = .ok (.iload 4, 2) := by decide +kernel
theorem dX11_appeal_79 : decode cX11_appeal 79 = .ok (.bipush 8, 2) := by decide +kernel
theorem dX11_appeal_81 : decode cX11_appeal 81 = .ok (.iadd, 1) := by decide +kernel
theorem dX11_appeal_82 : decode cX11_appeal 82 = .ok (.iaload, 1) := by decide +kernel
theorem dX11_appeal_83 : decode cX11_appeal 83 = .ok (.iload_n 2, 1) := by decide +kernel
theorem dX11_appeal_84 : decode cX11_appeal 84 = .ok (.ishr, 1) := by decide +kernel
theorem dX11_appeal_85 : decode cX11_appeal 85 = .ok (.iconst 1, 1) := by decide +kernel
theorem dX11_appeal_86 : decode cX11_appeal 86 = .ok (.iand, 1) := by decide +kernel
theorem dX11_appeal_87 : decode cX11_appeal 87 = .ok (.iconst 1, 1) := by decide +kernel
theorem dX11_appeal_88 : decode cX11_appeal 88 = .ok (.if_icmp .eq 11, 3) := by decide +kernel
theorem dX11_appeal_91 : decode cX11_appeal 91 = .ok (.aload_n 0, 1) := by decide +kernel
theorem dX11_appeal_92 : decode cX11_appeal 92 = .ok (.iload_n 1, 1) := by decide +kernel
theorem dX11_appeal_93 : decode cX11_appeal 93 = .ok (.invokevirtual 236, 3) := by decide +kernel
theorem dX11_appeal_96 : decode cX11_appeal 96 = .ok (.ifCond .eq 6, 3) := by decide +kernel
theorem dX11_appeal_99 : decode cX11_appeal 99 = .ok (.ldc 69, 2) := by decide +kernel
theorem dX11_appeal_101 : decode cX11_appeal 101 = .ok (.ireturn, 1) := by decide +kernel
theorem dX11_appeal_102 : decode cX11_appeal 102 = .ok (.aload_n 0, 1) := by decide +kernel
theorem dX11_appeal_103 : decode cX11_appeal 103 = .ok (.getfield 7, 3) := by decide +kernel
theorem dX11_appeal_106 : decode cX11_appeal 106 = .ok (.iload 4, 2) := by decide +kernel
theorem dX11_appeal_108 : decode cX11_appeal 108 = .ok (.iconst 2, 1) := by decide +kernel
theorem dX11_appeal_109 : decode cX11_appeal 109 = .ok (.iadd, 1) := by decide +kernel
theorem dX11_appeal_110 : decode cX11_appeal 110 = .ok (.iload_n 2, 1) := by decide +kernel
theorem dX11_appeal_111 : decode cX11_appeal 111 = .ok (.iadd, 1) := by decide +kernel
theorem dX11_appeal_112 : decode cX11_appeal 112 = .ok (.iaload, 1) := by decide +kernel
theorem dX11_appeal_113 : decode cX11_appeal 113 = .ok (.istore 5, 2) := by decide +kernel
theorem dX11_appeal_115 : decode cX11_appeal 115 = .ok (.aload_n 0, 1) := by decide +kernel
theorem dX11_appeal_116 : decode cX11_appeal 116 = .ok (.getfield 7, 3) := by decide +kernel
theorem dX11_appeal_119 : decode cX11_appeal 119 = .ok (.iload 4, 2) := by decide +kernel
theorem dX11_appeal_121 : decode cX11_appeal 121 = .ok (.iconst 2, 1) := by decide +kernel
theorem dX11_appeal_122 : decode cX11_appeal 122 = .ok (.iadd, 1) := by decide +kernel
theorem dX11_appeal_123 : decode cX11_appeal 123 = .ok (.iload_n 2, 1) := by decide +kernel
theorem dX11_appeal_124 : decode cX11_appeal 124 = .ok (.iadd, 1) := by decide +kernel
theorem dX11_appeal_125 : decode cX11_appeal 125 = .ok (.iload_n 3, 1) := by decide +kernel
theorem dX11_appeal_126 : decode cX11_appeal 126 = .ok (.iastore, 1) := by decide +kernel
theorem dX11_appeal_127 : decode cX11_appeal 127 = .ok (.aload_n 0, 1) := by decide +kernel
theorem dX11_appeal_128 : decode cX11_appeal 128 = .ok (.getfield 7, 3) := by decide +kernel
theorem dX11_appeal_131 : decode cX11_appeal 131 = .ok (.iload 4, 2) := by decide +kernel
theorem dX11_appeal_133 : decode cX11_appeal 133 = .ok (.bipush 8, 2) := by decide +kernel
theorem dX11_appeal_135 : decode cX11_appeal 135 = .ok (.iadd, 1) := by decide +kernel
theorem dX11_appeal_136 : decode cX11_appeal 136 = .ok (.dup2, 1) := by decide +kernel
theorem dX11_appeal_137 : decode cX11_appeal 137 = .ok (.iaload, 1) := by decide +kernel
theorem dX11_appeal_138 : decode cX11_appeal 138 = .ok (.iconst 1, 1) := by decide +kernel
theorem dX11_appeal_139 : decode cX11_appeal 139 = .ok (.iload_n 2, 1) := by decide +kernel
theorem dX11_appeal_140 : decode cX11_appeal 140 = .ok (.ishl, 1) := by decide +kernel
theorem dX11_appeal_141 : decode cX11_appeal 141 = .ok (.ior, 1) := by decide +kernel
theorem dX11_appeal_142 : decode cX11_appeal 142 = .ok (.iastore, 1) := by decide +kernel
theorem dX11_appeal_143 : decode cX11_appeal 143 = .ok (.iload 5, 2) := by decide +kernel
theorem dX11_appeal_145 : decode cX11_appeal 145 = .ok (.ireturn, 1) := by decide +kernel
theorem dX11_reopen_0 : decode cX11_reopen 0 = .ok (.aload_n 0, 1) := by decide +kernel
theorem dX11_reopen_1 : decode cX11_reopen 1 = .ok (.iload_n 1, 1) := by decide +kernel
theorem dX11_reopen_2 : decode cX11_reopen 2 = .ok (.invokevirtual 221, 3) := by decide +kernel
theorem dX11_reopen_5 : decode cX11_reopen 5 = .ok (.ifCond .ne 6, 3) := by decide +kernel
theorem dX11_reopen_8 : decode cX11_reopen 8 = .ok (.ldc 60, 2) := by decide +kernel
theorem dX11_reopen_10 : decode cX11_reopen 10 = .ok (.ireturn, 1) := by decide +kernel
theorem dX11_reopen_11 : decode cX11_reopen 11 = .ok (.aload_n 0, 1) := by decide +kernel
theorem dX11_reopen_12 : decode cX11_reopen 12 = .ok (.iload_n 1, 1) := by decide +kernel
theorem dX11_reopen_13 : decode cX11_reopen 13 = .ok (.aload_n 0, 1) := by decide +kernel
theorem dX11_reopen_14 : decode cX11_reopen 14 = .ok (.getfield 7, 3) := by decide +kernel
theorem dX11_reopen_17 : decode cX11_reopen 17 = .ok (.bipush 10, 2) := by decide +kernel
theorem dX11_reopen_19 : decode cX11_reopen 19 = .ok (.iaload, 1) := by decide +kernel
theorem dX11_reopen_20 : decode cX11_reopen 20 = .ok (.invokevirtual 233, 3) := by decide +kernel
theorem dX11_reopen_23 : decode cX11_reopen 23 = .ok (.ifCond .ne 21, 3) := by decide +kernel
theorem dX11_reopen_26 : decode cX11_reopen 26 = .ok (.aload_n 0, 1) := by decide +kernel
theorem dX11_reopen_27 : decode cX11_reopen 27 = .ok (.iload_n 1, 1) := by decide +kernel
theorem dX11_reopen_28 : decode cX11_reopen 28 = .ok (.invokevirtual 236, 3) := by decide +kernel
theorem dX11_reopen_31 : decode cX11_reopen 31 = .ok (.ifCond .ne 13, 3) := by decide +kernel
theorem dX11_reopen_34 : decode cX11_reopen 34 = .ok (.aload_n 0, 1) := by decide +kernel
theorem dX11_reopen_35 : decode cX11_reopen 35 = .ok (.getfield 7, 3) := by decide +kernel
theorem dX11_reopen_38 : decode cX11_reopen 38 = .ok (.bipush 21, 2) := by decide +kernel
theorem dX11_reopen_40 : decode cX11_reopen 40 = .ok (.iaload, 1) := by decide +kernel
theorem dX11_reopen_41 : decode cX11_reopen 41 = .ok (.ifCond .ne 6, 3) := by decide +kernel
theorem dX11_reopen_44 : decode cX11_reopen 44 = .ok (.ldc 69, 2) := by decide +kernel
theorem dX11_reopen_46 : decode cX11_reopen 46 = .ok (.ireturn, 1) := by decide +kernel
theorem dX11_reopen_47 : decode cX11_reopen 47 = .ok (.sipush 792, 3) := by decide +kernel
theorem dX11_reopen_50 : decode cX11_reopen 50 = .ok (.bipush 10, 2) := by decide +kernel
theorem dX11_reopen_52 : decode cX11_reopen 52 = .ok (.iload_n 1, 1) := by decide +kernel
theorem dX11_reopen_53 : decode cX11_reopen 53 = .ok (.imul, 1) := by decide +kernel
theorem dX11_reopen_54 : decode cX11_reopen 54 = .ok (.iadd, 1) := by decide +kernel
theorem dX11_reopen_55 : decode cX11_reopen 55 = .ok (.istore_n 2, 1) := by decide +kernel
theorem dX11_reopen_56 : decode cX11_reopen 56 = .ok (.aload_n 0, 1) := by decide +kernel
theorem dX11_reopen_57 : decode cX11_reopen 57 = .ok (.getfield 7, 3) := by decide +kernel
theorem dX11_reopen_60 : decode cX11_reopen 60 = .ok (.iload_n 2, 1) := by decide +kernel
theorem dX11_reopen_61 : decode cX11_reopen 61 = .ok (.iconst 3, 1) := by decide +kernel
theorem dX11_reopen_62 : decode cX11_reopen 62 = .ok (.iadd, 1) := by decide +kernel
theorem dX11_reopen_63 : decode cX11_reopen 63 = .ok (.aload_n 0, 1) := by decide +kernel
theorem dX11_reopen_64 : decode cX11_reopen 64 = .ok (.aload_n 0, 1) := by decide +kernel
theorem dX11_reopen_65 : decode cX11_reopen 65 = .ok (.getfield 7, 3) := by decide +kernel
theorem dX11_reopen_68 : decode cX11_reopen 68 = .ok (.iload_n 2, 1) := by decide +kernel
theorem dX11_reopen_69 : decode cX11_reopen 69 = .ok (.iaload, 1) := by decide +kernel
theorem dX11_reopen_70 : decode cX11_reopen 70 = .ok (.aload_n 0, 1) := by decide +kernel
theorem dX11_reopen_71 : decode cX11_reopen 71 = .ok (.getfield 7, 3) := by decide +kernel
theorem dX11_reopen_74 : decode cX11_reopen 74 = .ok (.iload_n 2, 1) := by decide +kernel
theorem dX11_reopen_75 : decode cX11_reopen 75 = .ok (.iconst 1, 1) := by decide +kernel
theorem dX11_reopen_76 : decode cX11_reopen 76 = .ok (.iadd, 1) := by decide +kernel
theorem dX11_reopen_77 : decode cX11_reopen 77 = .ok (.iaload, 1) := by decide +kernel
theorem dX11_reopen_78 : decode cX11_reopen 78 = .ok (.aload_n 0, 1) := by decide +kernel
theorem dX11_reopen_79 : decode cX11_reopen 79 = .ok (.getfield 7, 3) := by decide +kernel
theorem dX11_reopen_82 : decode cX11_reopen 82 = .ok (.iconst 0, 1) := by decide +kernel
theorem dX11_reopen_83 : decode cX11_reopen 83 = .ok (.iaload, 1) := by decide +kernel
theorem dX11_reopen_84 : decode cX11_reopen 84 = .ok (.invokevirtual 201, 3) := by decide +kernel
theorem dX11_reopen_87 : decode cX11_reopen 87 = .ok (.iastore, 1) := by decide +kernel
theorem dX11_reopen_88 : decode cX11_reopen 88 = .ok (.aload_n 0, 1) := by decide +kernel
theorem dX11_reopen_89 : decode cX11_reopen 89 = .ok (.getfield 7, 3) := by decide +kernel
theorem dX11_reopen_92 : decode cX11_reopen 92 = .ok (.iload_n 2, 1) := by decide +kernel
theorem dX11_reopen_93 : decode cX11_reopen 93 = .ok (.iconst 3, 1) := by decide +kernel
theorem dX11_reopen_94 : decode cX11_reopen 94 = .ok (.iadd, 1) := by decide +kernel
theorem dX11_reopen_95 : decode cX11_reopen 95 = .ok (.iaload, 1) := by decide +kernel
theorem dX11_reopen_96 : decode cX11_reopen 96 = .ok (.ireturn, 1) := by decide +kernel
theorem dX11_pay_0 : decode cX11_pay 0 = .ok (.aload_n 0, 1) := by decide +kernel
theorem dX11_pay_1 : decode cX11_pay 1 = .ok (.iload_n 1, 1) := by decide +kernel
theorem dX11_pay_2 : decode cX11_pay 2 = .ok (.invokevirtual 221, 3) := by decide +kernel
theorem dX11_pay_5 : decode cX11_pay 5 = .ok (.ifCond .eq 13, 3) := by decide +kernel
theorem dX11_pay_8 : decode cX11_pay 8 = .ok (.iload_n 2, 1) := by decide +kernel
theorem dX11_pay_9 : decode cX11_pay 9 = .ok (.iconst 1, 1) := by decide +kernel
theorem dX11_pay_10 : decode cX11_pay 10 = .ok (.ldc 220, 2) := by decide +kernel
theorem dX11_pay_12 : decode cX11_pay 12 = .ok (.invokestatic 56, 3) := by decide +kernel
theorem dX11_pay_15 : decode cX11_pay 15 = .ok (.ifCond .ne 6, 3) := by decide +kernel
theorem dX11_pay_18 : decode cX11_pay 18 = .ok (.ldc 60, 2) := by decide +kernel
theorem dX11_pay_20 : decode cX11_pay 20 = .ok (.ireturn, 1) := by decide +kernel
theorem dX11_pay_21 : decode cX11_pay 21 = .ok (.aload_n 0, 1) := by decide +kernel
theorem dX11_pay_22 : decode cX11_pay 22 = .ok (.iload_n 1, 1) := by decide +kernel
theorem dX11_pay_23 : decode cX11_pay 23 = .ok (.invokevirtual 236, 3) := by decide +kernel
theorem dX11_pay_26 : decode cX11_pay 26 = .ok (.ifCond .eq 6, 3) := by decide +kernel
theorem dX11_pay_29 : decode cX11_pay 29 = .ok (.ldc 69, 2) := by decide +kernel
theorem dX11_pay_31 : decode cX11_pay 31 = .ok (.ireturn, 1) := by decide +kernel
theorem dX11_pay_32 : decode cX11_pay 32 = .ok (.iload_n 2, 1) := by decide +kernel
theorem dX11_pay_33 : decode cX11_pay 33 = .ok (.aload_n 0, 1) := by decide +kernel
theorem dX11_pay_34 : decode cX11_pay 34 = .ok (.iload_n 1, 1) := by decide +kernel
theorem dX11_pay_35 : decode cX11_pay 35 = .ok (.invokevirtual 210, 3) := by decide +kernel
theorem dX11_pay_38 : decode cX11_pay 38 = .ok (.invokestatic 195, 3) := by decide +kernel
theorem dX11_pay_41 : decode cX11_pay 41 = .ok (.istore_n 3, 1) := by decide +kernel
theorem dX11_pay_42 : decode cX11_pay 42 = .ok (.aload_n 0, 1) := by decide +kernel
theorem dX11_pay_43 : decode cX11_pay 43 = .ok (.getfield 7, 3) := by decide +kernel
theorem dX11_pay_46 : decode cX11_pay 46 = .ok (.sipush 792, 3) := by decide +kernel
theorem dX11_pay_49 : decode cX11_pay 49 = .ok (.bipush 10, 2) := by decide +kernel
theorem dX11_pay_51 : decode cX11_pay 51 = .ok (.iload_n 1, 1) := by decide +kernel
theorem dX11_pay_52 : decode cX11_pay 52 = .ok (.imul, 1) := by decide +kernel
theorem dX11_pay_53 : decode cX11_pay 53 = .ok (.iadd, 1) := by decide +kernel
theorem dX11_pay_54 : decode cX11_pay 54 = .ok (.iconst 4, 1) := by decide +kernel
theorem dX11_pay_55 : decode cX11_pay 55 = .ok (.iadd, 1) := by decide +kernel
theorem dX11_pay_56 : decode cX11_pay 56 = .ok (.dup2, 1) := by decide +kernel
theorem dX11_pay_57 : decode cX11_pay 57 = .ok (.iaload, 1) := by decide +kernel
theorem dX11_pay_58 : decode cX11_pay 58 = .ok (.iload_n 3, 1) := by decide +kernel
theorem dX11_pay_59 : decode cX11_pay 59 = .ok (.iadd, 1) := by decide +kernel
theorem dX11_pay_60 : decode cX11_pay 60 = .ok (.iastore, 1) := by decide +kernel
theorem dX11_pay_61 : decode cX11_pay 61 = .ok (.iload_n 2, 1) := by decide +kernel
theorem dX11_pay_62 : decode cX11_pay 62 = .ok (.iload_n 3, 1) := by decide +kernel
theorem dX11_pay_63 : decode cX11_pay 63 = .ok (.isub, 1) := by decide +kernel
theorem dX11_pay_64 : decode cX11_pay 64 = .ok (.ireturn, 1) := by decide +kernel
theorem dX11_back_0 : decode cX11_back 0 = .ok (.aload_n 0, 1) := by decide +kernel
theorem dX11_back_1 : decode cX11_back 1 = .ok (.iload_n 1, 1) := by decide +kernel
theorem dX11_back_2 : decode cX11_back 2 = .ok (.invokevirtual 221, 3) := by decide +kernel
theorem dX11_back_5 : decode cX11_back 5 = .ok (.ifCond .ne 6, 3) := by decide +kernel
theorem dX11_back_8 : decode cX11_back 8 = .ok (.ldc 60, 2) := by decide +kernel
theorem dX11_back_10 : decode cX11_back 10 = .ok (.ireturn, 1) := by decide +kernel
theorem dX11_back_11 : decode cX11_back 11 = .ok (.sipush 792, 3) := by decide +kernel
theorem dX11_back_14 : decode cX11_back 14 = .ok (.bipush 10, 2) := by decide +kernel
theorem dX11_back_16 : decode cX11_back 16 = .ok (.iload_n 1, 1) := by decide +kernel
theorem dX11_back_17 : decode cX11_back 17 = .ok (.imul, 1) := by decide +kernel
theorem dX11_back_18 : decode cX11_back 18 = .ok (.iadd, 1) := by decide +kernel
theorem dX11_back_19 : decode cX11_back 19 = .ok (.istore_n 2, 1) := by decide +kernel
theorem dX11_back_20 : decode cX11_back 20 = .ok (.aload_n 0, 1) := by decide +kernel
theorem dX11_back_21 : decode cX11_back 21 = .ok (.getfield 7, 3) := by decide +kernel
theorem dX11_back_24 : decode cX11_back 24 = .ok (.iload_n 2, 1) := by decide +kernel
theorem dX11_back_25 : decode cX11_back 25 = .ok (.iconst 4, 1) := by decide +kernel
theorem dX11_back_26 : decode cX11_back 26 = .ok (.iadd, 1) := by decide +kernel
theorem dX11_back_27 : decode cX11_back 27 = .ok (.iaload, 1) := by decide +kernel
theorem dX11_back_28 : decode cX11_back 28 = .ok (.aload_n 0, 1) := by decide +kernel
theorem dX11_back_29 : decode cX11_back 29 = .ok (.iload_n 1, 1) := by decide +kernel
theorem dX11_back_30 : decode cX11_back 30 = .ok (.invokevirtual 207, 3) := by decide +kernel
theorem dX11_back_33 : decode cX11_back 33 = .ok (.isub, 1) := by decide +kernel
theorem dX11_back_34 : decode cX11_back 34 = .ok (.istore_n 3, 1) := by decide +kernel
theorem dX11_back_35 : decode cX11_back 35 = .ok (.iload_n 3, 1) := by decide +kernel
theorem dX11_back_36 : decode cX11_back 36 = .ok (.ifCond .gt 6, 3) := by decide +kernel
theorem dX11_back_39 : decode cX11_back 39 = .ok (.ldc 69, 2) := by decide +kernel
theorem dX11_back_41 : decode cX11_back 41 = .ok (.ireturn, 1) := by decide +kernel
theorem dX11_back_42 : decode cX11_back 42 = .ok (.aload_n 0, 1) := by decide +kernel
theorem dX11_back_43 : decode cX11_back 43 = .ok (.getfield 7, 3) := by decide +kernel
theorem dX11_back_46 : decode cX11_back 46 = .ok (.iload_n 2, 1) := by decide +kernel
theorem dX11_back_47 : decode cX11_back 47 = .ok (.iconst 4, 1) := by decide +kernel
theorem dX11_back_48 : decode cX11_back 48 = .ok (.iadd, 1) := by decide +kernel
theorem dX11_back_49 : decode cX11_back 49 = .ok (.aload_n 0, 1) := by decide +kernel
theorem dX11_back_50 : decode cX11_back 50 = .ok (.iload_n 1, 1) := by decide +kernel
theorem dX11_back_51 : decode cX11_back 51 = .ok (.invokevirtual 207, 3) := by decide +kernel
theorem dX11_back_54 : decode cX11_back 54 = .ok (.iastore, 1) := by decide +kernel
theorem dX11_back_55 : decode cX11_back 55 = .ok (.iload_n 3, 1) := by decide +kernel
theorem dX11_back_56 : decode cX11_back 56 = .ok (.iload_n 3, 1) := by decide +kernel
theorem dX11_back_57 : decode cX11_back 57 = .ok (.i2l, 1) := by decide +kernel
theorem dX11_back_58 : decode cX11_back 58 = .ok (.aload_n 0, 1) := by decide +kernel
theorem dX11_back_59 : decode cX11_back 59 = .ok (.getfield 7, 3) := by decide +kernel
theorem dX11_back_62 : decode cX11_back 62 = .ok (.bipush 11, 2) := by decide +kernel
theorem dX11_back_64 : decode cX11_back 64 = .ok (.iaload, 1) := by decide +kernel
theorem dX11_back_65 : decode cX11_back 65 = .ok (.i2l, 1) := by decide +kernel
theorem dX11_back_66 : decode cX11_back 66 = .ok (.lmul, 1) := by decide +kernel
theorem dX11_back_67 : decode cX11_back 67 = .ok (.aload_n 0, 1) := by decide +kernel
theorem dX11_back_68 : decode cX11_back 68 = .ok (.getfield 7, 3) := by decide +kernel
theorem dX11_back_71 : decode cX11_back 71 = .ok (.iconst 0, 1) := by decide +kernel
theorem dX11_back_72 : decode cX11_back 72 = .ok (.iaload, 1) := by decide +kernel
theorem dX11_back_73 : decode cX11_back 73 = .ok (.aload_n 0, 1) := by decide +kernel
theorem dX11_back_74 : decode cX11_back 74 = .ok (.getfield 7, 3) := by decide +kernel
theorem dX11_back_77 : decode cX11_back 77 = .ok (.iload_n 2, 1) := by decide +kernel
theorem dX11_back_78 : decode cX11_back 78 = .ok (.iconst 1, 1) := by decide +kernel
theorem dX11_back_79 : decode cX11_back 79 = .ok (.iadd, 1) := by decide +kernel
theorem dX11_back_80 : decode cX11_back 80 = .ok (.iaload, 1) := by decide +kernel
theorem dX11_back_81 : decode cX11_back 81 = .ok (.isub, 1) := by decide +kernel
theorem dX11_back_82 : decode cX11_back 82 = .ok (.i2l, 1) := by decide +kernel
theorem dX11_back_83 : decode cX11_back 83 = .ok (.lmul, 1) := by decide +kernel
theorem dX11_back_84 : decode cX11_back 84 = .ok (.ldc2_w 239, 3) := by decide +kernel
theorem dX11_back_87 : decode cX11_back 87 = .ok (.ldiv, 1) := by decide +kernel
theorem dX11_back_88 : decode cX11_back 88 = .ok (.l2i, 1) := by decide +kernel
theorem dX11_back_89 : decode cX11_back 89 = .ok (.iadd, 1) := by decide +kernel
theorem dX11_back_90 : decode cX11_back 90 = .ok (.ireturn, 1) := by decide +kernel
theorem dX11_step_0 : decode cX11_step 0 = .ok (.aload_n 0, 1) := by decide +kernel
theorem dX11_step_1 : decode cX11_step 1 = .ok (.iload_n 1, 1) := by decide +kernel
theorem dX11_step_2 : decode cX11_step 2 = .ok (.invokevirtual 221, 3) := by decide +kernel
theorem dX11_step_5 : decode cX11_step 5 = .ok (.ifCond .ne 6, 3) := by decide +kernel
theorem dX11_step_8 : decode cX11_step 8 = .ok (.ldc 60, 2) := by decide +kernel
theorem dX11_step_10 : decode cX11_step 10 = .ok (.ireturn, 1) := by decide +kernel
theorem dX11_step_11 : decode cX11_step 11 = .ok (.sipush 792, 3) := by decide +kernel
theorem dX11_step_14 : decode cX11_step 14 = .ok (.bipush 10, 2) := by decide +kernel
theorem dX11_step_16 : decode cX11_step 16 = .ok (.iload_n 1, 1) := by decide +kernel
theorem dX11_step_17 : decode cX11_step 17 = .ok (.imul, 1) := by decide +kernel
theorem dX11_step_18 : decode cX11_step 18 = .ok (.iadd, 1) := by decide +kernel
theorem dX11_step_19 : decode cX11_step 19 = .ok (.istore_n 2, 1) := by decide +kernel
theorem dX11_step_20 : decode cX11_step 20 = .ok (.aload_n 0, 1) := by decide +kernel
theorem dX11_step_21 : decode cX11_step 21 = .ok (.iload_n 1, 1) := by decide +kernel
theorem dX11_step_22 : decode cX11_step 22 = .ok (.invokevirtual 236, 3) := by decide +kernel
theorem dX11_step_25 : decode cX11_step 25 = .ok (.ifCond .ne 59, 3) := by decide +kernel
theorem dX11_step_28 : decode cX11_step 28 = .ok (.aload_n 0, 1) := by decide +kernel
theorem dX11_step_29 : decode cX11_step 29 = .ok (.iload_n 1, 1) := by decide +kernel
theorem dX11_step_30 : decode cX11_step 30 = .ok (.invokevirtual 210, 3) := by decide +kernel
theorem dX11_step_33 : decode cX11_step 33 = .ok (.ifCond .eq 51, 3) := by decide +kernel
theorem dX11_step_36 : decode cX11_step 36 = .ok (.aload_n 0, 1) := by decide +kernel
theorem dX11_step_37 : decode cX11_step 37 = .ok (.getfield 7, 3) := by decide +kernel
theorem dX11_step_40 : decode cX11_step 40 = .ok (.iconst 0, 1) := by decide +kernel
theorem dX11_step_41 : decode cX11_step 41 = .ok (.iaload, 1) := by decide +kernel
theorem dX11_step_42 : decode cX11_step 42 = .ok (.aload_n 0, 1) := by decide +kernel
theorem dX11_step_43 : decode cX11_step 43 = .ok (.getfield 7, 3) := by decide +kernel
theorem dX11_step_46 : decode cX11_step 46 = .ok (.iload_n 2, 1) := by decide +kernel
theorem dX11_step_47 : decode cX11_step 47 = .ok (.bipush 6, 2) := by decide +kernel
theorem dX11_step_49 : decode cX11_step 49 = .ok (.iadd, 1) := by decide +kernel
theorem dX11_step_50 : decode cX11_step 50 = .ok (.iaload, 1) := by decide +kernel
theorem dX11_step_51 : decode cX11_step 51 = .ok (.isub, 1) := by decide +kernel
theorem dX11_step_52 : decode cX11_step 52 = .ok (.aload_n 0, 1) := by decide +kernel
theorem dX11_step_53 : decode cX11_step 53 = .ok (.getfield 7, 3) := by decide +kernel
theorem dX11_step_56 : decode cX11_step 56 = .ok (.bipush 12, 2) := by decide +kernel
theorem dX11_step_58 : decode cX11_step 58 = .ok (.iaload, 1) := by decide +kernel
theorem dX11_step_59 : decode cX11_step 59 = .ok (.if_icmp .lt 25, 3) := by decide +kernel
theorem dX11_step_62 : decode cX11_step 62 = .ok (.aload_n 0, 1) := by decide +kernel
theorem dX11_step_63 : decode cX11_step 63 = .ok (.getfield 7, 3) := by decide +kernel
theorem dX11_step_66 : decode cX11_step 66 = .ok (.iload_n 2, 1) := by decide +kernel
theorem dX11_step_67 : decode cX11_step 67 = .ok (.iconst 5, 1) := by decide +kernel
theorem dX11_step_68 : decode cX11_step 68 = .ok (.iadd, 1) := by decide +kernel
theorem dX11_step_69 : decode cX11_step 69 = .ok (.iaload, 1) := by decide +kernel
theorem dX11_step_70 : decode cX11_step 70 = .ok (.iconst 2, 1) := by decide +kernel
theorem dX11_step_71 : decode cX11_step 71 = .ok (.if_icmp .ne 16, 3) := by decide +kernel
theorem dX11_step_74 : decode cX11_step 74 = .ok (.aload_n 0, 1) := by decide +kernel
theorem dX11_step_75 : decode cX11_step 75 = .ok (.getfield 7, 3) := by decide +kernel
theorem dX11_step_78 : decode cX11_step 78 = .ok (.bipush 21, 2) := by decide +kernel
theorem dX11_step_80 : decode cX11_step 80 = .ok (.iaload, 1) := by decide +kernel
theorem dX11_step_81 : decode cX11_step 81 = .ok (.ifCond .ne 6, 3) := by decide +kernel
theorem dX11_step_84 : decode cX11_step 84 = .ok (.ldc 69, 2) := by decide +kernel
theorem dX11_step_86 : decode cX11_step 86 = .ok (.ireturn, 1) := by decide +kernel
theorem dX11_step_87 : decode cX11_step 87 = .ok (.aload_n 0, 1) := by decide +kernel
theorem dX11_step_88 : decode cX11_step 88 = .ok (.getfield 7, 3) := by decide +kernel
theorem dX11_step_91 : decode cX11_step 91 = .ok (.iload_n 2, 1) := by decide +kernel
theorem dX11_step_92 : decode cX11_step 92 = .ok (.iconst 5, 1) := by decide +kernel
theorem dX11_step_93 : decode cX11_step 93 = .ok (.iadd, 1) := by decide +kernel
theorem dX11_step_94 : decode cX11_step 94 = .ok (.dup2, 1) := by decide +kernel
theorem dX11_step_95 : decode cX11_step 95 = .ok (.iaload, 1) := by decide +kernel
theorem dX11_step_96 : decode cX11_step 96 = .ok (.iconst 1, 1) := by decide +kernel
theorem dX11_step_97 : decode cX11_step 97 = .ok (.iadd, 1) := by decide +kernel
theorem dX11_step_98 : decode cX11_step 98 = .ok (.iastore, 1) := by decide +kernel
theorem dX11_step_99 : decode cX11_step 99 = .ok (.aload_n 0, 1) := by decide +kernel
theorem dX11_step_100 : decode cX11_step 100 = .ok (.getfield 7, 3) := by decide +kernel
theorem dX11_step_103 : decode cX11_step 103 = .ok (.iload_n 2, 1) := by decide +kernel
theorem dX11_step_104 : decode cX11_step 104 = .ok (.bipush 6, 2) := by decide +kernel
theorem dX11_step_106 : decode cX11_step 106 = .ok (.iadd, 1) := by decide +kernel
theorem dX11_step_107 : decode cX11_step 107 = .ok (.aload_n 0, 1) := by decide +kernel
theorem dX11_step_108 : decode cX11_step 108 = .ok (.getfield 7, 3) := by decide +kernel
theorem dX11_step_111 : decode cX11_step 111 = .ok (.iconst 0, 1) := by decide +kernel
theorem dX11_step_112 : decode cX11_step 112 = .ok (.iaload, 1) := by decide +kernel
theorem dX11_step_113 : decode cX11_step 113 = .ok (.iastore, 1) := by decide +kernel
theorem dX11_step_114 : decode cX11_step 114 = .ok (.aload_n 0, 1) := by decide +kernel
theorem dX11_step_115 : decode cX11_step 115 = .ok (.iload_n 1, 1) := by decide +kernel
theorem dX11_step_116 : decode cX11_step 116 = .ok (.invokevirtual 236, 3) := by decide +kernel
theorem dX11_step_119 : decode cX11_step 119 = .ok (.ifCond .eq 64, 3) := by decide +kernel
theorem dX11_step_122 : decode cX11_step 122 = .ok (.aload_n 0, 1) := by decide +kernel
theorem dX11_step_123 : decode cX11_step 123 = .ok (.getfield 28, 3) := by decide +kernel
theorem dX11_step_126 : decode cX11_step 126 = .ok (.bipush 117, 2) := by decide +kernel
theorem dX11_step_128 : decode cX11_step 128 = .ok (.aload_n 0, 1) := by decide +kernel
theorem dX11_step_129 : decode cX11_step 129 = .ok (.iload_n 1, 1) := by decide +kernel
theorem dX11_step_130 : decode cX11_step 130 = .ok (.invokevirtual 224, 3) := by decide +kernel
theorem dX11_step_133 : decode cX11_step 133 = .ok (.iastore, 1) := by decide +kernel
theorem dX11_step_134 : decode cX11_step 134 = .ok (.aload_n 0, 1) := by decide +kernel
theorem dX11_step_135 : decode cX11_step 135 = .ok (.getfield 28, 3) := by decide +kernel
theorem dX11_step_138 : decode cX11_step 138 = .ok (.bipush 121, 2) := by decide +kernel
theorem dX11_step_140 : decode cX11_step 140 = .ok (.aload_n 0, 1) := by decide +kernel
theorem dX11_step_141 : decode cX11_step 141 = .ok (.aload_n 0, 1) := by decide +kernel
theorem dX11_step_142 : decode cX11_step 142 = .ok (.getfield 7, 3) := by decide +kernel
theorem dX11_step_145 : decode cX11_step 145 = .ok (.iload_n 2, 1) := by decide +kernel
theorem dX11_step_146 : decode cX11_step 146 = .ok (.iaload, 1) := by decide +kernel
theorem dX11_step_147 : decode cX11_step 147 = .ok (.invokevirtual 66, 3) := by decide +kernel
theorem dX11_step_150 : decode cX11_step 150 = .ok (.ifCond .eq 7, 3) := by decide +kernel
theorem dX11_step_153 : decode cX11_step 153 = .ok (.iconst 1, 1) := by decide +kernel
theorem dX11_step_154 : decode cX11_step 154 = .ok (.goto 4, 3) := by decide +kernel
theorem dX11_step_157 : decode cX11_step 157 = .ok (.iconst 0, 1) := by decide +kernel
theorem dX11_step_158 : decode cX11_step 158 = .ok (.iastore, 1) := by decide +kernel
theorem dX11_step_159 : decode cX11_step 159 = .ok (.aload_n 0, 1) := by decide +kernel
theorem dX11_step_160 : decode cX11_step 160 = .ok (.getfield 7, 3) := by decide +kernel
theorem dX11_step_163 : decode cX11_step 163 = .ok (.iload_n 2, 1) := by decide +kernel
theorem dX11_step_164 : decode cX11_step 164 = .ok (.bipush 7, 2) := by decide +kernel
theorem dX11_step_166 : decode cX11_step 166 = .ok (.iadd, 1) := by decide +kernel
theorem dX11_step_167 : decode cX11_step 167 = .ok (.aload_n 0, 1) := by decide +kernel
theorem dX11_step_168 : decode cX11_step 168 = .ok (.iconst 2, 1) := by decide +kernel
theorem dX11_step_169 : decode cX11_step 169 = .ok (.invokevirtual 192, 3) := by decide +kernel
theorem dX11_step_172 : decode cX11_step 172 = .ok (.iconst 0, 1) := by decide +kernel
theorem dX11_step_173 : decode cX11_step 173 = .ok (.invokestatic 75, 3) := by decide +kernel
theorem dX11_step_176 : decode cX11_step 176 = .ok (.sipush 9999, 3) := by decide +kernel
theorem dX11_step_179 : decode cX11_step 179 = .ok (.invokestatic 195, 3) := by decide +kernel
theorem dX11_step_182 : decode cX11_step 182 = .ok (.iastore, 1) := by decide +kernel
theorem dX11_step_183 : decode cX11_step 183 = .ok (.aload_n 0, 1) := by decide +kernel
theorem dX11_step_184 : decode cX11_step 184 = .ok (.getfield 7, 3) := by decide +kernel
theorem dX11_step_187 : decode cX11_step 187 = .ok (.iload_n 2, 1) := by decide +kernel
theorem dX11_step_188 : decode cX11_step 188 = .ok (.iconst 5, 1) := by decide +kernel
theorem dX11_step_189 : decode cX11_step 189 = .ok (.iadd, 1) := by decide +kernel
theorem dX11_step_190 : decode cX11_step 190 = .ok (.iaload, 1) := by decide +kernel
theorem dX11_step_191 : decode cX11_step 191 = .ok (.ireturn, 1) := by decide +kernel
theorem dX11_work_0 : decode cX11_work 0 = .ok (.aload_n 0, 1) := by decide +kernel
theorem dX11_work_1 : decode cX11_work 1 = .ok (.iload_n 1, 1) := by decide +kernel
theorem dX11_work_2 : decode cX11_work 2 = .ok (.invokevirtual 221, 3) := by decide +kernel
theorem dX11_work_5 : decode cX11_work 5 = .ok (.ifCond .eq 14, 3) := by decide +kernel
theorem dX11_work_8 : decode cX11_work 8 = .ok (.iload_n 2, 1) := by decide +kernel
theorem dX11_work_9 : decode cX11_work 9 = .ok (.iconst 1, 1) := by decide +kernel
theorem dX11_work_10 : decode cX11_work 10 = .ok (.sipush 9999, 3) := by decide +kernel
theorem dX11_work_13 : decode cX11_work 13 = .ok (.invokestatic 56, 3) := by decide +kernel
theorem dX11_work_16 : decode cX11_work 16 = .ok (.ifCond .ne 6, 3) := by decide +kernel
theorem dX11_work_19 : decode cX11_work 19 = .ok (.ldc 60, 2) := by decide +kernel
theorem dX11_work_21 : decode cX11_work 21 = .ok (.ireturn, 1) := by decide +kernel
theorem dX11_work_22 : decode cX11_work 22 = .ok (.sipush 792, 3) := by decide +kernel
theorem dX11_work_25 : decode cX11_work 25 = .ok (.bipush 10, 2) := by decide +kernel
theorem dX11_work_27 : decode cX11_work 27 = .ok (.iload_n 1, 1) := by decide +kernel
theorem dX11_work_28 : decode cX11_work 28 = .ok (.imul, 1) := by decide +kernel
theorem dX11_work_29 : decode cX11_work 29 = .ok (.iadd, 1) := by decide +kernel
theorem dX11_work_30 : decode cX11_work 30 = .ok (.bipush 7, 2) := by decide +kernel
theorem dX11_work_32 : decode cX11_work 32 = .ok (.iadd, 1) := by decide +kernel
theorem dX11_work_33 : decode cX11_work 33 = .ok (.istore_n 3, 1) := by decide +kernel
theorem dX11_work_34 : decode cX11_work 34 = .ok (.aload_n 0, 1) := by decide +kernel
theorem dX11_work_35 : decode cX11_work 35 = .ok (.iload_n 1, 1) := by decide +kernel
theorem dX11_work_36 : decode cX11_work 36 = .ok (.invokevirtual 236, 3) := by decide +kernel
theorem dX11_work_39 : decode cX11_work 39 = .ok (.ifCond .eq 13, 3) := by decide +kernel
theorem dX11_work_42 : decode cX11_work 42 = .ok (.aload_n 0, 1) := by decide +kernel
theorem dX11_work_43 : decode cX11_work 43 = .ok (.getfield 7, 3) := by decide +kernel
theorem dX11_work_46 : decode cX11_work 46 = .ok (.iload_n 3, 1) := by decide +kernel
theorem dX11_work_47 : decode cX11_work 47 = .ok (.iaload, 1) := by decide +kernel
theorem dX11_work_48 : decode cX11_work 48 = .ok (.iload_n 2, 1) := by decide +kernel
theorem dX11_work_49 : decode cX11_work 49 = .ok (.if_icmp .ge 6, 3) := by decide +kernel
theorem dX11_work_52 : decode cX11_work 52 = .ok (.ldc 69, 2) := by decide +kernel
theorem dX11_work_54 : decode cX11_work 54 = .ok (.ireturn, 1) := by decide +kernel
theorem dX11_work_55 : decode cX11_work 55 = .ok (.aload_n 0, 1) := by decide +kernel
theorem dX11_work_56 : decode cX11_work 56 = .ok (.getfield 7, 3) := by decide +kernel
theorem dX11_work_59 : decode cX11_work 59 = .ok (.iload_n 3, 1) := by decide +kernel
theorem dX11_work_60 : decode cX11_work 60 = .ok (.dup2, 1) := by decide +kernel
theorem dX11_work_61 : decode cX11_work 61 = .ok (.iaload, 1) := by decide +kernel
theorem dX11_work_62 : decode cX11_work 62 = .ok (.iload_n 2, 1) := by decide +kernel
theorem dX11_work_63 : decode cX11_work 63 = .ok (.isub, 1) := by decide +kernel
theorem dX11_work_64 : decode cX11_work 64 = .ok (.iastore, 1) := by decide +kernel
theorem dX11_work_65 : decode cX11_work 65 = .ok (.aload_n 0, 1) := by decide +kernel
theorem dX11_work_66 : decode cX11_work 66 = .ok (.getfield 7, 3) := by decide +kernel
theorem dX11_work_69 : decode cX11_work 69 = .ok (.iload_n 3, 1) := by decide +kernel
theorem dX11_work_70 : decode cX11_work 70 = .ok (.iaload, 1) := by decide +kernel
theorem dX11_work_71 : decode cX11_work 71 = .ok (.ireturn, 1) := by decide +kernel
theorem dX11_roomOf_0 : decode cX11_roomOf 0 = .ok (.aload_n 0, 1) := by decide +kernel
theorem dX11_roomOf_1 : decode cX11_roomOf 1 = .ok (.getfield 7, 3) := by decide +kernel
theorem dX11_roomOf_4 : decode cX11_roomOf 4 = .ok (.iconst 0, 1) := by decide +kernel
theorem dX11_roomOf_5 : decode cX11_roomOf 5 = .ok (.iaload, 1) := by decide +kernel
theorem dX11_roomOf_6 : decode cX11_roomOf 6 = .ok (.bipush 30, 2) := by decide +kernel
theorem dX11_roomOf_8 : decode cX11_roomOf 8 = .ok (.iload_n 2, 1) := by decide +kernel
theorem dX11_roomOf_9 : decode cX11_roomOf 9 = .ok (.imul, 1) := by decide +kernel
theorem dX11_roomOf_10 : decode cX11_roomOf 10 = .ok (.iadd, 1) := by decide +kernel
theorem dX11_roomOf_11 : decode cX11_roomOf 11 = .ok (.istore_n 3, 1) := by decide +kernel
theorem dX11_roomOf_12 : decode cX11_roomOf 12 = .ok (.aload_n 0, 1) := by decide +kernel
theorem dX11_roomOf_13 : decode cX11_roomOf 13 = .ok (.iload_n 1, 1) := by decide +kernel
theorem dX11_roomOf_14 : decode cX11_roomOf 14 = .ok (.iload_n 3, 1) := by decide +kernel
theorem dX11_roomOf_15 : decode cX11_roomOf 15 = .ok (.aload_n 0, 1) := by decide +kernel
theorem dX11_roomOf_16 : decode cX11_roomOf 16 = .ok (.getfield 7, 3) := by decide +kernel
theorem dX11_roomOf_19 : decode cX11_roomOf 19 = .ok (.iconst 0, 1) := by decide +kernel
theorem dX11_roomOf_20 : decode cX11_roomOf 20 = .ok (.iaload, 1) := by decide +kernel
theorem dX11_roomOf_21 : decode cX11_roomOf 21 = .ok (.invokevirtual 83, 3) := by decide +kernel
theorem dX11_roomOf_24 : decode cX11_roomOf 24 = .ok (.aload_n 0, 1) := by decide +kernel
theorem dX11_roomOf_25 : decode cX11_roomOf 25 = .ok (.getfield 7, 3) := by decide +kernel
theorem dX11_roomOf_28 : decode cX11_roomOf 28 = .ok (.bipush 14, 2) := by decide +kernel
theorem dX11_roomOf_30 : decode cX11_roomOf 30 = .ok (.iaload, 1) := by decide +kernel
theorem dX11_roomOf_31 : decode cX11_roomOf 31 = .ok (.iconst 1, 1) := by decide +kernel
theorem dX11_roomOf_32 : decode cX11_roomOf 32 = .ok (.aload_n 0, 1) := by decide +kernel
theorem dX11_roomOf_33 : decode cX11_roomOf 33 = .ok (.iload_n 1, 1) := by decide +kernel
theorem dX11_roomOf_34 : decode cX11_roomOf 34 = .ok (.iconst 1, 1) := by decide +kernel
theorem dX11_roomOf_35 : decode cX11_roomOf 35 = .ok (.iload_n 3, 1) := by decide +kernel
theorem dX11_roomOf_36 : decode cX11_roomOf 36 = .ok (.aload_n 0, 1) := by decide +kernel
theorem dX11_roomOf_37 : decode cX11_roomOf 37 = .ok (.getfield 7, 3) := by decide +kernel
theorem dX11_roomOf_40 : decode cX11_roomOf 40 = .ok (.iconst 0, 1) := by decide +kernel
theorem dX11_roomOf_41 : decode cX11_roomOf 41 = .ok (.iaload, 1) := by decide +kernel
theorem dX11_roomOf_42 : decode cX11_roomOf 42 = .ok (.invokevirtual 71, 3) := by decide +kernel
theorem dX11_roomOf_45 : decode cX11_roomOf 45 = .ok (.iadd, 1) := by decide +kernel
theorem dX11_roomOf_46 : decode cX11_roomOf 46 = .ok (.imul, 1) := by decide +kernel
theorem dX11_roomOf_47 : decode cX11_roomOf 47 = .ok (.isub, 1) := by decide +kernel
theorem dX11_roomOf_48 : decode cX11_roomOf 48 = .ok (.aload_n 0, 1) := by decide +kernel
theorem dX11_roomOf_49 : decode cX11_roomOf 49 = .ok (.iload_n 1, 1) := by decide +kernel
theorem dX11_roomOf_50 : decode cX11_roomOf 50 = .ok (.iconst 3, 1) := by decide +kernel
theorem dX11_roomOf_51 : decode cX11_roomOf 51 = .ok (.iload_n 3, 1) := by decide +kernel
theorem dX11_roomOf_52 : decode cX11_roomOf 52 = .ok (.aload_n 0, 1) := by decide +kernel
theorem dX11_roomOf_53 : decode cX11_roomOf 53 = .ok (.getfield 7, 3) := by decide +kernel
theorem dX11_roomOf_56 : decode cX11_roomOf 56 = .ok (.iconst 0, 1) := by decide +kernel
theorem dX11_roomOf_57 : decode cX11_roomOf 57 = .ok (.iaload, 1) := by decide +kernel
theorem dX11_roomOf_58 : decode cX11_roomOf 58 = .ok (.invokevirtual 71, 3) := by decide +kernel
theorem dX11_roomOf_61 : decode cX11_roomOf 61 = .ok (.isub, 1) := by decide +kernel
theorem dX11_roomOf_62 : decode cX11_roomOf 62 = .ok (.istore 4, 2) := by decide +kernel
theorem dX11_roomOf_64 : decode cX11_roomOf 64 = .ok (.iload 4, 2) := by decide +kernel
theorem dX11_roomOf_66 : decode cX11_roomOf 66 = .ok (.ifCond .gt 7, 3) := by decide +kernel
theorem dX11_roomOf_69 : decode cX11_roomOf 69 = .ok (.iconst 0, 1) := by decide +kernel
theorem dX11_roomOf_70 : decode cX11_roomOf 70 = .ok (.goto 16, 3) := by decide +kernel
theorem dX11_roomOf_73 : decode cX11_roomOf 73 = .ok (.iload 4, 2) := by decide +kernel
theorem dX11_roomOf_75 : decode cX11_roomOf 75 = .ok (.aload_n 0, 1) := by decide +kernel
theorem dX11_roomOf_76 : decode cX11_roomOf 76 = .ok (.getfield 7, 3) := by decide +kernel
theorem dX11_roomOf_79 : decode cX11_roomOf 79 = .ok (.bipush 15, 2) := by decide +kernel
theorem dX11_roomOf_81 : decode cX11_roomOf 81 = .ok (.iaload, 1) := by decide +kernel
theorem dX11_roomOf_82 : decode cX11_roomOf 82 = .ok (.imul, 1) := by decide +kernel
theorem dX11_roomOf_83 : decode cX11_roomOf 83 = .ok (.bipush 100, 2) := by decide +kernel
theorem dX11_roomOf_85 : decode cX11_roomOf 85 = .ok (.idiv, 1) := by decide +kernel
theorem dX11_roomOf_86 : decode cX11_roomOf 86 = .ok (.ireturn, 1) := by decide +kernel
theorem dX11_findDues_0 : decode cX11_findDues 0 = .ok (.iconst 0, 1) := by decide +kernel
theorem dX11_findDues_1 : decode cX11_findDues 1 = .ok (.istore_n 2, 1) := by decide +kernel
theorem dX11_findDues_2 : decode cX11_findDues 2 = .ok (.iload_n 2, 1) := by decide +kernel
theorem dX11_findDues_3 : decode cX11_findDues 3 = .ok (.bipush 24, 2) := by decide +kernel
theorem dX11_findDues_5 : decode cX11_findDues 5 = .ok (.if_icmp .ge 21, 3) := by decide +kernel
theorem dX11_findDues_8 : decode cX11_findDues 8 = .ok (.aload_n 0, 1) := by decide +kernel
theorem dX11_findDues_9 : decode cX11_findDues 9 = .ok (.getfield 31, 3) := by decide +kernel
theorem dX11_findDues_12 : decode cX11_findDues 12 = .ok (.iload_n 2, 1) := by decide +kernel
theorem dX11_findDues_13 : decode cX11_findDues 13 = .ok (.aload_n 0, 1) := by decide +kernel
theorem dX11_findDues_14 : decode cX11_findDues 14 = .ok (.iload_n 1, 1) := by decide +kernel
theorem dX11_findDues_15 : decode cX11_findDues 15 = .ok (.iload_n 2, 1) := by decide +kernel
theorem dX11_findDues_16 : decode cX11_findDues 16 = .ok (.invokevirtual 241, 3) := by decide +kernel
theorem dX11_findDues_19 : decode cX11_findDues 19 = .ok (.iastore, 1) := by decide +kernel
theorem dX11_findDues_20 : decode cX11_findDues 20 = .ok (.iinc 2 1, 3) := by decide +kernel
theorem dX11_findDues_23 : decode cX11_findDues 23 = .ok (.goto (-21), 3) := by decide +kernel
theorem dX11_findDues_26 : decode cX11_findDues 26 = .ok (.aload_n 0, 1) := by decide +kernel
theorem dX11_findDues_27 : decode cX11_findDues 27 = .ok (.iconst 0, 1) := by decide +kernel
theorem dX11_findDues_28 : decode cX11_findDues 28 = .ok (.putfield 244, 3) := by decide +kernel
theorem dX11_findDues_31 : decode cX11_findDues 31 = .ok (.iconst 0, 1) := by decide +kernel
theorem dX11_findDues_32 : decode cX11_findDues 32 = .ok (.istore_n 2, 1) := by decide +kernel
theorem dX11_findDues_33 : decode cX11_findDues 33 = .ok (.iload_n 2, 1) := by decide +kernel
theorem dX11_findDues_34 : decode cX11_findDues 34 = .ok (.aload_n 0, 1) := by decide +kernel
theorem dX11_findDues_35 : decode cX11_findDues 35 = .ok (.getfield 7, 3) := by decide +kernel
theorem dX11_findDues_38 : decode cX11_findDues 38 = .ok (.bipush 20, 2) := by decide +kernel
theorem dX11_findDues_40 : decode cX11_findDues 40 = .ok (.iaload, 1) := by decide +kernel
theorem dX11_findDues_41 : decode cX11_findDues 41 = .ok (.if_icmp .ge 161, 3) := by decide +kernel
theorem dX11_findDues_44 : decode cX11_findDues 44 = .ok (.aload_n 0, 1) := by decide +kernel
theorem dX11_findDues_45 : decode cX11_findDues 45 = .ok (.getfield 7, 3) := by decide +kernel
theorem dX11_findDues_48 : decode cX11_findDues 48 = .ok (.sipush 792, 3) := by decide +kernel
theorem dX11_findDues_51 : decode cX11_findDues 51 = .ok (.bipush 10, 2) := by decide +kernel
theorem dX11_findDues_53 : decode cX11_findDues 53 = .ok (.iload_n 2, 1) := by decide +kernel
theorem dX11_findDues_54 : decode cX11_findDues 54 = .ok (.imul, 1) := by decide +kernel
theorem dX11_findDues_55 : decode cX11_findDues 55 = .ok (.iadd, 1) := by decide +kernel
theorem dX11_findDues_56 : decode cX11_findDues 56 = .ok (.iaload, 1) := by decide +kernel
theorem dX11_findDues_57 : decode cX11_findDues 57 = .ok (.iload_n 1, 1) := by decide +kernel
theorem dX11_findDues_58 : decode cX11_findDues 58 = .ok (.if_icmp .ne 138, 3) := by decide +kernel
theorem dX11_findDues_61 : decode cX11_findDues 61 = .ok (.aload_n 0, 1) := by decide +kernel
theorem dX11_findDues_62 : decode cX11_findDues 62 = .ok (.iload_n 2, 1) := by decide +kernel
theorem dX11_findDues_63 : decode cX11_findDues 63 = .ok (.invokevirtual 210, 3) := by decide +kernel
theorem dX11_findDues_66 : decode cX11_findDues 66 = .ok (.ifCond .eq 130, 3) := by decide +kernel
theorem dX11_findDues_69 : decode cX11_findDues 69 = .ok (.aload_n 0, 1) := by decide +kernel
theorem dX11_findDues_70 : decode cX11_findDues 70 = .ok (.iload_n 2, 1) := by decide +kernel
theorem dX11_findDues_71 : decode cX11_findDues 71 = .ok (.invokevirtual 236, 3) := by decide +kernel
theorem dX11_findDues_74 : decode cX11_findDues 74 = .ok (.ifCond .eq 6, 3) := by decide +kernel
theorem dX11_findDues_77 : decode cX11_findDues 77 = .ok (.goto 119, 3) := by decide +kernel
theorem dX11_findDues_80 : decode cX11_findDues 80 = .ok (.aload_n 0, 1) := by decide +kernel
theorem dX11_findDues_81 : decode cX11_findDues 81 = .ok (.getfield 7, 3) := by decide +kernel
theorem dX11_findDues_84 : decode cX11_findDues 84 = .ok (.sipush 792, 3) := by decide +kernel
theorem dX11_findDues_87 : decode cX11_findDues 87 = .ok (.bipush 10, 2) := by decide +kernel
theorem dX11_findDues_89 : decode cX11_findDues 89 = .ok (.iload_n 2, 1) := by decide +kernel
theorem dX11_findDues_90 : decode cX11_findDues 90 = .ok (.imul, 1) := by decide +kernel
theorem dX11_findDues_91 : decode cX11_findDues 91 = .ok (.iadd, 1) := by decide +kernel
theorem dX11_findDues_92 : decode cX11_findDues 92 = .ok (.iconst 1, 1) := by decide +kernel
theorem dX11_findDues_93 : decode cX11_findDues 93 = .ok (.iadd, 1) := by decide +kernel
theorem dX11_findDues_94 : decode cX11_findDues 94 = .ok (.iaload, 1) := by decide +kernel
theorem dX11_findDues_95 : decode cX11_findDues 95 = .ok (.aload_n 0, 1) := by decide +kernel
theorem dX11_findDues_96 : decode cX11_findDues 96 = .ok (.getfield 7, 3) := by decide +kernel
theorem dX11_findDues_99 : decode cX11_findDues 99 = .ok (.bipush 13, 2) := by decide +kernel
theorem dX11_findDues_101 : decode cX11_findDues 101 = .ok (.iaload, 1) := by decide +kernel
theorem dX11_findDues_102 : decode cX11_findDues 102 = .ok (.iadd, 1) := by decide +kernel
theorem dX11_findDues_103 : decode cX11_findDues 103 = .ok (.istore_n 3, 1) := by decide +kernel
theorem dX11_findDues_104 : decode cX11_findDues 104 = .ok (.aload_n 0, 1) := by decide +kernel
theorem dX11_findDues_105 : decode cX11_findDues 105 = .ok (.getfield 244, 3) := by decide +kernel
theorem dX11_findDues_108 : decode cX11_findDues 108 = .ok (.istore 4, 2) := by decide +kernel
theorem dX11_findDues_110 : decode cX11_findDues 110 = .ok (.iload 4, 2) := by decide +kernel
theorem dX11_findDues_112 : decode cX11_findDues 112 = .ok (.ifCond .le 54, 3) := by decide +kernel
theorem dX11_findDues_115 : decode cX11_findDues 115 = .ok (.aload_n 0, 1) := by decide +kernel
theorem dX11_findDues_116 : decode cX11_findDues 116 = .ok (.getfield 34, 3) := by decide +kernel
theorem dX11_findDues_119 : decode cX11_findDues 119 = .ok (.iload 4, 2) := by decide +kernel
theorem dX11_findDues_121 : decode cX11_findDues 121 = .ok (.iconst 1, 1) := by decide +kernel
theorem dX11_findDues_122 : decode cX11_findDues 122 = .ok (.isub, 1) := by decide +kernel
theorem dX11_findDues_123 : decode cX11_findDues 123 = .ok (.iaload, 1) := by decide +kernel
theorem dX11_findDues_124 : decode cX11_findDues 124 = .ok (.iload_n 3, 1) := by decide +kernel
theorem dX11_findDues_125 : decode cX11_findDues 125 = .ok (.if_icmp .le 41, 3) := by decide +kernel
theorem dX11_findDues_128 : decode cX11_findDues 128 = .ok (.aload_n 0, 1) := by decide +kernel
theorem dX11_findDues_129 : decode cX11_findDues 129 = .ok (.getfield 34, 3) := by decide +kernel
theorem dX11_findDues_132 : decode cX11_findDues 132 = .ok (.iload 4, 2) := by decide +kernel
theorem dX11_findDues_134 : decode cX11_findDues 134 = .ok (.aload_n 0, 1) := by decide +kernel
theorem dX11_findDues_135 : decode cX11_findDues 135 = .ok (.getfield 34, 3) := by decide +kernel
theorem dX11_findDues_138 : decode cX11_findDues 138 = .ok (.iload 4, 2) := by decide +kernel
theorem dX11_findDues_140 : decode cX11_findDues 140 = .ok (.iconst 1, 1) := by decide +kernel
theorem dX11_findDues_141 : decode cX11_findDues 141 = .ok (.isub, 1) := by decide +kernel
theorem dX11_findDues_142 : decode cX11_findDues 142 = .ok (.iaload, 1) := by decide +kernel
theorem dX11_findDues_143 : decode cX11_findDues 143 = .ok (.iastore, 1) := by decide +kernel
theorem dX11_findDues_144 : decode cX11_findDues 144 = .ok (.aload_n 0, 1) := by decide +kernel
theorem dX11_findDues_145 : decode cX11_findDues 145 = .ok (.getfield 37, 3) := by decide +kernel
theorem dX11_findDues_148 : decode cX11_findDues 148 = .ok (.iload 4, 2) := by decide +kernel
theorem dX11_findDues_150 : decode cX11_findDues 150 = .ok (.aload_n 0, 1) := by decide +kernel
theorem dX11_findDues_151 : decode cX11_findDues 151 = .ok (.getfield 37, 3) := by decide +kernel
theorem dX11_findDues_154 : decode cX11_findDues 154 = .ok (.iload 4, 2) := by decide +kernel
theorem dX11_findDues_156 : decode cX11_findDues 156 = .ok (.iconst 1, 1) := by decide +kernel
theorem dX11_findDues_157 : decode cX11_findDues 157 = .ok (.isub, 1) := by decide +kernel
theorem dX11_findDues_158 : decode cX11_findDues 158 = .ok (.iaload, 1) := by decide +kernel
theorem dX11_findDues_159 : decode cX11_findDues 159 = .ok (.iastore, 1) := by decide +kernel
theorem dX11_findDues_160 : decode cX11_findDues 160 = .ok (.iinc 4 (-1), 3) := by decide +kernel
theorem dX11_findDues_163 : decode cX11_findDues 163 = .ok (.goto (-53), 3) := by decide +kernel
theorem dX11_findDues_166 : decode cX11_findDues 166 = .ok (.aload_n 0, 1) := by decide +kernel
theorem dX11_findDues_167 : decode cX11_findDues 167 = .ok (.getfield 34, 3) := by decide +kernel
theorem dX11_findDues_170 : decode cX11_findDues 170 = .ok (.iload 4, 2) := by decide +kernel
theorem dX11_findDues_172 : decode cX11_findDues 172 = .ok (.iload_n 3, 1) := by decide +kernel
theorem dX11_findDues_173 : decode cX11_findDues 173 = .ok (.iastore, 1) := by decide +kernel
theorem dX11_findDues_174 : decode cX11_findDues 174 = .ok (.aload_n 0, 1) := by decide +kernel
theorem dX11_findDues_175 : decode cX11_findDues 175 = .ok (.getfield 37, 3) := by decide +kernel
theorem dX11_findDues_178 : decode cX11_findDues 178 = .ok (.iload 4, 2) := by decide +kernel
theorem dX11_findDues_180 : decode cX11_findDues 180 = .ok (.aload_n 0, 1) := by decide +kernel
theorem dX11_findDues_181 : decode cX11_findDues 181 = .ok (.iload_n 2, 1) := by decide +kernel
theorem dX11_findDues_182 : decode cX11_findDues 182 = .ok (.invokevirtual 210, 3) := by decide +kernel
theorem dX11_findDues_185 : decode cX11_findDues 185 = .ok (.iastore, 1) := by decide +kernel
theorem dX11_findDues_186 : decode cX11_findDues 186 = .ok (.aload_n 0, 1) := by decide +kernel
theorem dX11_findDues_187 : decode cX11_findDues 187 = .ok (.dup, 1) := by decide +kernel
theorem dX11_findDues_188 : decode cX11_findDues 188 = .ok (.getfield 244, 3) := by decide +kernel
theorem dX11_findDues_191 : decode cX11_findDues 191 = .ok (.iconst 1, 1) := by decide +kernel
theorem dX11_findDues_192 : decode cX11_findDues 192 = .ok (.iadd, 1) := by decide +kernel
theorem dX11_findDues_193 : decode cX11_findDues 193 = .ok (.putfield 244, 3) := by decide +kernel
theorem dX11_findDues_196 : decode cX11_findDues 196 = .ok (.iinc 2 1, 3) := by decide +kernel
theorem dX11_findDues_199 : decode cX11_findDues 199 = .ok (.goto (-166), 3) := by decide +kernel
theorem dX11_findDues_202 : decode cX11_findDues 202 = .ok (.return_, 1) := by decide +kernel
theorem dX11_holds_0 : decode cX11_holds 0 = .ok (.lconst 0, 1) := by decide +kernel
theorem dX11_holds_1 : decode cX11_holds 1 = .ok (.lstore_n 2, 1) := by decide +kernel
theorem dX11_holds_2 : decode cX11_holds 2 = .ok (.iconst 0, 1) := by decide +kernel
theorem dX11_holds_3 : decode cX11_holds 3 = .ok (.istore 4, 2) := by decide +kernel
theorem dX11_holds_5 : decode cX11_holds 5 = .ok (.lconst 0, 1) := by decide +kernel
theorem dX11_holds_6 : decode cX11_holds 6 = .ok (.lstore 5, 2) := by decide +kernel
theorem dX11_holds_8 : decode cX11_holds 8 = .ok (.iconst 0, 1) := by decide +kernel
theorem dX11_holds_9 : decode cX11_holds 9 = .ok (.istore 7, 2) := by decide +kernel
theorem dX11_holds_11 : decode cX11_holds 11 = .ok (.iload 7, 2) := by decide +kernel
theorem dX11_holds_13 : decode cX11_holds 13 = .ok (.aload_n 0, 1) := by decide +kernel
theorem dX11_holds_14 : decode cX11_holds 14 = .ok (.getfield 244, 3) := by decide +kernel
theorem dX11_holds_17 : decode cX11_holds 17 = .ok (.if_icmp .ge 81, 3) := by decide +kernel
theorem dX11_holds_20 : decode cX11_holds 20 = .ok (.lload 5, 2) := by decide +kernel
theorem dX11_holds_22 : decode cX11_holds 22 = .ok (.aload_n 0, 1) := by decide +kernel
theorem dX11_holds_23 : decode cX11_holds 23 = .ok (.getfield 37, 3) := by decide +kernel
theorem dX11_holds_26 : decode cX11_holds 26 = .ok (.iload 7, 2) := by decide +kernel
theorem dX11_holds_28 : decode cX11_holds 28 = .ok (.iaload, 1) := by decide +kernel
theorem dX11_holds_29 : decode cX11_holds 29 = .ok (.i2l, 1) := by decide +kernel
theorem dX11_holds_30 : decode cX11_holds 30 = .ok (.ladd, 1) := by decide +kernel
theorem dX11_holds_31 : decode cX11_holds 31 = .ok (.lstore 5, 2) := by decide +kernel
theorem dX11_holds_33 : decode cX11_holds 33 = .ok (.iload 4, 2) := by decide +kernel
theorem dX11_holds_35 : decode cX11_holds 35 = .ok (.bipush 24, 2) := by decide +kernel
theorem dX11_holds_37 : decode cX11_holds 37 = .ok (.if_icmp .ge 46, 3) := by decide +kernel
theorem dX11_holds_40 : decode cX11_holds 40 = .ok (.aload_n 0, 1) := by decide +kernel
theorem dX11_holds_41 : decode cX11_holds 41 = .ok (.getfield 7, 3) := by decide +kernel
theorem dX11_holds_44 : decode cX11_holds 44 = .ok (.iconst 0, 1) := by decide +kernel
theorem dX11_holds_45 : decode cX11_holds 45 = .ok (.iaload, 1) := by decide +kernel
theorem dX11_holds_46 : decode cX11_holds 46 = .ok (.bipush 30, 2) := by decide +kernel
theorem dX11_holds_48 : decode cX11_holds 48 = .ok (.iload 4, 2) := by decide +kernel
theorem dX11_holds_50 : decode cX11_holds 50 = .ok (.imul, 1) := by decide +kernel
theorem dX11_holds_51 : decode cX11_holds 51 = .ok (.iadd, 1) := by decide +kernel
theorem dX11_holds_52 : decode cX11_holds 52 = .ok (.aload_n 0, 1) := by decide +kernel
theorem dX11_holds_53 : decode cX11_holds 53 = .ok (.getfield 34, 3) := by decide +kernel
theorem dX11_holds_56 : decode cX11_holds 56 = .ok (.iload 7, 2) := by decide +kernel
theorem dX11_holds_58 : decode cX11_holds 58 = .ok (.iaload, 1) := by decide +kernel
theorem dX11_holds_59 : decode cX11_holds 59 = .ok (.if_icmp .gt 24, 3) := by decide +kernel
theorem dX11_holds_62 : decode cX11_holds 62 = .ok (.lload_n 2, 1) := by decide +kernel
theorem dX11_holds_63 : decode cX11_holds 63 = .ok (.aload_n 0, 1) := by decide +kernel
theorem dX11_holds_64 : decode cX11_holds 64 = .ok (.getfield 31, 3) := by decide +kernel
theorem dX11_holds_67 : decode cX11_holds 67 = .ok (.iload 4, 2) := by decide +kernel
theorem dX11_holds_69 : decode cX11_holds 69 = .ok (.iaload, 1) := by decide +kernel
theorem dX11_holds_70 : decode cX11_holds 70 = .ok (.iload_n 1, 1) := by decide +kernel
theorem dX11_holds_71 : decode cX11_holds 71 = .ok (.invokestatic 195, 3) := by decide +kernel
theorem dX11_holds_74 : decode cX11_holds 74 = .ok (.i2l, 1) := by decide +kernel
theorem dX11_holds_75 : decode cX11_holds 75 = .ok (.ladd, 1) := by decide +kernel
theorem dX11_holds_76 : decode cX11_holds 76 = .ok (.lstore_n 2, 1) := by decide +kernel
theorem dX11_holds_77 : decode cX11_holds 77 = .ok (.iinc 4 1, 3) := by decide +kernel
theorem dX11_holds_80 : decode cX11_holds 80 = .ok (.goto (-47), 3) := by decide +kernel
theorem dX11_holds_83 : decode cX11_holds 83 = .ok (.lload_n 2, 1) := by decide +kernel
theorem dX11_holds_84 : decode cX11_holds 84 = .ok (.lload 5, 2) := by decide +kernel
theorem dX11_holds_86 : decode cX11_holds 86 = .ok (.lcmp, 1) := by decide +kernel
theorem dX11_holds_87 : decode cX11_holds 87 = .ok (.ifCond .ge 5, 3) := by decide +kernel
theorem dX11_holds_90 : decode cX11_holds 90 = .ok (.iconst 0, 1) := by decide +kernel
theorem dX11_holds_91 : decode cX11_holds 91 = .ok (.ireturn, 1) := by decide +kernel
theorem dX11_holds_92 : decode cX11_holds 92 = .ok (.iinc 7 1, 3) := by decide +kernel
theorem dX11_holds_95 : decode cX11_holds 95 = .ok (.goto (-84), 3) := by decide +kernel
theorem dX11_holds_98 : decode cX11_holds 98 = .ok (.iconst 1, 1) := by decide +kernel
theorem dX11_holds_99 : decode cX11_holds 99 = .ok (.ireturn, 1) := by decide +kernel
theorem dX11_findLevel_0 : decode cX11_findLevel 0 = .ok (.aload_n 0, 1) := by decide +kernel
theorem dX11_findLevel_1 : decode cX11_findLevel 1 = .ok (.iload_n 1, 1) := by decide +kernel
theorem dX11_findLevel_2 : decode cX11_findLevel 2 = .ok (.invokevirtual 247, 3) := by decide +kernel
theorem dX11_findLevel_5 : decode cX11_findLevel 5 = .ok (.aload_n 0, 1) := by decide +kernel
theorem dX11_findLevel_6 : decode cX11_findLevel 6 = .ok (.getfield 244, 3) := by decide +kernel
theorem dX11_findLevel_9 : decode cX11_findLevel 9 = .ok (.ifCond .ne 5, 3) := by decide +kernel
theorem dX11_findLevel_12 : decode cX11_findLevel 12 = .ok (.iconst 0, 1) := by decide +kernel
theorem dX11_findLevel_13 : decode cX11_findLevel 13 = .ok (.ireturn, 1) := by decide +kernel
theorem dX11_findLevel_14 : decode cX11_findLevel 14 = .ok (.iconst 0, 1) := by decide +kernel
theorem dX11_findLevel_15 : decode cX11_findLevel 15 = .ok (.istore_n 2, 1) := by decide +kernel
theorem dX11_findLevel_16 : decode cX11_findLevel 16 = .ok (.ldc 250, 2) := by decide +kernel
theorem dX11_findLevel_18 : decode cX11_findLevel 18 = .ok (.istore_n 3, 1) := by decide +kernel
theorem dX11_findLevel_19 : decode cX11_findLevel 19 = .ok (.aload_n 0, 1) := by decide +kernel
theorem dX11_findLevel_20 : decode cX11_findLevel 20 = .ok (.iload_n 3, 1) := by decide +kernel
theorem dX11_findLevel_21 : decode cX11_findLevel 21 = .ok (.invokevirtual 251, 3) := by decide +kernel
theorem dX11_findLevel_24 : decode cX11_findLevel 24 = .ok (.ifCond .ne 5, 3) := by decide +kernel
theorem dX11_findLevel_27 : decode cX11_findLevel 27 = .ok (.iconst (-1), 1) := by decide +kernel
theorem dX11_findLevel_28 : decode cX11_findLevel 28 = .ok (.ireturn, 1) := by decide +kernel
theorem dX11_findLevel_29 : decode cX11_findLevel 29 = .ok (.iload_n 3, 1) := by decide +kernel
theorem dX11_findLevel_30 : decode cX11_findLevel 30 = .ok (.iload_n 2, 1) := by decide +kernel
theorem dX11_findLevel_31 : decode cX11_findLevel 31 = .ok (.isub, 1) := by decide +kernel
theorem dX11_findLevel_32 : decode cX11_findLevel 32 = .ok (.iconst 1, 1) := by decide +kernel
theorem dX11_findLevel_33 : decode cX11_findLevel 33 = .ok (.if_icmp .le 31, 3) := by decide +kernel
theorem dX11_findLevel_36 : decode cX11_findLevel 36 = .ok (.iload_n 2, 1) := by decide +kernel
theorem dX11_findLevel_37 : decode cX11_findLevel 37 = .ok (.iload_n 3, 1) := by decide +kernel
theorem dX11_findLevel_38 : decode cX11_findLevel 38 = .ok (.iadd, 1) := by decide +kernel
theorem dX11_findLevel_39 : decode cX11_findLevel 39 = .ok (.iconst 2, 1) := by decide +kernel
theorem dX11_findLevel_40 : decode cX11_findLevel 40 = .ok (.idiv, 1) := by decide +kernel
theorem dX11_findLevel_41 : decode cX11_findLevel 41 = .ok (.istore 4, 2) := by decide +kernel
theorem dX11_findLevel_43 : decode cX11_findLevel 43 = .ok (.aload_n 0, 1) := by decide +kernel
theorem dX11_findLevel_44 : decode cX11_findLevel 44 = .ok (.iload 4, 2) := by decide +kernel
theorem dX11_findLevel_46 : decode cX11_findLevel 46 = .ok (.invokevirtual 251, 3) := by decide +kernel
theorem dX11_findLevel_49 : decode cX11_findLevel 49 = .ok (.ifCond .eq 9, 3) := by decide +kernel
theorem dX11_findLevel_52 : decode cX11_findLevel 52 = .ok (.iload 4, 2) := by decide +kernel
theorem dX11_findLevel_54 : decode cX11_findLevel 54 = .ok (.istore_n 3, 1) := by decide +kernel
theorem dX11_findLevel_55 : decode cX11_findLevel 55 = .ok (.goto 6, 3) := by decide +kernel
theorem dX11_findLevel_58 : decode cX11_findLevel 58 = .ok (.iload 4, 2) := by decide +kernel
theorem dX11_findLevel_60 : decode cX11_findLevel 60 = .ok (.istore_n 2, 1) := by decide +kernel
theorem dX11_findLevel_61 : decode cX11_findLevel 61 = .ok (.goto (-32), 3) := by decide +kernel
theorem dX11_findLevel_64 : decode cX11_findLevel 64 = .ok (.iload_n 3, 1) := by decide +kernel
theorem dX11_findLevel_65 : decode cX11_findLevel 65 = .ok (.ireturn, 1) := by decide +kernel
theorem dX11_level_0 : decode cX11_level 0 = .ok (.aload_n 0, 1) := by decide +kernel
theorem dX11_level_1 : decode cX11_level 1 = .ok (.iload_n 1, 1) := by decide +kernel
theorem dX11_level_2 : decode cX11_level 2 = .ok (.invokevirtual 62, 3) := by decide +kernel
theorem dX11_level_5 : decode cX11_level 5 = .ok (.ifCond .ne 6, 3) := by decide +kernel
theorem dX11_level_8 : decode cX11_level 8 = .ok (.ldc 60, 2) := by decide +kernel
theorem dX11_level_10 : decode cX11_level 10 = .ok (.ireturn, 1) := by decide +kernel
theorem dX11_level_11 : decode cX11_level 11 = .ok (.aload_n 0, 1) := by decide +kernel
theorem dX11_level_12 : decode cX11_level 12 = .ok (.iload_n 1, 1) := by decide +kernel
theorem dX11_level_13 : decode cX11_level 13 = .ok (.invokevirtual 254, 3) := by decide +kernel
theorem dX11_level_16 : decode cX11_level 16 = .ok (.istore_n 2, 1) := by decide +kernel
theorem dX11_level_17 : decode cX11_level 17 = .ok (.iload_n 2, 1) := by decide +kernel
theorem dX11_level_18 : decode cX11_level 18 = .ok (.iconst (-1), 1) := by decide +kernel
theorem dX11_level_19 : decode cX11_level 19 = .ok (.if_icmp .ne 8, 3) := by decide +kernel
theorem dX11_level_22 : decode cX11_level 22 = .ok (.ldc 69, 2) := by decide +kernel
theorem dX11_level_24 : decode cX11_level 24 = .ok (.goto 4, 3) := by decide +kernel
theorem dX11_level_27 : decode cX11_level 27 = .ok (.iload_n 2, 1) := by decide +kernel
theorem dX11_level_28 : decode cX11_level 28 = .ok (.ireturn, 1) := by decide +kernel
theorem dX11_layPays_0 : decode cX11_layPays 0 = .ok (.lconst 0, 1) := by decide +kernel
theorem dX11_layPays_1 : decode cX11_layPays 1 = .ok (.lstore_n 2, 1) := by decide +kernel
theorem dX11_layPays_2 : decode cX11_layPays 2 = .ok (.iconst 0, 1) := by decide +kernel
theorem dX11_layPays_3 : decode cX11_layPays 3 = .ok (.istore 4, 2) := by decide +kernel
theorem dX11_layPays_5 : decode cX11_layPays 5 = .ok (.iload 4, 2) := by decide +kernel
theorem dX11_layPays_7 : decode cX11_layPays 7 = .ok (.aload_n 0, 1) := by decide +kernel
theorem dX11_layPays_8 : decode cX11_layPays 8 = .ok (.getfield 244, 3) := by decide +kernel
theorem dX11_layPays_11 : decode cX11_layPays 11 = .ok (.if_icmp .ge 20, 3) := by decide +kernel
theorem dX11_layPays_14 : decode cX11_layPays 14 = .ok (.lload_n 2, 1) := by decide +kernel
theorem dX11_layPays_15 : decode cX11_layPays 15 = .ok (.aload_n 0, 1) := by decide +kernel
theorem dX11_layPays_16 : decode cX11_layPays 16 = .ok (.getfield 37, 3) := by decide +kernel
theorem dX11_layPays_19 : decode cX11_layPays 19 = .ok (.iload 4, 2) := by decide +kernel
theorem dX11_layPays_21 : decode cX11_layPays 21 = .ok (.iaload, 1) := by decide +kernel
theorem dX11_layPays_22 : decode cX11_layPays 22 = .ok (.i2l, 1) := by decide +kernel
theorem dX11_layPays_23 : decode cX11_layPays 23 = .ok (.ladd, 1) := by decide +kernel
theorem dX11_layPays_24 : decode cX11_layPays 24 = .ok (.lstore_n 2, 1) := by decide +kernel
theorem dX11_layPays_25 : decode cX11_layPays 25 = .ok (.iinc 4 1, 3) := by decide +kernel
theorem dX11_layPays_28 : decode cX11_layPays 28 = .ok (.goto (-23), 3) := by decide +kernel
theorem dX11_layPays_31 : decode cX11_layPays 31 = .ok (.iconst 0, 1) := by decide +kernel
theorem dX11_layPays_32 : decode cX11_layPays 32 = .ok (.istore 4, 2) := by decide +kernel
theorem dX11_layPays_34 : decode cX11_layPays 34 = .ok (.iload 4, 2) := by decide +kernel
theorem dX11_layPays_36 : decode cX11_layPays 36 = .ok (.bipush 24, 2) := by decide +kernel
theorem dX11_layPays_38 : decode cX11_layPays 38 = .ok (.if_icmp .ge 55, 3) := by decide +kernel
theorem dX11_layPays_41 : decode cX11_layPays 41 = .ok (.aload_n 0, 1) := by decide +kernel
theorem dX11_layPays_42 : decode cX11_layPays 42 = .ok (.getfield 31, 3) := by decide +kernel
theorem dX11_layPays_45 : decode cX11_layPays 45 = .ok (.iload 4, 2) := by decide +kernel
theorem dX11_layPays_47 : decode cX11_layPays 47 = .ok (.iaload, 1) := by decide +kernel
theorem dX11_layPays_48 : decode cX11_layPays 48 = .ok (.iload_n 1, 1) := by decide +kernel
theorem dX11_layPays_49 : decode cX11_layPays 49 = .ok (.invokestatic 195, 3) := by decide +kernel
theorem dX11_layPays_52 : decode cX11_layPays 52 = .ok (.istore 5, 2) := by decide +kernel
theorem dX11_layPays_54 : decode cX11_layPays 54 = .ok (.aload_n 0, 1) := by decide +kernel
theorem dX11_layPays_55 : decode cX11_layPays 55 = .ok (.getfield 40, 3) := by decide +kernel
theorem dX11_layPays_58 : decode cX11_layPays 58 = .ok (.iload 4, 2) := by decide +kernel
theorem dX11_layPays_60 : decode cX11_layPays 60 = .ok (.iload 5, 2) := by decide +kernel
theorem dX11_layPays_62 : decode cX11_layPays 62 = .ok (.i2l, 1) := by decide +kernel
theorem dX11_layPays_63 : decode cX11_layPays 63 = .ok (.lload_n 2, 1) := by decide +kernel
theorem dX11_layPays_64 : decode cX11_layPays 64 = .ok (.lcmp, 1) := by decide +kernel
theorem dX11_layPays_65 : decode cX11_layPays 65 = .ok (.ifCond .ge 8, 3) := by decide +kernel
theorem dX11_layPays_68 : decode cX11_layPays 68 = .ok (.iload 5, 2) := by decide +kernel
theorem dX11_layPays_70 : decode cX11_layPays 70 = .ok (.goto 5, 3) := by decide +kernel
theorem dX11_layPays_73 : decode cX11_layPays 73 = .ok (.lload_n 2, 1) := by decide +kernel
theorem dX11_layPays_74 : decode cX11_layPays 74 = .ok (.l2i, 1) := by decide +kernel
theorem dX11_layPays_75 : decode cX11_layPays 75 = .ok (.iastore, 1) := by decide +kernel
theorem dX11_layPays_76 : decode cX11_layPays 76 = .ok (.lload_n 2, 1) := by decide +kernel
theorem dX11_layPays_77 : decode cX11_layPays 77 = .ok (.aload_n 0, 1) := by decide +kernel
theorem dX11_layPays_78 : decode cX11_layPays 78 = .ok (.getfield 40, 3) := by decide +kernel
theorem dX11_layPays_81 : decode cX11_layPays 81 = .ok (.iload 4, 2) := by decide +kernel
theorem dX11_layPays_83 : decode cX11_layPays 83 = .ok (.iaload, 1) := by decide +kernel
theorem dX11_layPays_84 : decode cX11_layPays 84 = .ok (.i2l, 1) := by decide +kernel
theorem dX11_layPays_85 : decode cX11_layPays 85 = .ok (.lsub, 1) := by decide +kernel
theorem dX11_layPays_86 : decode cX11_layPays 86 = .ok (.lstore_n 2, 1) := by decide +kernel
theorem dX11_layPays_87 : decode cX11_layPays 87 = .ok (.iinc 4 1, 3) := by decide +kernel
theorem dX11_layPays_90 : decode cX11_layPays 90 = .ok (.goto (-56), 3) := by decide +kernel
theorem dX11_layPays_93 : decode cX11_layPays 93 = .ok (.return_, 1) := by decide +kernel
theorem dX11_month_0 : decode cX11_month 0 = .ok (.aload_n 0, 1) := by decide +kernel
theorem dX11_month_1 : decode cX11_month 1 = .ok (.iload_n 1, 1) := by decide +kernel
theorem dX11_month_2 : decode cX11_month 2 = .ok (.invokevirtual 62, 3) := by decide +kernel
theorem dX11_month_5 : decode cX11_month 5 = .ok (.ifCond .eq 13, 3) := by decide +kernel
theorem dX11_month_8 : decode cX11_month 8 = .ok (.iload_n 2, 1) := by decide +kernel
theorem dX11_month_9 : decode cX11_month 9 = .ok (.iconst 0, 1) := by decide +kernel
theorem dX11_month_10 : decode cX11_month 10 = .ok (.bipush 23, 2) := by decide +kernel
theorem dX11_month_12 : decode cX11_month 12 = .ok (.invokestatic 56, 3) := by decide +kernel
theorem dX11_month_15 : decode cX11_month 15 = .ok (.ifCond .ne 6, 3) := by decide +kernel
theorem dX11_month_18 : decode cX11_month 18 = .ok (.ldc 60, 2) := by decide +kernel
theorem dX11_month_20 : decode cX11_month 20 = .ok (.ireturn, 1) := by decide +kernel
theorem dX11_month_21 : decode cX11_month 21 = .ok (.aload_n 0, 1) := by decide +kernel
theorem dX11_month_22 : decode cX11_month 22 = .ok (.iload_n 1, 1) := by decide +kernel
theorem dX11_month_23 : decode cX11_month 23 = .ok (.invokevirtual 254, 3) := by decide +kernel
theorem dX11_month_26 : decode cX11_month 26 = .ok (.istore_n 3, 1) := by decide +kernel
theorem dX11_month_27 : decode cX11_month 27 = .ok (.iload_n 3, 1) := by decide +kernel
theorem dX11_month_28 : decode cX11_month 28 = .ok (.iconst (-1), 1) := by decide +kernel
theorem dX11_month_29 : decode cX11_month 29 = .ok (.if_icmp .ne 6, 3) := by decide +kernel
theorem dX11_month_32 : decode cX11_month 32 = .ok (.ldc 69, 2) := by decide +kernel
theorem dX11_month_34 : decode cX11_month 34 = .ok (.ireturn, 1) := by decide +kernel
theorem dX11_month_35 : decode cX11_month 35 = .ok (.aload_n 0, 1) := by decide +kernel
theorem dX11_month_36 : decode cX11_month 36 = .ok (.iload_n 3, 1) := by decide +kernel
theorem dX11_month_37 : decode cX11_month 37 = .ok (.invokevirtual 257, 3) := by decide +kernel
theorem dX11_month_40 : decode cX11_month 40 = .ok (.aload_n 0, 1) := by decide +kernel
theorem dX11_month_41 : decode cX11_month 41 = .ok (.getfield 40, 3) := by decide +kernel
theorem dX11_month_44 : decode cX11_month 44 = .ok (.iload_n 2, 1) := by decide +kernel
theorem dX11_month_45 : decode cX11_month 45 = .ok (.iaload, 1) := by decide +kernel
theorem dX11_month_46 : decode cX11_month 46 = .ok (.ireturn, 1) := by decide +kernel
theorem dX11_room_0 : decode cX11_room 0 = .ok (.aload_n 0, 1) := by decide +kernel
theorem dX11_room_1 : decode cX11_room 1 = .ok (.iload_n 1, 1) := by decide +kernel
theorem dX11_room_2 : decode cX11_room 2 = .ok (.invokevirtual 62, 3) := by decide +kernel
theorem dX11_room_5 : decode cX11_room 5 = .ok (.ifCond .eq 22, 3) := by decide +kernel
theorem dX11_room_8 : decode cX11_room 8 = .ok (.iload_n 2, 1) := by decide +kernel
theorem dX11_room_9 : decode cX11_room 9 = .ok (.iconst 0, 1) := by decide +kernel
theorem dX11_room_10 : decode cX11_room 10 = .ok (.bipush 23, 2) := by decide +kernel
theorem dX11_room_12 : decode cX11_room 12 = .ok (.invokestatic 56, 3) := by decide +kernel
theorem dX11_room_15 : decode cX11_room 15 = .ok (.ifCond .eq 12, 3) := by decide +kernel
theorem dX11_room_18 : decode cX11_room 18 = .ok (.aload_n 0, 1) := by decide +kernel
theorem dX11_room_19 : decode cX11_room 19 = .ok (.iload_n 1, 1) := by decide +kernel
theorem dX11_room_20 : decode cX11_room 20 = .ok (.iload_n 2, 1) := by decide +kernel
theorem dX11_room_21 : decode cX11_room 21 = .ok (.invokevirtual 241, 3) := by decide +kernel
theorem dX11_room_24 : decode cX11_room 24 = .ok (.goto 5, 3) := by decide +kernel
theorem dX11_room_27 : decode cX11_room 27 = .ok (.ldc 60, 2) := by decide +kernel
theorem dX11_room_29 : decode cX11_room 29 = .ok (.ireturn, 1) := by decide +kernel
theorem dX11_tell_0 : decode cX11_tell 0 = .ok (.aload_n 0, 1) := by decide +kernel
theorem dX11_tell_1 : decode cX11_tell 1 = .ok (.getfield 260, 3) := by decide +kernel
theorem dX11_tell_4 : decode cX11_tell 4 = .ok (.bipush 30, 2) := by decide +kernel
theorem dX11_tell_6 : decode cX11_tell 6 = .ok (.if_icmp .ne 6, 3) := by decide +kernel
theorem dX11_tell_9 : decode cX11_tell 9 = .ok (.ldc 61, 2) := by decide +kernel
theorem dX11_tell_11 : decode cX11_tell 11 = .ok (.ireturn, 1) := by decide +kernel
theorem dX11_tell_12 : decode cX11_tell 12 = .ok (.aload_n 0, 1) := by decide +kernel
theorem dX11_tell_13 : decode cX11_tell 13 = .ok (.getfield 43, 3) := by decide +kernel
theorem dX11_tell_16 : decode cX11_tell 16 = .ok (.aload_n 0, 1) := by decide +kernel
theorem dX11_tell_17 : decode cX11_tell 17 = .ok (.getfield 260, 3) := by decide +kernel
theorem dX11_tell_20 : decode cX11_tell 20 = .ok (.iload_n 1, 1) := by decide +kernel
theorem dX11_tell_21 : decode cX11_tell 21 = .ok (.iastore, 1) := by decide +kernel
theorem dX11_tell_22 : decode cX11_tell 22 = .ok (.aload_n 0, 1) := by decide +kernel
theorem dX11_tell_23 : decode cX11_tell 23 = .ok (.dup, 1) := by decide +kernel
theorem dX11_tell_24 : decode cX11_tell 24 = .ok (.getfield 260, 3) := by decide +kernel
theorem dX11_tell_27 : decode cX11_tell 27 = .ok (.iconst 1, 1) := by decide +kernel
theorem dX11_tell_28 : decode cX11_tell 28 = .ok (.iadd, 1) := by decide +kernel
theorem dX11_tell_29 : decode cX11_tell 29 = .ok (.putfield 260, 3) := by decide +kernel
theorem dX11_tell_32 : decode cX11_tell 32 = .ok (.aload_n 0, 1) := by decide +kernel
theorem dX11_tell_33 : decode cX11_tell 33 = .ok (.getfield 260, 3) := by decide +kernel
theorem dX11_tell_36 : decode cX11_tell 36 = .ok (.ireturn, 1) := by decide +kernel
theorem dX11_check_0 : decode cX11_check 0 = .ok (.aload_n 0, 1) := by decide +kernel
theorem dX11_check_1 : decode cX11_check 1 = .ok (.getfield 260, 3) := by decide +kernel
theorem dX11_check_4 : decode cX11_check 4 = .ok (.istore_n 2, 1) := by decide +kernel
theorem dX11_check_5 : decode cX11_check 5 = .ok (.aload_n 0, 1) := by decide +kernel
theorem dX11_check_6 : decode cX11_check 6 = .ok (.iconst 0, 1) := by decide +kernel
theorem dX11_check_7 : decode cX11_check 7 = .ok (.putfield 260, 3) := by decide +kernel
theorem dX11_check_10 : decode cX11_check 10 = .ok (.aload_n 0, 1) := by decide +kernel
theorem dX11_check_11 : decode cX11_check 11 = .ok (.iload_n 1, 1) := by decide +kernel
theorem dX11_check_12 : decode cX11_check 12 = .ok (.invokevirtual 62, 3) := by decide +kernel
theorem dX11_check_15 : decode cX11_check 15 = .ok (.ifCond .ne 6, 3) := by decide +kernel
theorem dX11_check_18 : decode cX11_check 18 = .ok (.ldc 60, 2) := by decide +kernel
theorem dX11_check_20 : decode cX11_check 20 = .ok (.ireturn, 1) := by decide +kernel
theorem dX11_check_21 : decode cX11_check 21 = .ok (.aload_n 0, 1) := by decide +kernel
theorem dX11_check_22 : decode cX11_check 22 = .ok (.iload_n 1, 1) := by decide +kernel
theorem dX11_check_23 : decode cX11_check 23 = .ok (.invokevirtual 254, 3) := by decide +kernel
theorem dX11_check_26 : decode cX11_check 26 = .ok (.istore_n 3, 1) := by decide +kernel
theorem dX11_check_27 : decode cX11_check 27 = .ok (.iload_n 3, 1) := by decide +kernel
theorem dX11_check_28 : decode cX11_check 28 = .ok (.iconst (-1), 1) := by decide +kernel
theorem dX11_check_29 : decode cX11_check 29 = .ok (.if_icmp .ne 6, 3) := by decide +kernel
theorem dX11_check_32 : decode cX11_check 32 = .ok (.ldc 69, 2) := by decide +kernel
theorem dX11_check_34 : decode cX11_check 34 = .ok (.ireturn, 1) := by decide +kernel
theorem dX11_check_35 : decode cX11_check 35 = .ok (.aload_n 0, 1) := by decide +kernel
theorem dX11_check_36 : decode cX11_check 36 = .ok (.iload_n 3, 1) := by decide +kernel
theorem dX11_check_37 : decode cX11_check 37 = .ok (.invokevirtual 257, 3) := by decide +kernel
theorem dX11_check_40 : decode cX11_check 40 = .ok (.iconst 0, 1) := by decide +kernel
theorem dX11_check_41 : decode cX11_check 41 = .ok (.istore 4, 2) := by decide +kernel
theorem dX11_check_43 : decode cX11_check 43 = .ok (.iconst 0, 1) := by decide +kernel
theorem dX11_check_44 : decode cX11_check 44 = .ok (.istore 5, 2) := by decide +kernel
theorem dX11_check_46 : decode cX11_check 46 = .ok (.iload 5, 2) := by decide +kernel
theorem dX11_check_48 : decode cX11_check 48 = .ok (.bipush 24, 2) := by decide +kernel
theorem dX11_check_50 : decode cX11_check 50 = .ok (.if_icmp .ge 30, 3) := by decide +kernel
theorem dX11_check_53 : decode cX11_check 53 = .ok (.aload_n 0, 1) := by decide +kernel
theorem dX11_check_54 : decode cX11_check 54 = .ok (.getfield 40, 3) := by decide +kernel
theorem dX11_check_57 : decode cX11_check 57 = .ok (.iload 5, 2) := by decide +kernel
theorem dX11_check_59 : decode cX11_check 59 = .ok (.iaload, 1) := by decide +kernel
theorem dX11_check_60 : decode cX11_check 60 = .ok (.ifCond .le 10, 3) := by decide +kernel
theorem dX11_check_63 : decode cX11_check 63 = .ok (.iload 5, 2) := by decide +kernel
theorem dX11_check_65 : decode cX11_check 65 = .ok (.iconst 1, 1) := by decide +kernel
theorem dX11_check_66 : decode cX11_check 66 = .ok (.iadd, 1) := by decide +kernel
theorem dX11_check_67 : decode cX11_check 67 = .ok (.goto 5, 3) := by decide +kernel
theorem dX11_check_70 : decode cX11_check 70 = .ok (.iload 4, 2) := by decide +kernel
theorem dX11_check_72 : decode cX11_check 72 = .ok (.istore 4, 2) := by decide +kernel
theorem dX11_check_74 : decode cX11_check 74 = .ok (.iinc 5 1, 3) := by decide +kernel
theorem dX11_check_77 : decode cX11_check 77 = .ok (.goto (-31), 3) := by decide +kernel
theorem dX11_check_80 : decode cX11_check 80 = .ok (.iconst 0, 1) := by decide +kernel
theorem dX11_check_81 : decode cX11_check 81 = .ok (.istore 5, 2) := by decide +kernel
theorem dX11_check_83 : decode cX11_check 83 = .ok (.iload 5, 2) := by decide +kernel
theorem dX11_check_85 : decode cX11_check 85 = .ok (.iload_n 2, 1) := by decide +kernel
theorem dX11_check_86 : decode cX11_check 86 = .ok (.if_icmp .ge 38, 3) := by decide +kernel
theorem dX11_check_89 : decode cX11_check 89 = .ok (.iload 5, 2) := by decide +kernel
theorem dX11_check_91 : decode cX11_check 91 = .ok (.iload 4, 2) := by decide +kernel
theorem dX11_check_93 : decode cX11_check 93 = .ok (.if_icmp .ge 20, 3) := by decide +kernel
theorem dX11_check_96 : decode cX11_check 96 = .ok (.aload_n 0, 1) := by decide +kernel
theorem dX11_check_97 : decode cX11_check 97 = .ok (.getfield 43, 3) := by decide +kernel
theorem dX11_check_100 : decode cX11_check 100 = .ok (.iload 5, 2) := by decide +kernel
theorem dX11_check_102 : decode cX11_check 102 = .ok (.iaload, 1) := by decide +kernel
theorem dX11_check_103 : decode cX11_check 103 = .ok (.aload_n 0, 1) := by decide +kernel
theorem dX11_check_104 : decode cX11_check 104 = .ok (.getfield 40, 3) := by decide +kernel
theorem dX11_check_107 : decode cX11_check 107 = .ok (.iload 5, 2) := by decide +kernel
theorem dX11_check_109 : decode cX11_check 109 = .ok (.iaload, 1) := by decide +kernel
theorem dX11_check_110 : decode cX11_check 110 = .ok (.if_icmp .eq 8, 3) := by decide +kernel
theorem dX11_check_113 : decode cX11_check 113 = .ok (.iconst 1, 1) := by decide +kernel
theorem dX11_check_114 : decode cX11_check 114 = .ok (.iload 5, 2) := by decide +kernel
theorem dX11_check_116 : decode cX11_check 116 = .ok (.iadd, 1) := by decide +kernel
theorem dX11_check_117 : decode cX11_check 117 = .ok (.ireturn, 1) := by decide +kernel
theorem dX11_check_118 : decode cX11_check 118 = .ok (.iinc 5 1, 3) := by decide +kernel
theorem dX11_check_121 : decode cX11_check 121 = .ok (.goto (-38), 3) := by decide +kernel
theorem dX11_check_124 : decode cX11_check 124 = .ok (.iload_n 2, 1) := by decide +kernel
theorem dX11_check_125 : decode cX11_check 125 = .ok (.iload 4, 2) := by decide +kernel
theorem dX11_check_127 : decode cX11_check 127 = .ok (.if_icmp .ge 9, 3) := by decide +kernel
theorem dX11_check_130 : decode cX11_check 130 = .ok (.iconst 1, 1) := by decide +kernel
theorem dX11_check_131 : decode cX11_check 131 = .ok (.iload_n 2, 1) := by decide +kernel
theorem dX11_check_132 : decode cX11_check 132 = .ok (.iadd, 1) := by decide +kernel
theorem dX11_check_133 : decode cX11_check 133 = .ok (.goto 4, 3) := by decide +kernel
theorem dX11_check_136 : decode cX11_check 136 = .ok (.iconst 0, 1) := by decide +kernel
theorem dX11_check_137 : decode cX11_check 137 = .ok (.ireturn, 1) := by decide +kernel
theorem dX11_weights_0 : decode cX11_weights 0 = .ok (.iconst 0, 1) := by decide +kernel
theorem dX11_weights_1 : decode cX11_weights 1 = .ok (.istore_n 2, 1) := by decide +kernel
theorem dX11_weights_2 : decode cX11_weights 2 = .ok (.iconst 0, 1) := by decide +kernel
theorem dX11_weights_3 : decode cX11_weights 3 = .ok (.istore_n 3, 1) := by decide +kernel
theorem dX11_weights_4 : decode cX11_weights 4 = .ok (.iload_n 3, 1) := by decide +kernel
theorem dX11_weights_5 : decode cX11_weights 5 = .ok (.aload_n 0, 1) := by decide +kernel
theorem dX11_weights_6 : decode cX11_weights 6 = .ok (.getfield 7, 3) := by decide +kernel
theorem dX11_weights_9 : decode cX11_weights 9 = .ok (.bipush 19, 2) := by decide +kernel
theorem dX11_weights_11 : decode cX11_weights 11 = .ok (.iaload, 1) := by decide +kernel
theorem dX11_weights_12 : decode cX11_weights 12 = .ok (.if_icmp .ge 48, 3) := by decide +kernel
theorem dX11_weights_15 : decode cX11_weights 15 = .ok (.iload_n 2, 1) := by decide +kernel
theorem dX11_weights_16 : decode cX11_weights 16 = .ok (.aload_n 0, 1) := by decide +kernel
theorem dX11_weights_17 : decode cX11_weights 17 = .ok (.getfield 7, 3) := by decide +kernel
theorem dX11_weights_20 : decode cX11_weights 20 = .ok (.sipush 642, 3) := by decide +kernel
theorem dX11_weights_23 : decode cX11_weights 23 = .ok (.iconst 5, 1) := by decide +kernel
theorem dX11_weights_24 : decode cX11_weights 24 = .ok (.iload_n 3, 1) := by decide +kernel
theorem dX11_weights_25 : decode cX11_weights 25 = .ok (.imul, 1) := by decide +kernel
theorem dX11_weights_26 : decode cX11_weights 26 = .ok (.iadd, 1) := by decide +kernel
theorem dX11_weights_27 : decode cX11_weights 27 = .ok (.iconst 4, 1) := by decide +kernel
theorem dX11_weights_28 : decode cX11_weights 28 = .ok (.iadd, 1) := by decide +kernel
theorem dX11_weights_29 : decode cX11_weights 29 = .ok (.iaload, 1) := by decide +kernel
theorem dX11_weights_30 : decode cX11_weights 30 = .ok (.iload_n 1, 1) := by decide +kernel
theorem dX11_weights_31 : decode cX11_weights 31 = .ok (.if_icmp .ne 20, 3) := by decide +kernel
theorem dX11_weights_34 : decode cX11_weights 34 = .ok (.aload_n 0, 1) := by decide +kernel
theorem dX11_weights_35 : decode cX11_weights 35 = .ok (.getfield 7, 3) := by decide +kernel
theorem dX11_weights_38 : decode cX11_weights 38 = .ok (.sipush 642, 3) := by decide +kernel
theorem dX11_weights_41 : decode cX11_weights 41 = .ok (.iconst 5, 1) := by decide +kernel
theorem dX11_weights_42 : decode cX11_weights 42 = .ok (.iload_n 3, 1) := by decide +kernel
theorem dX11_weights_43 : decode cX11_weights 43 = .ok (.imul, 1) := by decide +kernel
theorem dX11_weights_44 : decode cX11_weights 44 = .ok (.iadd, 1) := by decide +kernel
theorem dX11_weights_45 : decode cX11_weights 45 = .ok (.iconst 3, 1) := by decide +kernel
theorem dX11_weights_46 : decode cX11_weights 46 = .ok (.iadd, 1) := by decide +kernel
theorem dX11_weights_47 : decode cX11_weights 47 = .ok (.iaload, 1) := by decide +kernel
theorem dX11_weights_48 : decode cX11_weights 48 = .ok (.goto 4, 3) := by decide +kernel
theorem dX11_weights_51 : decode cX11_weights 51 = .ok (.iconst 0, 1) := by decide +kernel
theorem dX11_weights_52 : decode cX11_weights 52 = .ok (.iadd, 1) := by decide +kernel
theorem dX11_weights_53 : decode cX11_weights 53 = .ok (.istore_n 2, 1) := by decide +kernel
theorem dX11_weights_54 : decode cX11_weights 54 = .ok (.iinc 3 1, 3) := by decide +kernel
theorem dX11_weights_57 : decode cX11_weights 57 = .ok (.goto (-53), 3) := by decide +kernel
theorem dX11_weights_60 : decode cX11_weights 60 = .ok (.iload_n 2, 1) := by decide +kernel
theorem dX11_weights_61 : decode cX11_weights 61 = .ok (.ireturn, 1) := by decide +kernel
theorem dX11_areAlike_0 : decode cX11_areAlike 0 = .ok (.aload_n 0, 1) := by decide +kernel
theorem dX11_areAlike_1 : decode cX11_areAlike 1 = .ok (.iload_n 1, 1) := by decide +kernel
theorem dX11_areAlike_2 : decode cX11_areAlike 2 = .ok (.invokevirtual 263, 3) := by decide +kernel
theorem dX11_areAlike_5 : decode cX11_areAlike 5 = .ok (.aload_n 0, 1) := by decide +kernel
theorem dX11_areAlike_6 : decode cX11_areAlike 6 = .ok (.iload_n 2, 1) := by decide +kernel
theorem dX11_areAlike_7 : decode cX11_areAlike 7 = .ok (.invokevirtual 263, 3) := by decide +kernel
theorem dX11_areAlike_10 : decode cX11_areAlike 10 = .ok (.isub, 1) := by decide +kernel
theorem dX11_areAlike_11 : decode cX11_areAlike 11 = .ok (.invokestatic 266, 3) := by decide +kernel
theorem dX11_areAlike_14 : decode cX11_areAlike 14 = .ok (.iconst 5, 1) := by decide +kernel
theorem dX11_areAlike_15 : decode cX11_areAlike 15 = .ok (.if_icmp .gt 44, 3) := by decide +kernel
theorem dX11_areAlike_18 : decode cX11_areAlike 18 = .ok (.aload_n 0, 1) := by decide +kernel
theorem dX11_areAlike_19 : decode cX11_areAlike 19 = .ok (.aload_n 0, 1) := by decide +kernel
theorem dX11_areAlike_20 : decode cX11_areAlike 20 = .ok (.getfield 7, 3) := by decide +kernel
theorem dX11_areAlike_23 : decode cX11_areAlike 23 = .ok (.sipush 792, 3) := by decide +kernel
theorem dX11_areAlike_26 : decode cX11_areAlike 26 = .ok (.bipush 10, 2) := by decide +kernel
theorem dX11_areAlike_28 : decode cX11_areAlike 28 = .ok (.iload_n 1, 1) := by decide +kernel
theorem dX11_areAlike_29 : decode cX11_areAlike 29 = .ok (.imul, 1) := by decide +kernel
theorem dX11_areAlike_30 : decode cX11_areAlike 30 = .ok (.iadd, 1) := by decide +kernel
theorem dX11_areAlike_31 : decode cX11_areAlike 31 = .ok (.iaload, 1) := by decide +kernel
theorem dX11_areAlike_32 : decode cX11_areAlike 32 = .ok (.invokevirtual 66, 3) := by decide +kernel
theorem dX11_areAlike_35 : decode cX11_areAlike 35 = .ok (.aload_n 0, 1) := by decide +kernel
theorem dX11_areAlike_36 : decode cX11_areAlike 36 = .ok (.aload_n 0, 1) := by decide +kernel
theorem dX11_areAlike_37 : decode cX11_areAlike 37 = .ok (.getfield 7, 3) := by decide +kernel
theorem dX11_areAlike_40 : decode cX11_areAlike 40 = .ok (.sipush 792, 3) := by decide +kernel
theorem dX11_areAlike_43 : decode cX11_areAlike 43 = .ok (.bipush 10, 2) := by decide +kernel
theorem dX11_areAlike_45 : decode cX11_areAlike 45 = .ok (.iload_n 2, 1) := by decide +kernel
theorem dX11_areAlike_46 : decode cX11_areAlike 46 = .ok (.imul, 1) := by decide +kernel
theorem dX11_areAlike_47 : decode cX11_areAlike 47 = .ok (.iadd, 1) := by decide +kernel
theorem dX11_areAlike_48 : decode cX11_areAlike 48 = .ok (.iaload, 1) := by decide +kernel
theorem dX11_areAlike_49 : decode cX11_areAlike 49 = .ok (.invokevirtual 66, 3) := by decide +kernel
theorem dX11_areAlike_52 : decode cX11_areAlike 52 = .ok (.if_icmp .ne 7, 3) := by decide +kernel
theorem dX11_areAlike_55 : decode cX11_areAlike 55 = .ok (.iconst 1, 1) := by decide +kernel
theorem dX11_areAlike_56 : decode cX11_areAlike 56 = .ok (.goto 4, 3) := by decide +kernel
theorem dX11_areAlike_59 : decode cX11_areAlike 59 = .ok (.iconst 0, 1) := by decide +kernel
theorem dX11_areAlike_60 : decode cX11_areAlike 60 = .ok (.istore_n 3, 1) := by decide +kernel
theorem dX11_areAlike_61 : decode cX11_areAlike 61 = .ok (.iconst 0, 1) := by decide +kernel
theorem dX11_areAlike_62 : decode cX11_areAlike 62 = .ok (.istore 4, 2) := by decide +kernel
theorem dX11_areAlike_64 : decode cX11_areAlike 64 = .ok (.iload 4, 2) := by decide +kernel
theorem dX11_areAlike_66 : decode cX11_areAlike 66 = .ok (.iconst 4, 1) := by decide +kernel
theorem dX11_areAlike_67 : decode cX11_areAlike 67 = .ok (.if_icmp .ge 36, 3) := by decide +kernel
theorem dX11_areAlike_70 : decode cX11_areAlike 70 = .ok (.iload_n 3, 1) := by decide +kernel
theorem dX11_areAlike_71 : decode cX11_areAlike 71 = .ok (.ifCond .eq 24, 3) := by decide +kernel
theorem dX11_areAlike_74 : decode cX11_areAlike 74 = .ok (.aload_n 0, 1) := by decide +kernel
theorem dX11_areAlike_75 : decode cX11_areAlike 75 = .ok (.iload_n 1, 1) := by decide +kernel
theorem dX11_areAlike_76 : decode cX11_areAlike 76 = .ok (.iload 4, 2) := by decide +kernel
theorem dX11_areAlike_78 : decode cX11_areAlike 78 = .ok (.invokevirtual 213, 3) := by decide +kernel
theorem dX11_areAlike_81 : decode cX11_areAlike 81 = .ok (.aload_n 0, 1) := by decide +kernel
theorem dX11_areAlike_82 : decode cX11_areAlike 82 = .ok (.iload_n 2, 1) := by decide +kernel
theorem dX11_areAlike_83 : decode cX11_areAlike 83 = .ok (.iload 4, 2) := by decide +kernel
theorem dX11_areAlike_85 : decode cX11_areAlike 85 = .ok (.invokevirtual 213, 3) := by decide +kernel
theorem dX11_areAlike_88 : decode cX11_areAlike 88 = .ok (.if_icmp .ne 7, 3) := by decide +kernel
theorem dX11_areAlike_91 : decode cX11_areAlike 91 = .ok (.iconst 1, 1) := by decide +kernel
theorem dX11_areAlike_92 : decode cX11_areAlike 92 = .ok (.goto 4, 3) := by decide +kernel
theorem dX11_areAlike_95 : decode cX11_areAlike 95 = .ok (.iconst 0, 1) := by decide +kernel
theorem dX11_areAlike_96 : decode cX11_areAlike 96 = .ok (.istore_n 3, 1) := by decide +kernel
theorem dX11_areAlike_97 : decode cX11_areAlike 97 = .ok (.iinc 4 1, 3) := by decide +kernel
theorem dX11_areAlike_100 : decode cX11_areAlike 100 = .ok (.goto (-36), 3) := by decide +kernel
theorem dX11_areAlike_103 : decode cX11_areAlike 103 = .ok (.iload_n 3, 1) := by decide +kernel
theorem dX11_areAlike_104 : decode cX11_areAlike 104 = .ok (.ireturn, 1) := by decide +kernel
theorem dX11_alike_0 : decode cX11_alike 0 = .ok (.aload_n 0, 1) := by decide +kernel
theorem dX11_alike_1 : decode cX11_alike 1 = .ok (.iload_n 1, 1) := by decide +kernel
theorem dX11_alike_2 : decode cX11_alike 2 = .ok (.invokevirtual 221, 3) := by decide +kernel
theorem dX11_alike_5 : decode cX11_alike 5 = .ok (.ifCond .eq 16, 3) := by decide +kernel
theorem dX11_alike_8 : decode cX11_alike 8 = .ok (.aload_n 0, 1) := by decide +kernel
theorem dX11_alike_9 : decode cX11_alike 9 = .ok (.iload_n 2, 1) := by decide +kernel
theorem dX11_alike_10 : decode cX11_alike 10 = .ok (.invokevirtual 221, 3) := by decide +kernel
theorem dX11_alike_13 : decode cX11_alike 13 = .ok (.ifCond .eq 8, 3) := by decide +kernel
theorem dX11_alike_16 : decode cX11_alike 16 = .ok (.iload_n 1, 1) := by decide +kernel
theorem dX11_alike_17 : decode cX11_alike 17 = .ok (.iload_n 2, 1) := by decide +kernel
theorem dX11_alike_18 : decode cX11_alike 18 = .ok (.if_icmp .ne 6, 3) := by decide +kernel
theorem dX11_alike_21 : decode cX11_alike 21 = .ok (.ldc 60, 2) := by decide +kernel
theorem dX11_alike_23 : decode cX11_alike 23 = .ok (.ireturn, 1) := by decide +kernel
theorem dX11_alike_24 : decode cX11_alike 24 = .ok (.aload_n 0, 1) := by decide +kernel
theorem dX11_alike_25 : decode cX11_alike 25 = .ok (.iload_n 1, 1) := by decide +kernel
theorem dX11_alike_26 : decode cX11_alike 26 = .ok (.iload_n 2, 1) := by decide +kernel
theorem dX11_alike_27 : decode cX11_alike 27 = .ok (.invokevirtual 269, 3) := by decide +kernel
theorem dX11_alike_30 : decode cX11_alike 30 = .ok (.ifCond .eq 7, 3) := by decide +kernel
theorem dX11_alike_33 : decode cX11_alike 33 = .ok (.iconst 1, 1) := by decide +kernel
theorem dX11_alike_34 : decode cX11_alike 34 = .ok (.goto 4, 3) := by decide +kernel
theorem dX11_alike_37 : decode cX11_alike 37 = .ok (.iconst 0, 1) := by decide +kernel
theorem dX11_alike_38 : decode cX11_alike 38 = .ok (.ireturn, 1) := by decide +kernel
theorem dX11_unlike_0 : decode cX11_unlike 0 = .ok (.ldc 55, 2) := by decide +kernel
theorem dX11_unlike_2 : decode cX11_unlike 2 = .ok (.istore_n 1, 1) := by decide +kernel
theorem dX11_unlike_3 : decode cX11_unlike 3 = .ok (.iconst 0, 1) := by decide +kernel
theorem dX11_unlike_4 : decode cX11_unlike 4 = .ok (.istore_n 2, 1) := by decide +kernel
theorem dX11_unlike_5 : decode cX11_unlike 5 = .ok (.iconst 0, 1) := by decide +kernel
theorem dX11_unlike_6 : decode cX11_unlike 6 = .ok (.istore_n 3, 1) := by decide +kernel
theorem dX11_unlike_7 : decode cX11_unlike 7 = .ok (.iload_n 3, 1) := by decide +kernel
theorem dX11_unlike_8 : decode cX11_unlike 8 = .ok (.aload_n 0, 1) := by decide +kernel
theorem dX11_unlike_9 : decode cX11_unlike 9 = .ok (.getfield 7, 3) := by decide +kernel
theorem dX11_unlike_12 : decode cX11_unlike 12 = .ok (.bipush 20, 2) := by decide +kernel
theorem dX11_unlike_14 : decode cX11_unlike 14 = .ok (.iaload, 1) := by decide +kernel
theorem dX11_unlike_15 : decode cX11_unlike 15 = .ok (.if_icmp .ge 99, 3) := by decide +kernel
theorem dX11_unlike_18 : decode cX11_unlike 18 = .ok (.iload_n 3, 1) := by decide +kernel
theorem dX11_unlike_19 : decode cX11_unlike 19 = .ok (.iconst 1, 1) := by decide +kernel
theorem dX11_unlike_20 : decode cX11_unlike 20 = .ok (.iadd, 1) := by decide +kernel
theorem dX11_unlike_21 : decode cX11_unlike 21 = .ok (.istore 4, 2) := by decide +kernel
theorem dX11_unlike_23 : decode cX11_unlike 23 = .ok (.iload 4, 2) := by decide +kernel
theorem dX11_unlike_25 : decode cX11_unlike 25 = .ok (.aload_n 0, 1) := by decide +kernel
theorem dX11_unlike_26 : decode cX11_unlike 26 = .ok (.getfield 7, 3) := by decide +kernel
theorem dX11_unlike_29 : decode cX11_unlike 29 = .ok (.bipush 20, 2) := by decide +kernel
theorem dX11_unlike_31 : decode cX11_unlike 31 = .ok (.iaload, 1) := by decide +kernel
theorem dX11_unlike_32 : decode cX11_unlike 32 = .ok (.if_icmp .ge 76, 3) := by decide +kernel
theorem dX11_unlike_35 : decode cX11_unlike 35 = .ok (.aload_n 0, 1) := by decide +kernel
theorem dX11_unlike_36 : decode cX11_unlike 36 = .ok (.getfield 7, 3) := by decide +kernel
theorem dX11_unlike_39 : decode cX11_unlike 39 = .ok (.sipush 792, 3) := by decide +kernel
theorem dX11_unlike_42 : decode cX11_unlike 42 = .ok (.bipush 10, 2) := by decide +kernel
theorem dX11_unlike_44 : decode cX11_unlike 44 = .ok (.iload_n 3, 1) := by decide +kernel
theorem dX11_unlike_45 : decode cX11_unlike 45 = .ok (.imul, 1) := by decide +kernel
theorem dX11_unlike_46 : decode cX11_unlike 46 = .ok (.iadd, 1) := by decide +kernel
theorem dX11_unlike_47 : decode cX11_unlike 47 = .ok (.iconst 2, 1) := by decide +kernel
theorem dX11_unlike_48 : decode cX11_unlike 48 = .ok (.iadd, 1) := by decide +kernel
theorem dX11_unlike_49 : decode cX11_unlike 49 = .ok (.iaload, 1) := by decide +kernel
theorem dX11_unlike_50 : decode cX11_unlike 50 = .ok (.aload_n 0, 1) := by decide +kernel
theorem dX11_unlike_51 : decode cX11_unlike 51 = .ok (.getfield 7, 3) := by decide +kernel
theorem dX11_unlike_54 : decode cX11_unlike 54 = .ok (.sipush 792, 3) := by decide +kernel
theorem dX11_unlike_57 : decode cX11_unlike 57 = .ok (.bipush 10, 2) := by decide +kernel
theorem dX11_unlike_59 : decode cX11_unlike 59 = .ok (.iload 4, 2) := by decide +kernel
theorem dX11_unlike_61 : decode cX11_unlike 61 = .ok (.imul, 1) := by decide +kernel
theorem dX11_unlike_62 : decode cX11_unlike 62 = .ok (.iadd, 1) := by decide +kernel
theorem dX11_unlike_63 : decode cX11_unlike 63 = .ok (.iconst 2, 1) := by decide +kernel
theorem dX11_unlike_64 : decode cX11_unlike 64 = .ok (.iadd, 1) := by decide +kernel
theorem dX11_unlike_65 : decode cX11_unlike 65 = .ok (.iaload, 1) := by decide +kernel
theorem dX11_unlike_66 : decode cX11_unlike 66 = .ok (.isub, 1) := by decide +kernel
theorem dX11_unlike_67 : decode cX11_unlike 67 = .ok (.invokestatic 266, 3) := by decide +kernel
theorem dX11_unlike_70 : decode cX11_unlike 70 = .ok (.istore 5, 2) := by decide +kernel
theorem dX11_unlike_72 : decode cX11_unlike 72 = .ok (.iload 5, 2) := by decide +kernel
theorem dX11_unlike_74 : decode cX11_unlike 74 = .ok (.iload_n 2, 1) := by decide +kernel
theorem dX11_unlike_75 : decode cX11_unlike 75 = .ok (.if_icmp .le 27, 3) := by decide +kernel
theorem dX11_unlike_78 : decode cX11_unlike 78 = .ok (.aload_n 0, 1) := by decide +kernel
theorem dX11_unlike_79 : decode cX11_unlike 79 = .ok (.iload_n 3, 1) := by decide +kernel
theorem dX11_unlike_80 : decode cX11_unlike 80 = .ok (.iload 4, 2) := by decide +kernel
theorem dX11_unlike_82 : decode cX11_unlike 82 = .ok (.invokevirtual 269, 3) := by decide +kernel
theorem dX11_unlike_85 : decode cX11_unlike 85 = .ok (.ifCond .ne 6, 3) := by decide +kernel
theorem dX11_unlike_88 : decode cX11_unlike 88 = .ok (.goto 14, 3) := by decide +kernel
theorem dX11_unlike_91 : decode cX11_unlike 91 = .ok (.iload 5, 2) := by decide +kernel
theorem dX11_unlike_93 : decode cX11_unlike 93 = .ok (.istore_n 2, 1) := by decide +kernel
theorem dX11_unlike_94 : decode cX11_unlike 94 = .ok (.bipush 100, 2) := by decide +kernel
theorem dX11_unlike_96 : decode cX11_unlike 96 = .ok (.iload_n 3, 1) := by decide +kernel
theorem dX11_unlike_97 : decode cX11_unlike 97 = .ok (.imul, 1) := by decide +kernel
theorem dX11_unlike_98 : decode cX11_unlike 98 = .ok (.iload 4, 2) := by decide +kernel
theorem dX11_unlike_100 : decode cX11_unlike 100 = .ok (.iadd, 1) := by decide +kernel
theorem dX11_unlike_101 : decode cX11_unlike 101 = .ok (.istore_n 1, 1) := by decide +kernel
theorem dX11_unlike_102 : decode cX11_unlike 102 = .ok (.iinc 4 1, 3) := by decide +kernel
theorem dX11_unlike_105 : decode cX11_unlike 105 = .ok (.goto (-82), 3) := by decide +kernel
theorem dX11_unlike_108 : decode cX11_unlike 108 = .ok (.iinc 3 1, 3) := by decide +kernel
theorem dX11_unlike_111 : decode cX11_unlike 111 = .ok (.goto (-104), 3) := by decide +kernel
theorem dX11_unlike_114 : decode cX11_unlike 114 = .ok (.iload_n 1, 1) := by decide +kernel
theorem dX11_unlike_115 : decode cX11_unlike 115 = .ok (.ireturn, 1) := by decide +kernel
theorem dX11_spread_0 : decode cX11_spread 0 = .ok (.iload_n 1, 1) := by decide +kernel
theorem dX11_spread_1 : decode cX11_spread 1 = .ok (.iconst 0, 1) := by decide +kernel
theorem dX11_spread_2 : decode cX11_spread 2 = .ok (.iconst 1, 1) := by decide +kernel
theorem dX11_spread_3 : decode cX11_spread 3 = .ok (.invokestatic 56, 3) := by decide +kernel
theorem dX11_spread_6 : decode cX11_spread 6 = .ok (.ifCond .ne 6, 3) := by decide +kernel
theorem dX11_spread_9 : decode cX11_spread 9 = .ok (.ldc 60, 2) := by decide +kernel
theorem dX11_spread_11 : decode cX11_spread 11 = .ok (.ireturn, 1) := by decide +kernel
theorem dX11_spread_12 : decode cX11_spread 12 = .ok (.iconst (-1), 1) := by decide +kernel
theorem dX11_spread_13 : decode cX11_spread 13 = .ok (.istore_n 2, 1) := by decide +kernel
theorem dX11_spread_14 : decode cX11_spread 14 = .ok (.iconst 0, 1) := by decide +kernel
theorem dX11_spread_15 : decode cX11_spread 15 = .ok (.istore_n 3, 1) := by decide +kernel
theorem dX11_spread_16 : decode cX11_spread 16 = .ok (.iconst 0, 1) := by decide +kernel
theorem dX11_spread_17 : decode cX11_spread 17 = .ok (.istore 4, 2) := by decide +kernel
theorem dX11_spread_19 : decode cX11_spread 19 = .ok (.iload 4, 2) := by decide +kernel
theorem dX11_spread_21 : decode cX11_spread 21 = .ok (.aload_n 0, 1) := by decide +kernel
theorem dX11_spread_22 : decode cX11_spread 22 = .ok (.getfield 7, 3) := by decide +kernel
theorem dX11_spread_25 : decode cX11_spread 25 = .ok (.bipush 20, 2) := by decide +kernel
theorem dX11_spread_27 : decode cX11_spread 27 = .ok (.iaload, 1) := by decide +kernel
theorem dX11_spread_28 : decode cX11_spread 28 = .ok (.if_icmp .ge 67, 3) := by decide +kernel
theorem dX11_spread_31 : decode cX11_spread 31 = .ok (.aload_n 0, 1) := by decide +kernel
theorem dX11_spread_32 : decode cX11_spread 32 = .ok (.iload 4, 2) := by decide +kernel
theorem dX11_spread_34 : decode cX11_spread 34 = .ok (.iload_n 1, 1) := by decide +kernel
theorem dX11_spread_35 : decode cX11_spread 35 = .ok (.ifCond .ne 12, 3) := by decide +kernel
theorem dX11_spread_38 : decode cX11_spread 38 = .ok (.aload_n 0, 1) := by decide +kernel
theorem dX11_spread_39 : decode cX11_spread 39 = .ok (.iload 4, 2) := by decide +kernel
theorem dX11_spread_41 : decode cX11_spread 41 = .ok (.invokevirtual 207, 3) := by decide +kernel
theorem dX11_spread_44 : decode cX11_spread 44 = .ok (.goto 9, 3) := by decide +kernel
theorem dX11_spread_47 : decode cX11_spread 47 = .ok (.aload_n 0, 1) := by decide +kernel
theorem dX11_spread_48 : decode cX11_spread 48 = .ok (.iload 4, 2) := by decide +kernel
theorem dX11_spread_50 : decode cX11_spread 50 = .ok (.invokevirtual 230, 3) := by decide +kernel
theorem dX11_spread_53 : decode cX11_spread 53 = .ok (.invokevirtual 227, 3) := by decide +kernel
theorem dX11_spread_56 : decode cX11_spread 56 = .ok (.istore 5, 2) := by decide +kernel
theorem dX11_spread_58 : decode cX11_spread 58 = .ok (.iload_n 2, 1) := by decide +kernel
theorem dX11_spread_59 : decode cX11_spread 59 = .ok (.iconst (-1), 1) := by decide +kernel
theorem dX11_spread_60 : decode cX11_spread 60 = .ok (.if_icmp .eq 9, 3) := by decide +kernel
theorem dX11_spread_63 : decode cX11_spread 63 = .ok (.iload 5, 2) := by decide +kernel
theorem dX11_spread_65 : decode cX11_spread 65 = .ok (.iload_n 2, 1) := by decide +kernel
theorem dX11_spread_66 : decode cX11_spread 66 = .ok (.if_icmp .ge 8, 3) := by decide +kernel
theorem dX11_spread_69 : decode cX11_spread 69 = .ok (.iload 5, 2) := by decide +kernel
theorem dX11_spread_71 : decode cX11_spread 71 = .ok (.goto 4, 3) := by decide +kernel
theorem dX11_spread_74 : decode cX11_spread 74 = .ok (.iload_n 2, 1) := by decide +kernel
theorem dX11_spread_75 : decode cX11_spread 75 = .ok (.istore_n 2, 1) := by decide +kernel
theorem dX11_spread_76 : decode cX11_spread 76 = .ok (.iload 5, 2) := by decide +kernel
theorem dX11_spread_78 : decode cX11_spread 78 = .ok (.iload_n 3, 1) := by decide +kernel
theorem dX11_spread_79 : decode cX11_spread 79 = .ok (.if_icmp .le 8, 3) := by decide +kernel
theorem dX11_spread_82 : decode cX11_spread 82 = .ok (.iload 5, 2) := by decide +kernel
theorem dX11_spread_84 : decode cX11_spread 84 = .ok (.goto 4, 3) := by decide +kernel
theorem dX11_spread_87 : decode cX11_spread 87 = .ok (.iload_n 3, 1) := by decide +kernel
theorem dX11_spread_88 : decode cX11_spread 88 = .ok (.istore_n 3, 1) := by decide +kernel
theorem dX11_spread_89 : decode cX11_spread 89 = .ok (.iinc 4 1, 3) := by decide +kernel
theorem dX11_spread_92 : decode cX11_spread 92 = .ok (.goto (-73), 3) := by decide +kernel
theorem dX11_spread_95 : decode cX11_spread 95 = .ok (.iload_n 2, 1) := by decide +kernel
theorem dX11_spread_96 : decode cX11_spread 96 = .ok (.iconst (-1), 1) := by decide +kernel
theorem dX11_spread_97 : decode cX11_spread 97 = .ok (.if_icmp .ne 7, 3) := by decide +kernel
theorem dX11_spread_100 : decode cX11_spread 100 = .ok (.iconst 0, 1) := by decide +kernel
theorem dX11_spread_101 : decode cX11_spread 101 = .ok (.goto 6, 3) := by decide +kernel
theorem dX11_spread_104 : decode cX11_spread 104 = .ok (.iload_n 3, 1) := by decide +kernel
theorem dX11_spread_105 : decode cX11_spread 105 = .ok (.iload_n 2, 1) := by decide +kernel
theorem dX11_spread_106 : decode cX11_spread 106 = .ok (.isub, 1) := by decide +kernel
theorem dX11_spread_107 : decode cX11_spread 107 = .ok (.ireturn, 1) := by decide +kernel
theorem dX11_slip_0 : decode cX11_slip 0 = .ok (.aload_n 0, 1) := by decide +kernel
theorem dX11_slip_1 : decode cX11_slip 1 = .ok (.iload_n 1, 1) := by decide +kernel
theorem dX11_slip_2 : decode cX11_slip 2 = .ok (.invokevirtual 62, 3) := by decide +kernel
theorem dX11_slip_5 : decode cX11_slip 5 = .ok (.ifCond .eq 12, 3) := by decide +kernel
theorem dX11_slip_8 : decode cX11_slip 8 = .ok (.iload_n 2, 1) := by decide +kernel
theorem dX11_slip_9 : decode cX11_slip 9 = .ok (.iconst 0, 1) := by decide +kernel
theorem dX11_slip_10 : decode cX11_slip 10 = .ok (.iconst 1, 1) := by decide +kernel
theorem dX11_slip_11 : decode cX11_slip 11 = .ok (.invokestatic 56, 3) := by decide +kernel
theorem dX11_slip_14 : decode cX11_slip 14 = .ok (.ifCond .ne 6, 3) := by decide +kernel
theorem dX11_slip_17 : decode cX11_slip 17 = .ok (.ldc 60, 2) := by decide +kernel
theorem dX11_slip_19 : decode cX11_slip 19 = .ok (.ireturn, 1) := by decide +kernel
theorem dX11_slip_20 : decode cX11_slip 20 = .ok (.aload_n 0, 1) := by decide +kernel
theorem dX11_slip_21 : decode cX11_slip 21 = .ok (.getfield 49, 3) := by decide +kernel
theorem dX11_slip_24 : decode cX11_slip 24 = .ok (.iload_n 2, 1) := by decide +kernel
theorem dX11_slip_25 : decode cX11_slip 25 = .ok (.iaload, 1) := by decide +kernel
theorem dX11_slip_26 : decode cX11_slip 26 = .ok (.iconst (-1), 1) := by decide +kernel
theorem dX11_slip_27 : decode cX11_slip 27 = .ok (.if_icmp .ne 7, 3) := by decide +kernel
theorem dX11_slip_30 : decode cX11_slip 30 = .ok (.ldc_w 272, 3) := by decide +kernel
theorem dX11_slip_33 : decode cX11_slip 33 = .ok (.ireturn, 1) := by decide +kernel
theorem dX11_slip_34 : decode cX11_slip 34 = .ok (.lconst 0, 1) := by decide +kernel
theorem dX11_slip_35 : decode cX11_slip 35 = .ok (.lstore_n 3, 1) := by decide +kernel
theorem dX11_slip_36 : decode cX11_slip 36 = .ok (.iconst 0, 1) := by decide +kernel
theorem dX11_slip_37 : decode cX11_slip 37 = .ok (.istore 5, 2) := by decide +kernel
theorem dX11_slip_39 : decode cX11_slip 39 = .ok (.iload 5, 2) := by decide +kernel
theorem dX11_slip_41 : decode cX11_slip 41 = .ok (.aload_n 0, 1) := by decide +kernel
theorem dX11_slip_42 : decode cX11_slip 42 = .ok (.getfield 49, 3) := by decide +kernel
theorem dX11_slip_45 : decode cX11_slip 45 = .ok (.iload_n 2, 1) := by decide +kernel
theorem dX11_slip_46 : decode cX11_slip 46 = .ok (.iaload, 1) := by decide +kernel
theorem dX11_slip_47 : decode cX11_slip 47 = .ok (.if_icmp .ge 66, 3) := by decide +kernel
theorem dX11_slip_50 : decode cX11_slip 50 = .ok (.aload_n 0, 1) := by decide +kernel
theorem dX11_slip_51 : decode cX11_slip 51 = .ok (.getfield 46, 3) := by decide +kernel
theorem dX11_slip_54 : decode cX11_slip 54 = .ok (.bipush 24, 2) := by decide +kernel
theorem dX11_slip_56 : decode cX11_slip 56 = .ok (.iload_n 2, 1) := by decide +kernel
theorem dX11_slip_57 : decode cX11_slip 57 = .ok (.imul, 1) := by decide +kernel
theorem dX11_slip_58 : decode cX11_slip 58 = .ok (.iload 5, 2) := by decide +kernel
theorem dX11_slip_60 : decode cX11_slip 60 = .ok (.iadd, 1) := by decide +kernel
theorem dX11_slip_61 : decode cX11_slip 61 = .ok (.iaload, 1) := by decide +kernel
theorem dX11_slip_62 : decode cX11_slip 62 = .ok (.istore 6, 2) := by decide +kernel
theorem dX11_slip_64 : decode cX11_slip 64 = .ok (.iload 5, 2) := by decide +kernel
theorem dX11_slip_66 : decode cX11_slip 66 = .ok (.iconst 2, 1) := by decide +kernel
theorem dX11_slip_67 : decode cX11_slip 67 = .ok (.irem, 1) := by decide +kernel
theorem dX11_slip_68 : decode cX11_slip 68 = .ok (.ifCond .ne 11, 3) := by decide +kernel
theorem dX11_slip_71 : decode cX11_slip 71 = .ok (.iload 6, 2) := by decide +kernel
theorem dX11_slip_73 : decode cX11_slip 73 = .ok (.ifCond .ge 17, 3) := by decide +kernel
theorem dX11_slip_76 : decode cX11_slip 76 = .ok (.goto 11, 3) := by decide +kernel
theorem dX11_slip_79 : decode cX11_slip 79 = .ok (.iload 6, 2) := by decide +kernel
theorem dX11_slip_81 : decode cX11_slip 81 = .ok (.i2l, 1) := by decide +kernel
theorem dX11_slip_82 : decode cX11_slip 82 = .ok (.lload_n 3, 1) := by decide +kernel
theorem dX11_slip_83 : decode cX11_slip 83 = .ok (.lcmp, 1) := by decide +kernel
theorem dX11_slip_84 : decode cX11_slip 84 = .ok (.ifCond .eq 6, 3) := by decide +kernel
theorem dX11_slip_87 : decode cX11_slip 87 = .ok (.iload 5, 2) := by decide +kernel
theorem dX11_slip_89 : decode cX11_slip 89 = .ok (.ireturn, 1) := by decide +kernel
theorem dX11_slip_90 : decode cX11_slip 90 = .ok (.lload_n 3, 1) := by decide +kernel
theorem dX11_slip_91 : decode cX11_slip 91 = .ok (.iload 5, 2) := by decide +kernel
theorem dX11_slip_93 : decode cX11_slip 93 = .ok (.iconst 2, 1) := by decide +kernel
theorem dX11_slip_94 : decode cX11_slip 94 = .ok (.irem, 1) := by decide +kernel
theorem dX11_slip_95 : decode cX11_slip 95 = .ok (.ifCond .ne 9, 3) := by decide +kernel
theorem dX11_slip_98 : decode cX11_slip 98 = .ok (.iload 6, 2) := by decide +kernel
theorem dX11_slip_100 : decode cX11_slip 100 = .ok (.i2l, 1) := by decide +kernel
theorem dX11_slip_101 : decode cX11_slip 101 = .ok (.goto 4, 3) := by decide +kernel
theorem dX11_slip_104 : decode cX11_slip 104 = .ok (.lconst 0, 1) := by decide +kernel
theorem dX11_slip_105 : decode cX11_slip 105 = .ok (.ladd, 1) := by decide +kernel
theorem dX11_slip_106 : decode cX11_slip 106 = .ok (.lstore_n 3, 1) := by decide +kernel
theorem dX11_slip_107 : decode cX11_slip 107 = .ok (.iinc 5 1, 3) := by decide +kernel
theorem dX11_slip_110 : decode cX11_slip 110 = .ok (.goto (-71), 3) := by decide +kernel
theorem dX11_slip_113 : decode cX11_slip 113 = .ok (.lload_n 3, 1) := by decide +kernel
theorem dX11_slip_114 : decode cX11_slip 114 = .ok (.ldc2_w 273, 3) := by decide +kernel
theorem dX11_slip_117 : decode cX11_slip 117 = .ok (.aload_n 0, 1) := by decide +kernel
theorem dX11_slip_118 : decode cX11_slip 118 = .ok (.iload_n 1, 1) := by decide +kernel
theorem dX11_slip_119 : decode cX11_slip 119 = .ok (.iconst 0, 1) := by decide +kernel
theorem dX11_slip_120 : decode cX11_slip 120 = .ok (.aload_n 0, 1) := by decide +kernel
theorem dX11_slip_121 : decode cX11_slip 121 = .ok (.getfield 7, 3) := by decide +kernel
theorem dX11_slip_124 : decode cX11_slip 124 = .ok (.iconst 0, 1) := by decide +kernel
theorem dX11_slip_125 : decode cX11_slip 125 = .ok (.iaload, 1) := by decide +kernel
theorem dX11_slip_126 : decode cX11_slip 126 = .ok (.aload_n 0, 1) := by decide +kernel
theorem dX11_slip_127 : decode cX11_slip 127 = .ok (.getfield 7, 3) := by decide +kernel
theorem dX11_slip_130 : decode cX11_slip 130 = .ok (.iconst 0, 1) := by decide +kernel
theorem dX11_slip_131 : decode cX11_slip 131 = .ok (.iaload, 1) := by decide +kernel
theorem dX11_slip_132 : decode cX11_slip 132 = .ok (.invokevirtual 71, 3) := by decide +kernel
theorem dX11_slip_135 : decode cX11_slip 135 = .ok (.i2l, 1) := by decide +kernel
theorem dX11_slip_136 : decode cX11_slip 136 = .ok (.lmul, 1) := by decide +kernel
theorem dX11_slip_137 : decode cX11_slip 137 = .ok (.lsub, 1) := by decide +kernel
theorem dX11_slip_138 : decode cX11_slip 138 = .ok (.lstore 5, 2) := by decide +kernel
theorem dX11_slip_140 : decode cX11_slip 140 = .ok (.aload_n 0, 1) := by decide +kernel
theorem dX11_slip_141 : decode cX11_slip 141 = .ok (.getfield 49, 3) := by decide +kernel
theorem dX11_slip_144 : decode cX11_slip 144 = .ok (.iload_n 2, 1) := by decide +kernel
theorem dX11_slip_145 : decode cX11_slip 145 = .ok (.iaload, 1) := by decide +kernel
theorem dX11_slip_146 : decode cX11_slip 146 = .ok (.bipush 24, 2) := by decide +kernel
theorem dX11_slip_148 : decode cX11_slip 148 = .ok (.if_icmp .ne 37, 3) := by decide +kernel
theorem dX11_slip_151 : decode cX11_slip 151 = .ok (.lload 5, 2) := by decide +kernel
theorem dX11_slip_153 : decode cX11_slip 153 = .ok (.aload_n 0, 1) := by decide +kernel
theorem dX11_slip_154 : decode cX11_slip 154 = .ok (.getfield 7, 3) := by decide +kernel
theorem dX11_slip_157 : decode cX11_slip 157 = .ok (.bipush 16, 2) := by decide +kernel
theorem dX11_slip_159 : decode cX11_slip 159 = .ok (.iaload, 1) := by decide +kernel
theorem dX11_slip_160 : decode cX11_slip 160 = .ok (.i2l, 1) := by decide +kernel
theorem dX11_slip_161 : decode cX11_slip 161 = .ok (.lcmp, 1) := by decide +kernel
theorem dX11_slip_162 : decode cX11_slip 162 = .ok (.ifCond .gt 18, 3) := by decide +kernel
theorem dX11_slip_165 : decode cX11_slip 165 = .ok (.lload 5, 2) := by decide +kernel
theorem dX11_slip_167 : decode cX11_slip 167 = .ok (.aload_n 0, 1) := by decide +kernel
theorem dX11_slip_168 : decode cX11_slip 168 = .ok (.getfield 7, 3) := by decide +kernel
theorem dX11_slip_171 : decode cX11_slip 171 = .ok (.bipush 16, 2) := by decide +kernel
theorem dX11_slip_173 : decode cX11_slip 173 = .ok (.iaload, 1) := by decide +kernel
theorem dX11_slip_174 : decode cX11_slip 174 = .ok (.ineg, 1) := by decide +kernel
theorem dX11_slip_175 : decode cX11_slip 175 = .ok (.i2l, 1) := by decide +kernel
theorem dX11_slip_176 : decode cX11_slip 176 = .ok (.lcmp, 1) := by decide +kernel
theorem dX11_slip_177 : decode cX11_slip 177 = .ok (.ifCond .ge 8, 3) := by decide +kernel
theorem dX11_slip_180 : decode cX11_slip 180 = .ok (.bipush 23, 2) := by decide +kernel
theorem dX11_slip_182 : decode cX11_slip 182 = .ok (.goto 5, 3) := by decide +kernel
theorem dX11_slip_185 : decode cX11_slip 185 = .ok (.ldc 55, 2) := by decide +kernel
theorem dX11_slip_187 : decode cX11_slip 187 = .ok (.ireturn, 1) := by decide +kernel
theorem dX11_keep_0 : decode cX11_keep 0 = .ok (.iconst 0, 1) := by decide +kernel
theorem dX11_keep_1 : decode cX11_keep 1 = .ok (.istore_n 1, 1) := by decide +kernel
theorem dX11_keep_2 : decode cX11_keep 2 = .ok (.iload_n 1, 1) := by decide +kernel
theorem dX11_keep_3 : decode cX11_keep 3 = .ok (.sipush 1675, 3) := by decide +kernel
theorem dX11_keep_6 : decode cX11_keep 6 = .ok (.if_icmp .ge 21, 3) := by decide +kernel
theorem dX11_keep_9 : decode cX11_keep 9 = .ok (.aload_n 0, 1) := by decide +kernel
theorem dX11_keep_10 : decode cX11_keep 10 = .ok (.getfield 13, 3) := by decide +kernel
theorem dX11_keep_13 : decode cX11_keep 13 = .ok (.iload_n 1, 1) := by decide +kernel
theorem dX11_keep_14 : decode cX11_keep 14 = .ok (.aload_n 0, 1) := by decide +kernel
theorem dX11_keep_15 : decode cX11_keep 15 = .ok (.getfield 7, 3) := by decide +kernel
theorem dX11_keep_18 : decode cX11_keep 18 = .ok (.iload_n 1, 1) := by decide +kernel
theorem dX11_keep_19 : decode cX11_keep 19 = .ok (.iaload, 1) := by decide +kernel
theorem dX11_keep_20 : decode cX11_keep 20 = .ok (.iastore, 1) := by decide +kernel
theorem dX11_keep_21 : decode cX11_keep 21 = .ok (.iinc 1 1, 3) := by decide +kernel
theorem dX11_keep_24 : decode cX11_keep 24 = .ok (.goto (-22), 3) := by decide +kernel
theorem dX11_keep_27 : decode cX11_keep 27 = .ok (.aload_n 0, 1) := by decide +kernel
theorem dX11_keep_28 : decode cX11_keep 28 = .ok (.iconst 1, 1) := by decide +kernel
theorem dX11_keep_29 : decode cX11_keep 29 = .ok (.putfield 275, 3) := by decide +kernel
theorem dX11_keep_32 : decode cX11_keep 32 = .ok (.aload_n 0, 1) := by decide +kernel
theorem dX11_keep_33 : decode cX11_keep 33 = .ok (.getfield 7, 3) := by decide +kernel
theorem dX11_keep_36 : decode cX11_keep 36 = .ok (.iconst 0, 1) := by decide +kernel
theorem dX11_keep_37 : decode cX11_keep 37 = .ok (.iaload, 1) := by decide +kernel
theorem dX11_keep_38 : decode cX11_keep 38 = .ok (.ireturn, 1) := by decide +kernel
theorem dX11_again_0 : decode cX11_again 0 = .ok (.aload_n 0, 1) := by decide +kernel
theorem dX11_again_1 : decode cX11_again 1 = .ok (.getfield 275, 3) := by decide +kernel
theorem dX11_again_4 : decode cX11_again 4 = .ok (.ifCond .ne 6, 3) := by decide +kernel
theorem dX11_again_7 : decode cX11_again 7 = .ok (.ldc 69, 2) := by decide +kernel
theorem dX11_again_9 : decode cX11_again 9 = .ok (.ireturn, 1) := by decide +kernel
theorem dX11_again_10 : decode cX11_again 10 = .ok (.iconst 0, 1) := by decide +kernel
theorem dX11_again_11 : decode cX11_again 11 = .ok (.istore_n 1, 1) := by decide +kernel
theorem dX11_again_12 : decode cX11_again 12 = .ok (.iload_n 1, 1) := by decide +kernel
theorem dX11_again_13 : decode cX11_again 13 = .ok (.sipush 1675, 3) := by decide +kernel
theorem dX11_again_16 : decode cX11_again 16 = .ok (.if_icmp .ge 21, 3) := by decide +kernel
theorem dX11_again_19 : decode cX11_again 19 = .ok (.aload_n 0, 1) := by decide +kernel
theorem dX11_again_20 : decode cX11_again 20 = .ok (.getfield 7, 3) := by decide +kernel
theorem dX11_again_23 : decode cX11_again 23 = .ok (.iload_n 1, 1) := by decide +kernel
theorem dX11_again_24 : decode cX11_again 24 = .ok (.aload_n 0, 1) := by decide +kernel
theorem dX11_again_25 : decode cX11_again 25 = .ok (.getfield 13, 3) := by decide +kernel
theorem dX11_again_28 : decode cX11_again 28 = .ok (.iload_n 1, 1) := by decide +kernel
theorem dX11_again_29 : decode cX11_again 29 = .ok (.iaload, 1) := by decide +kernel
theorem dX11_again_30 : decode cX11_again 30 = .ok (.iastore, 1) := by decide +kernel
theorem dX11_again_31 : decode cX11_again 31 = .ok (.iinc 1 1, 3) := by decide +kernel
theorem dX11_again_34 : decode cX11_again 34 = .ok (.goto (-22), 3) := by decide +kernel
theorem dX11_again_37 : decode cX11_again 37 = .ok (.aload_n 0, 1) := by decide +kernel
theorem dX11_again_38 : decode cX11_again 38 = .ok (.getfield 7, 3) := by decide +kernel
theorem dX11_again_41 : decode cX11_again 41 = .ok (.iconst 0, 1) := by decide +kernel
theorem dX11_again_42 : decode cX11_again 42 = .ok (.iaload, 1) := by decide +kernel
theorem dX11_again_43 : decode cX11_again 43 = .ok (.ireturn, 1) := by decide +kernel
theorem dX11_sheet_0 : decode cX11_sheet 0 = .ok (.iload_n 1, 1) := by decide +kernel
theorem dX11_sheet_1 : decode cX11_sheet 1 = .ok (.iconst 0, 1) := by decide +kernel
theorem dX11_sheet_2 : decode cX11_sheet 2 = .ok (.iconst 1, 1) := by decide +kernel
theorem dX11_sheet_3 : decode cX11_sheet 3 = .ok (.invokestatic 56, 3) := by decide +kernel
theorem dX11_sheet_6 : decode cX11_sheet 6 = .ok (.ifCond .eq 9, 3) := by decide +kernel
theorem dX11_sheet_9 : decode cX11_sheet 9 = .ok (.iload_n 2, 1) := by decide +kernel
theorem dX11_sheet_10 : decode cX11_sheet 10 = .ok (.bipush 24, 2) := by decide +kernel
theorem dX11_sheet_12 : decode cX11_sheet 12 = .ok (.if_icmp .le 6, 3) := by decide +kernel
theorem dX11_sheet_15 : decode cX11_sheet 15 = .ok (.ldc 60, 2) := by decide +kernel
theorem dX11_sheet_17 : decode cX11_sheet 17 = .ok (.ireturn, 1) := by decide +kernel
theorem dX11_sheet_18 : decode cX11_sheet 18 = .ok (.iload_n 2, 1) := by decide +kernel
theorem dX11_sheet_19 : decode cX11_sheet 19 = .ok (.ifCond .ge 7, 3) := by decide +kernel
theorem dX11_sheet_22 : decode cX11_sheet 22 = .ok (.ldc_w 278, 3) := by decide +kernel
theorem dX11_sheet_25 : decode cX11_sheet 25 = .ok (.ireturn, 1) := by decide +kernel
theorem dX11_sheet_26 : decode cX11_sheet 26 = .ok (.aload_n 0, 1) := by decide +kernel
theorem dX11_sheet_27 : decode cX11_sheet 27 = .ok (.getfield 49, 3) := by decide +kernel
theorem dX11_sheet_30 : decode cX11_sheet 30 = .ok (.iload_n 1, 1) := by decide +kernel
theorem dX11_sheet_31 : decode cX11_sheet 31 = .ok (.iload_n 2, 1) := by decide +kernel
theorem dX11_sheet_32 : decode cX11_sheet 32 = .ok (.iastore, 1) := by decide +kernel
theorem dX11_sheet_33 : decode cX11_sheet 33 = .ok (.iconst 0, 1) := by decide +kernel
theorem dX11_sheet_34 : decode cX11_sheet 34 = .ok (.istore_n 3, 1) := by decide +kernel
theorem dX11_sheet_35 : decode cX11_sheet 35 = .ok (.iload_n 3, 1) := by decide +kernel
theorem dX11_sheet_36 : decode cX11_sheet 36 = .ok (.iload_n 2, 1) := by decide +kernel
theorem dX11_sheet_37 : decode cX11_sheet 37 = .ok (.if_icmp .ge 21, 3) := by decide +kernel
theorem dX11_sheet_40 : decode cX11_sheet 40 = .ok (.aload_n 0, 1) := by decide +kernel
theorem dX11_sheet_41 : decode cX11_sheet 41 = .ok (.getfield 46, 3) := by decide +kernel
theorem dX11_sheet_44 : decode cX11_sheet 44 = .ok (.bipush 24, 2) := by decide +kernel
theorem dX11_sheet_46 : decode cX11_sheet 46 = .ok (.iload_n 1, 1) := by decide +kernel
theorem dX11_sheet_47 : decode cX11_sheet 47 = .ok (.imul, 1) := by decide +kernel
theorem dX11_sheet_48 : decode cX11_sheet 48 = .ok (.iload_n 3, 1) := by decide +kernel
theorem dX11_sheet_49 : decode cX11_sheet 49 = .ok (.iadd, 1) := by decide +kernel
theorem dX11_sheet_50 : decode cX11_sheet 50 = .ok (.iconst 0, 1) := by decide +kernel
theorem dX11_sheet_51 : decode cX11_sheet 51 = .ok (.iastore, 1) := by decide +kernel
theorem dX11_sheet_52 : decode cX11_sheet 52 = .ok (.iinc 3 1, 3) := by decide +kernel
theorem dX11_sheet_55 : decode cX11_sheet 55 = .ok (.goto (-20), 3) := by decide +kernel
theorem dX11_sheet_58 : decode cX11_sheet 58 = .ok (.iload_n 2, 1) := by decide +kernel
theorem dX11_sheet_59 : decode cX11_sheet 59 = .ok (.ireturn, 1) := by decide +kernel
theorem dX11_mark_0 : decode cX11_mark 0 = .ok (.iload_n 1, 1) := by decide +kernel
theorem dX11_mark_1 : decode cX11_mark 1 = .ok (.iconst 0, 1) := by decide +kernel
theorem dX11_mark_2 : decode cX11_mark 2 = .ok (.iconst 1, 1) := by decide +kernel
theorem dX11_mark_3 : decode cX11_mark 3 = .ok (.invokestatic 56, 3) := by decide +kernel
theorem dX11_mark_6 : decode cX11_mark 6 = .ok (.ifCond .ne 6, 3) := by decide +kernel
theorem dX11_mark_9 : decode cX11_mark 9 = .ok (.ldc 60, 2) := by decide +kernel
theorem dX11_mark_11 : decode cX11_mark 11 = .ok (.ireturn, 1) := by decide +kernel
theorem dX11_mark_12 : decode cX11_mark 12 = .ok (.aload_n 0, 1) := by decide +kernel
theorem dX11_mark_13 : decode cX11_mark 13 = .ok (.getfield 49, 3) := by decide +kernel
theorem dX11_mark_16 : decode cX11_mark 16 = .ok (.iload_n 1, 1) := by decide +kernel
theorem dX11_mark_17 : decode cX11_mark 17 = .ok (.iaload, 1) := by decide +kernel
theorem dX11_mark_18 : decode cX11_mark 18 = .ok (.iconst (-1), 1) := by decide +kernel
theorem dX11_mark_19 : decode cX11_mark 19 = .ok (.if_icmp .ne 7, 3) := by decide +kernel
theorem dX11_mark_22 : decode cX11_mark 22 = .ok (.ldc_w 272, 3) := by decide +kernel
theorem dX11_mark_25 : decode cX11_mark 25 = .ok (.ireturn, 1) := by decide +kernel
theorem dX11_mark_26 : decode cX11_mark 26 = .ok (.iload_n 2, 1) := by decide +kernel
theorem dX11_mark_27 : decode cX11_mark 27 = .ok (.iconst 0, 1) := by decide +kernel
theorem dX11_mark_28 : decode cX11_mark 28 = .ok (.aload_n 0, 1) := by decide +kernel
theorem dX11_mark_29 : decode cX11_mark 29 = .ok (.getfield 49, 3) := by decide +kernel
theorem dX11_mark_32 : decode cX11_mark 32 = .ok (.iload_n 1, 1) := by decide +kernel
theorem dX11_mark_33 : decode cX11_mark 33 = .ok (.iaload, 1) := by decide +kernel
theorem dX11_mark_34 : decode cX11_mark 34 = .ok (.iconst 1, 1) := by decide +kernel
theorem dX11_mark_35 : decode cX11_mark 35 = .ok (.isub, 1) := by decide +kernel
theorem dX11_mark_36 : decode cX11_mark 36 = .ok (.invokestatic 56, 3) := by decide +kernel
theorem dX11_mark_39 : decode cX11_mark 39 = .ok (.ifCond .ne 7, 3) := by decide +kernel
theorem dX11_mark_42 : decode cX11_mark 42 = .ok (.ldc_w 279, 3) := by decide +kernel
theorem dX11_mark_45 : decode cX11_mark 45 = .ok (.ireturn, 1) := by decide +kernel
theorem dX11_mark_46 : decode cX11_mark 46 = .ok (.aload_n 0, 1) := by decide +kernel
theorem dX11_mark_47 : decode cX11_mark 47 = .ok (.getfield 46, 3) := by decide +kernel
theorem dX11_mark_50 : decode cX11_mark 50 = .ok (.bipush 24, 2) := by decide +kernel
theorem dX11_mark_52 : decode cX11_mark 52 = .ok (.iload_n 1, 1) := by decide +kernel
theorem dX11_mark_53 : decode cX11_mark 53 = .ok (.imul, 1) := by decide +kernel
theorem dX11_mark_54 : decode cX11_mark 54 = .ok (.iload_n 2, 1) := by decide +kernel
theorem dX11_mark_55 : decode cX11_mark 55 = .ok (.iadd, 1) := by decide +kernel
theorem dX11_mark_56 : decode cX11_mark 56 = .ok (.iaload, 1) := by decide +kernel
theorem dX11_mark_57 : decode cX11_mark 57 = .ok (.istore 4, 2) := by decide +kernel
theorem dX11_mark_59 : decode cX11_mark 59 = .ok (.aload_n 0, 1) := by decide +kernel
theorem dX11_mark_60 : decode cX11_mark 60 = .ok (.getfield 46, 3) := by decide +kernel
theorem dX11_mark_63 : decode cX11_mark 63 = .ok (.bipush 24, 2) := by decide +kernel
theorem dX11_mark_65 : decode cX11_mark 65 = .ok (.iload_n 1, 1) := by decide +kernel
theorem dX11_mark_66 : decode cX11_mark 66 = .ok (.imul, 1) := by decide +kernel
theorem dX11_mark_67 : decode cX11_mark 67 = .ok (.iload_n 2, 1) := by decide +kernel
theorem dX11_mark_68 : decode cX11_mark 68 = .ok (.iadd, 1) := by decide +kernel
theorem dX11_mark_69 : decode cX11_mark 69 = .ok (.iload_n 3, 1) := by decide +kernel
theorem dX11_mark_70 : decode cX11_mark 70 = .ok (.iastore, 1) := by decide +kernel
theorem dX11_mark_71 : decode cX11_mark 71 = .ok (.iload 4, 2) := by decide +kernel
theorem dX11_mark_73 : decode cX11_mark 73 = .ok (.ireturn, 1) := by decide +kernel
theorem dX11_copy_0 : decode cX11_copy 0 = .ok (.iload_n 1, 1) := by decide +kernel
theorem dX11_copy_1 : decode cX11_copy 1 = .ok (.iconst 0, 1) := by decide +kernel
theorem dX11_copy_2 : decode cX11_copy 2 = .ok (.iconst 1, 1) := by decide +kernel
theorem dX11_copy_3 : decode cX11_copy 3 = .ok (.invokestatic 56, 3) := by decide +kernel
theorem dX11_copy_6 : decode cX11_copy 6 = .ok (.ifCond .eq 12, 3) := by decide +kernel
theorem dX11_copy_9 : decode cX11_copy 9 = .ok (.iload_n 3, 1) := by decide +kernel
theorem dX11_copy_10 : decode cX11_copy 10 = .ok (.iconst 0, 1) := by decide +kernel
theorem dX11_copy_11 : decode cX11_copy 11 = .ok (.iconst 1, 1) := by decide +kernel
theorem dX11_copy_12 : decode cX11_copy 12 = .ok (.invokestatic 56, 3) := by decide +kernel
theorem dX11_copy_15 : decode cX11_copy 15 = .ok (.ifCond .ne 6, 3) := by decide +kernel
theorem dX11_copy_18 : decode cX11_copy 18 = .ok (.ldc 60, 2) := by decide +kernel
theorem dX11_copy_20 : decode cX11_copy 20 = .ok (.ireturn, 1) := by decide +kernel
theorem dX11_copy_21 : decode cX11_copy 21 = .ok (.aload_n 0, 1) := by decide +kernel
theorem dX11_copy_22 : decode cX11_copy 22 = .ok (.getfield 49, 3) := by decide +kernel
theorem dX11_copy_25 : decode cX11_copy 25 = .ok (.iload_n 1, 1) := by decide +kernel
theorem dX11_copy_26 : decode cX11_copy 26 = .ok (.iaload, 1) := by decide +kernel
theorem dX11_copy_27 : decode cX11_copy 27 = .ok (.iconst (-1), 1) := by decide +kernel
theorem dX11_copy_28 : decode cX11_copy 28 = .ok (.if_icmp .eq 13, 3) := by decide +kernel
theorem dX11_copy_31 : decode cX11_copy 31 = .ok (.aload_n 0, 1) := by decide +kernel
theorem dX11_copy_32 : decode cX11_copy 32 = .ok (.getfield 49, 3) := by decide +kernel
theorem dX11_copy_35 : decode cX11_copy 35 = .ok (.iload_n 3, 1) := by decide +kernel
theorem dX11_copy_36 : decode cX11_copy 36 = .ok (.iaload, 1) := by decide +kernel
theorem dX11_copy_37 : decode cX11_copy 37 = .ok (.iconst (-1), 1) := by decide +kernel
theorem dX11_copy_38 : decode cX11_copy 38 = .ok (.if_icmp .ne 7, 3) := by decide +kernel
theorem dX11_copy_41 : decode cX11_copy 41 = .ok (.ldc_w 272, 3) := by decide +kernel
theorem dX11_copy_44 : decode cX11_copy 44 = .ok (.ireturn, 1) := by decide +kernel
theorem dX11_copy_45 : decode cX11_copy 45 = .ok (.iload_n 2, 1) := by decide +kernel
theorem dX11_copy_46 : decode cX11_copy 46 = .ok (.ifCond .lt 40, 3) := by decide +kernel
theorem dX11_copy_49 : decode cX11_copy 49 = .ok (.iload 4, 2) := by decide +kernel
theorem dX11_copy_51 : decode cX11_copy 51 = .ok (.ifCond .lt 35, 3) := by decide +kernel
theorem dX11_copy_54 : decode cX11_copy 54 = .ok (.iload 5, 2) := by decide +kernel
theorem dX11_copy_56 : decode cX11_copy 56 = .ok (.ifCond .lt 30, 3) := by decide +kernel
theorem dX11_copy_59 : decode cX11_copy 59 = .ok (.iload_n 2, 1) := by decide +kernel
theorem dX11_copy_60 : decode cX11_copy 60 = .ok (.aload_n 0, 1) := by decide +kernel
theorem dX11_copy_61 : decode cX11_copy 61 = .ok (.getfield 49, 3) := by decide +kernel
theorem dX11_copy_64 : decode cX11_copy 64 = .ok (.iload_n 1, 1) := by decide +kernel
theorem dX11_copy_65 : decode cX11_copy 65 = .ok (.iaload, 1) := by decide +kernel
theorem dX11_copy_66 : decode cX11_copy 66 = .ok (.iload 5, 2) := by decide +kernel
theorem dX11_copy_68 : decode cX11_copy 68 = .ok (.isub, 1) := by decide +kernel
theorem dX11_copy_69 : decode cX11_copy 69 = .ok (.if_icmp .gt 17, 3) := by decide +kernel
theorem dX11_copy_72 : decode cX11_copy 72 = .ok (.iload 4, 2) := by decide +kernel
theorem dX11_copy_74 : decode cX11_copy 74 = .ok (.aload_n 0, 1) := by decide +kernel
theorem dX11_copy_75 : decode cX11_copy 75 = .ok (.getfield 49, 3) := by decide +kernel
theorem dX11_copy_78 : decode cX11_copy 78 = .ok (.iload_n 3, 1) := by decide +kernel
theorem dX11_copy_79 : decode cX11_copy 79 = .ok (.iaload, 1) := by decide +kernel
theorem dX11_copy_80 : decode cX11_copy 80 = .ok (.iload 5, 2) := by decide +kernel
theorem dX11_copy_82 : decode cX11_copy 82 = .ok (.isub, 1) := by decide +kernel
theorem dX11_copy_83 : decode cX11_copy 83 = .ok (.if_icmp .le 7, 3) := by decide +kernel
theorem dX11_copy_86 : decode cX11_copy 86 = .ok (.ldc_w 279, 3) := by decide +kernel
theorem dX11_copy_89 : decode cX11_copy 89 = .ok (.ireturn, 1) := by decide +kernel
theorem dX11_copy_90 : decode cX11_copy 90 = .ok (.iconst 0, 1) := by decide +kernel
theorem dX11_copy_91 : decode cX11_copy 91 = .ok (.istore 6, 2) := by decide +kernel
theorem dX11_copy_93 : decode cX11_copy 93 = .ok (.iload 6, 2) := by decide +kernel
theorem dX11_copy_95 : decode cX11_copy 95 = .ok (.iload 5, 2) := by decide +kernel
theorem dX11_copy_97 : decode cX11_copy 97 = .ok (.if_icmp .ge 30, 3) := by decide +kernel
theorem dX11_copy_100 : decode cX11_copy 100 = .ok (.aload_n 0, 1) := by decide +kernel
theorem dX11_copy_101 : decode cX11_copy 101 = .ok (.getfield 52, 3) := by decide +kernel
theorem dX11_copy_104 : decode cX11_copy 104 = .ok (.iload 6, 2) := by decide +kernel
theorem dX11_copy_106 : decode cX11_copy 106 = .ok (.aload_n 0, 1) := by decide +kernel
theorem dX11_copy_107 : decode cX11_copy 107 = .ok (.getfield 46, 3) := by decide +kernel
theorem dX11_copy_110 : decode cX11_copy 110 = .ok (.bipush 24, 2) := by decide +kernel
theorem dX11_copy_112 : decode cX11_copy 112 = .ok (.iload_n 1, 1) := by decide +kernel
theorem dX11_copy_113 : decode cX11_copy 113 = .ok (.imul, 1) := by decide +kernel
theorem dX11_copy_114 : decode cX11_copy 114 = .ok (.iload_n 2, 1) := by decide +kernel
theorem dX11_copy_115 : decode cX11_copy 115 = .ok (.iadd, 1) := by decide +kernel
theorem dX11_copy_116 : decode cX11_copy 116 = .ok (.iload 6, 2) := by decide +kernel
theorem dX11_copy_118 : decode cX11_copy 118 = .ok (.iadd, 1) := by decide +kernel
theorem dX11_copy_119 : decode cX11_copy 119 = .ok (.iaload, 1) := by decide +kernel
theorem dX11_copy_120 : decode cX11_copy 120 = .ok (.iastore, 1) := by decide +kernel
theorem dX11_copy_121 : decode cX11_copy 121 = .ok (.iinc 6 1, 3) := by decide +kernel
theorem dX11_copy_124 : decode cX11_copy 124 = .ok (.goto (-31), 3) := by decide +kernel
theorem dX11_copy_127 : decode cX11_copy 127 = .ok (.iconst 0, 1) := by decide +kernel
theorem dX11_copy_128 : decode cX11_copy 128 = .ok (.istore 6, 2) := by decide +kernel
theorem dX11_copy_130 : decode cX11_copy 130 = .ok (.iload 6, 2) := by decide +kernel
theorem dX11_copy_132 : decode cX11_copy 132 = .ok (.iload 5, 2) := by decide +kernel
theorem dX11_copy_134 : decode cX11_copy 134 = .ok (.if_icmp .ge 31, 3) := by decide +kernel
theorem dX11_copy_137 : decode cX11_copy 137 = .ok (.aload_n 0, 1) := by decide +kernel
theorem dX11_copy_138 : decode cX11_copy 138 = .ok (.getfield 46, 3) := by decide +kernel
theorem dX11_copy_141 : decode cX11_copy 141 = .ok (.bipush 24, 2) := by decide +kernel
theorem dX11_copy_143 : decode cX11_copy 143 = .ok (.iload_n 3, 1) := by decide +kernel
theorem dX11_copy_144 : decode cX11_copy 144 = .ok (.imul, 1) := by decide +kernel
theorem dX11_copy_145 : decode cX11_copy 145 = .ok (.iload 4, 2) := by decide +kernel
theorem dX11_copy_147 : decode cX11_copy 147 = .ok (.iadd, 1) := by decide +kernel
theorem dX11_copy_148 : decode cX11_copy 148 = .ok (.iload 6, 2) := by decide +kernel
theorem dX11_copy_150 : decode cX11_copy 150 = .ok (.iadd, 1) := by decide +kernel
theorem dX11_copy_151 : decode cX11_copy 151 = .ok (.aload_n 0, 1) := by decide +kernel
theorem dX11_copy_152 : decode cX11_copy 152 = .ok (.getfield 52, 3) := by decide +kernel
theorem dX11_copy_155 : decode cX11_copy 155 = .ok (.iload 6, 2) := by decide +kernel
theorem dX11_copy_157 : decode cX11_copy 157 = .ok (.iaload, 1) := by decide +kernel
theorem dX11_copy_158 : decode cX11_copy 158 = .ok (.iastore, 1) := by decide +kernel
theorem dX11_copy_159 : decode cX11_copy 159 = .ok (.iinc 6 1, 3) := by decide +kernel
theorem dX11_copy_162 : decode cX11_copy 162 = .ok (.goto (-32), 3) := by decide +kernel
theorem dX11_copy_165 : decode cX11_copy 165 = .ok (.iload 5, 2) := by decide +kernel
theorem dX11_copy_167 : decode cX11_copy 167 = .ok (.ireturn, 1) := by decide +kernel
theorem dX11_count_0 : decode cX11_count 0 = .ok (.iconst 0, 1) := by decide +kernel
theorem dX11_count_1 : decode cX11_count 1 = .ok (.istore_n 2, 1) := by decide +kernel
theorem dX11_count_2 : decode cX11_count 2 = .ok (.iload_n 1, 1) := by decide +kernel
theorem dX11_count_3 : decode cX11_count 3 = .ok (.tableswitch 192 0 9 #[53, 61, 69, 77, 85, 131, 138, 143, 148, 155], 53) := by decide +kernel
theorem dX11_count_56 : decode cX11_count 56 = .ok (.aload_n 0, 1) := by decide +kernel
theorem dX11_count_57 : decode cX11_count 57 = .ok (.getfield 7, 3) := by decide +kernel
theorem dX11_count_60 : decode cX11_count 60 = .ok (.bipush 17, 2) := by decide +kernel
theorem dX11_count_62 : decode cX11_count 62 = .ok (.iaload, 1) := by decide +kernel
theorem dX11_count_63 : decode cX11_count 63 = .ok (.ireturn, 1) := by decide +kernel
theorem dX11_count_64 : decode cX11_count 64 = .ok (.aload_n 0, 1) := by decide +kernel
theorem dX11_count_65 : decode cX11_count 65 = .ok (.getfield 7, 3) := by decide +kernel
theorem dX11_count_68 : decode cX11_count 68 = .ok (.bipush 18, 2) := by decide +kernel
theorem dX11_count_70 : decode cX11_count 70 = .ok (.iaload, 1) := by decide +kernel
theorem dX11_count_71 : decode cX11_count 71 = .ok (.ireturn, 1) := by decide +kernel
theorem dX11_count_72 : decode cX11_count 72 = .ok (.aload_n 0, 1) := by decide +kernel
theorem dX11_count_73 : decode cX11_count 73 = .ok (.getfield 7, 3) := by decide +kernel
theorem dX11_count_76 : decode cX11_count 76 = .ok (.bipush 19, 2) := by decide +kernel
theorem dX11_count_78 : decode cX11_count 78 = .ok (.iaload, 1) := by decide +kernel
theorem dX11_count_79 : decode cX11_count 79 = .ok (.ireturn, 1) := by decide +kernel
theorem dX11_count_80 : decode cX11_count 80 = .ok (.aload_n 0, 1) := by decide +kernel
theorem dX11_count_81 : decode cX11_count 81 = .ok (.getfield 7, 3) := by decide +kernel
theorem dX11_count_84 : decode cX11_count 84 = .ok (.bipush 20, 2) := by decide +kernel
theorem dX11_count_86 : decode cX11_count 86 = .ok (.iaload, 1) := by decide +kernel
theorem dX11_count_87 : decode cX11_count 87 = .ok (.ireturn, 1) := by decide +kernel
theorem dX11_count_88 : decode cX11_count 88 = .ok (.iconst 0, 1) := by decide +kernel
theorem dX11_count_89 : decode cX11_count 89 = .ok (.istore_n 3, 1) := by decide +kernel
theorem dX11_count_90 : decode cX11_count 90 = .ok (.iload_n 3, 1) := by decide +kernel
theorem dX11_count_91 : decode cX11_count 91 = .ok (.aload_n 0, 1) := by decide +kernel
theorem dX11_count_92 : decode cX11_count 92 = .ok (.getfield 7, 3) := by decide +kernel
theorem dX11_count_95 : decode cX11_count 95 = .ok (.bipush 17, 2) := by decide +kernel
theorem dX11_count_97 : decode cX11_count 97 = .ok (.iaload, 1) := by decide +kernel
theorem dX11_count_98 : decode cX11_count 98 = .ok (.if_icmp .ge 34, 3) := by decide +kernel
theorem dX11_count_101 : decode cX11_count 101 = .ok (.iload_n 2, 1) := by decide +kernel
theorem dX11_count_102 : decode cX11_count 102 = .ok (.aload_n 0, 1) := by decide +kernel
theorem dX11_count_103 : decode cX11_count 103 = .ok (.getfield 7, 3) := by decide +kernel
theorem dX11_count_106 : decode cX11_count 106 = .ok (.bipush 30, 2) := by decide +kernel
theorem dX11_count_108 : decode cX11_count 108 = .ok (.iconst 3, 1) := by decide +kernel
theorem dX11_count_109 : decode cX11_count 109 = .ok (.iload_n 3, 1) := by decide +kernel
theorem dX11_count_110 : decode cX11_count 110 = .ok (.imul, 1) := by decide +kernel
theorem dX11_count_111 : decode cX11_count 111 = .ok (.iadd, 1) := by decide +kernel
theorem dX11_count_112 : decode cX11_count 112 = .ok (.iconst 1, 1) := by decide +kernel
theorem dX11_count_113 : decode cX11_count 113 = .ok (.iadd, 1) := by decide +kernel
theorem dX11_count_114 : decode cX11_count 114 = .ok (.iaload, 1) := by decide +kernel
theorem dX11_count_115 : decode cX11_count 115 = .ok (.iload_n 3, 1) := by decide +kernel
theorem dX11_count_116 : decode cX11_count 116 = .ok (.if_icmp .le 7, 3) := by decide +kernel
theorem dX11_count_119 : decode cX11_count 119 = .ok (.iconst 1, 1) := by decide +kernel
theorem dX11_count_120 : decode cX11_count 120 = .ok (.goto 4, 3) := by decide +kernel
theorem dX11_count_123 : decode cX11_count 123 = .ok (.iconst 0, 1) := by decide +kernel
theorem dX11_count_124 : decode cX11_count 124 = .ok (.iadd, 1) := by decide +kernel
theorem dX11_count_125 : decode cX11_count 125 = .ok (.istore_n 2, 1) := by decide +kernel
theorem dX11_count_126 : decode cX11_count 126 = .ok (.iinc 3 1, 3) := by decide +kernel
theorem dX11_count_129 : decode cX11_count 129 = .ok (.goto (-39), 3) := by decide +kernel
theorem dX11_count_132 : decode cX11_count 132 = .ok (.iload_n 2, 1) := by decide +kernel
theorem dX11_count_133 : decode cX11_count 133 = .ok (.ireturn, 1) := by decide +kernel
theorem dX11_count_134 : decode cX11_count 134 = .ok (.aload_n 0, 1) := by decide +kernel
theorem dX11_count_135 : decode cX11_count 135 = .ok (.iconst (-1), 1) := by decide +kernel
theorem dX11_count_136 : decode cX11_count 136 = .ok (.iconst (-1), 1) := by decide +kernel
theorem dX11_count_137 : decode cX11_count 137 = .ok (.invokevirtual 213, 3) := by decide +kernel
theorem dX11_count_140 : decode cX11_count 140 = .ok (.ireturn, 1) := by decide +kernel
theorem dX11_count_141 : decode cX11_count 141 = .ok (.aload_n 0, 1) := by decide +kernel
theorem dX11_count_142 : decode cX11_count 142 = .ok (.getfield 260, 3) := by decide +kernel
theorem dX11_count_145 : decode cX11_count 145 = .ok (.ireturn, 1) := by decide +kernel
theorem dX11_count_146 : decode cX11_count 146 = .ok (.aload_n 0, 1) := by decide +kernel
theorem dX11_count_147 : decode cX11_count 147 = .ok (.getfield 99, 3) := by decide +kernel
theorem dX11_count_150 : decode cX11_count 150 = .ok (.ireturn, 1) := by decide +kernel
theorem dX11_count_151 : decode cX11_count 151 = .ok (.aload_n 0, 1) := by decide +kernel
theorem dX11_count_152 : decode cX11_count 152 = .ok (.getfield 7, 3) := by decide +kernel
theorem dX11_count_155 : decode cX11_count 155 = .ok (.iconst 0, 1) := by decide +kernel
theorem dX11_count_156 : decode cX11_count 156 = .ok (.iaload, 1) := by decide +kernel
theorem dX11_count_157 : decode cX11_count 157 = .ok (.ireturn, 1) := by decide +kernel
theorem dX11_count_158 : decode cX11_count 158 = .ok (.iconst 0, 1) := by decide +kernel
theorem dX11_count_159 : decode cX11_count 159 = .ok (.istore_n 3, 1) := by decide +kernel
theorem dX11_count_160 : decode cX11_count 160 = .ok (.iload_n 3, 1) := by decide +kernel
theorem dX11_count_161 : decode cX11_count 161 = .ok (.aload_n 0, 1) := by decide +kernel
theorem dX11_count_162 : decode cX11_count 162 = .ok (.getfield 7, 3) := by decide +kernel
theorem dX11_count_165 : decode cX11_count 165 = .ok (.bipush 17, 2) := by decide +kernel
theorem dX11_count_167 : decode cX11_count 167 = .ok (.iaload, 1) := by decide +kernel
theorem dX11_count_168 : decode cX11_count 168 = .ok (.if_icmp .ge 25, 3) := by decide +kernel
theorem dX11_count_171 : decode cX11_count 171 = .ok (.iload_n 2, 1) := by decide +kernel
theorem dX11_count_172 : decode cX11_count 172 = .ok (.aload_n 0, 1) := by decide +kernel
theorem dX11_count_173 : decode cX11_count 173 = .ok (.getfield 7, 3) := by decide +kernel
theorem dX11_count_176 : decode cX11_count 176 = .ok (.bipush 30, 2) := by decide +kernel
theorem dX11_count_178 : decode cX11_count 178 = .ok (.iconst 3, 1) := by decide +kernel
theorem dX11_count_179 : decode cX11_count 179 = .ok (.iload_n 3, 1) := by decide +kernel
theorem dX11_count_180 : decode cX11_count 180 = .ok (.imul, 1) := by decide +kernel
theorem dX11_count_181 : decode cX11_count 181 = .ok (.iadd, 1) := by decide +kernel
theorem dX11_count_182 : decode cX11_count 182 = .ok (.iconst 2, 1) := by decide +kernel
theorem dX11_count_183 : decode cX11_count 183 = .ok (.iadd, 1) := by decide +kernel
theorem dX11_count_184 : decode cX11_count 184 = .ok (.iaload, 1) := by decide +kernel
theorem dX11_count_185 : decode cX11_count 185 = .ok (.iadd, 1) := by decide +kernel
theorem dX11_count_186 : decode cX11_count 186 = .ok (.istore_n 2, 1) := by decide +kernel
theorem dX11_count_187 : decode cX11_count 187 = .ok (.iinc 3 1, 3) := by decide +kernel
theorem dX11_count_190 : decode cX11_count 190 = .ok (.goto (-30), 3) := by decide +kernel
theorem dX11_count_193 : decode cX11_count 193 = .ok (.iload_n 2, 1) := by decide +kernel
theorem dX11_count_194 : decode cX11_count 194 = .ok (.ireturn, 1) := by decide +kernel
theorem dX11_count_195 : decode cX11_count 195 = .ok (.ldc 60, 2) := by decide +kernel
theorem dX11_count_197 : decode cX11_count 197 = .ok (.ireturn, 1) := by decide +kernel
