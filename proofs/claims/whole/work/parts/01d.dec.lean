theorem dX11_init_0 : decode cX11_init 0 = .ok (.aload_n 0, 1) := by decide +kernel
theorem dX11_init_1 : decode cX11_init 1 = .ok (.invokespecial 1, 3) := by decide +kernel
theorem dX11_init_4 : decode cX11_init 4 = .ok (.aload_n 0, 1) := by decide +kernel
theorem dX11_init_5 : decode cX11_init 5 = .ok (.sipush 1675, 3) := by decide +kernel
theorem dX11_init_8 : decode cX11_init 8 = .ok (.newarray .int, 2) := by decide +kernel
theorem dX11_init_10 : decode cX11_init 10 = .ok (.putfield 7, 3) := by decide +kernel
theorem dX11_init_13 : decode cX11_init 13 = .ok (.aload_n 0, 1) := by decide +kernel
theorem dX11_init_14 : decode cX11_init 14 = .ok (.sipush 1675, 3) := by decide +kernel
theorem dX11_init_17 : decode cX11_init 17 = .ok (.newarray .int, 2) := by decide +kernel
theorem dX11_init_19 : decode cX11_init 19 = .ok (.putfield 13, 3) := by decide +kernel
theorem dX11_init_22 : decode cX11_init 22 = .ok (.aload_n 0, 1) := by decide +kernel
theorem dX11_init_23 : decode cX11_init 23 = .ok (.bipush 120, 2) := by decide +kernel
theorem dX11_init_25 : decode cX11_init 25 = .ok (.newarray .int, 2) := by decide +kernel
theorem dX11_init_27 : decode cX11_init 27 = .ok (.putfield 16, 3) := by decide +kernel
theorem dX11_init_30 : decode cX11_init 30 = .ok (.aload_n 0, 1) := by decide +kernel
theorem dX11_init_31 : decode cX11_init 31 = .ok (.sipush 723, 3) := by decide +kernel
theorem dX11_init_34 : decode cX11_init 34 = .ok (.newarray .int, 2) := by decide +kernel
theorem dX11_init_36 : decode cX11_init 36 = .ok (.putfield 19, 3) := by decide +kernel
theorem dX11_init_39 : decode cX11_init 39 = .ok (.aload_n 0, 1) := by decide +kernel
theorem dX11_init_40 : decode cX11_init 40 = .ok (.sipush 130, 3) := by decide +kernel
theorem dX11_init_43 : decode cX11_init 43 = .ok (.newarray .int, 2) := by decide +kernel
theorem dX11_init_45 : decode cX11_init 45 = .ok (.putfield 22, 3) := by decide +kernel
theorem dX11_init_48 : decode cX11_init 48 = .ok (.aload_n 0, 1) := by decide +kernel
theorem dX11_init_49 : decode cX11_init 49 = .ok (.sipush 130, 3) := by decide +kernel
theorem dX11_init_52 : decode cX11_init 52 = .ok (.newarray .int, 2) := by decide +kernel
theorem dX11_init_54 : decode cX11_init 54 = .ok (.putfield 25, 3) := by decide +kernel
theorem dX11_init_57 : decode cX11_init 57 = .ok (.aload_n 0, 1) := by decide +kernel
theorem dX11_init_58 : decode cX11_init 58 = .ok (.sipush 128, 3) := by decide +kernel
theorem dX11_init_61 : decode cX11_init 61 = .ok (.newarray .int, 2) := by decide +kernel
theorem dX11_init_63 : decode cX11_init 63 = .ok (.putfield 28, 3) := by decide +kernel
theorem dX11_init_66 : decode cX11_init 66 = .ok (.aload_n 0, 1) := by decide +kernel
theorem dX11_init_67 : decode cX11_init 67 = .ok (.bipush 24, 2) := by decide +kernel
theorem dX11_init_69 : decode cX11_init 69 = .ok (.newarray .int, 2) := by decide +kernel
theorem dX11_init_71 : decode cX11_init 71 = .ok (.putfield 31, 3) := by decide +kernel
theorem dX11_init_74 : decode cX11_init 74 = .ok (.aload_n 0, 1) := by decide +kernel
theorem dX11_init_75 : decode cX11_init 75 = .ok (.bipush 16, 2) := by decide +kernel
theorem dX11_init_77 : decode cX11_init 77 = .ok (.newarray .int, 2) := by decide +kernel
theorem dX11_init_79 : decode cX11_init 79 = .ok (.putfield 34, 3) := by decide +kernel
theorem dX11_init_82 : decode cX11_init 82 = .ok (.aload_n 0, 1) := by decide +kernel
theorem dX11_init_83 : decode cX11_init 83 = .ok (.bipush 16, 2) := by decide +kernel
theorem dX11_init_85 : decode cX11_init 85 = .ok (.newarray .int, 2) := by decide +kernel
theorem dX11_init_87 : decode cX11_init 87 = .ok (.putfield 37, 3) := by decide +kernel
theorem dX11_init_90 : decode cX11_init 90 = .ok (.aload_n 0, 1) := by decide +kernel
theorem dX11_init_91 : decode cX11_init 91 = .ok (.bipush 24, 2) := by decide +kernel
theorem dX11_init_93 : decode cX11_init 93 = .ok (.newarray .int, 2) := by decide +kernel
theorem dX11_init_95 : decode cX11_init 95 = .ok (.putfield 40, 3) := by decide +kernel
theorem dX11_init_98 : decode cX11_init 98 = .ok (.aload_n 0, 1) := by decide +kernel
theorem dX11_init_99 : decode cX11_init 99 = .ok (.bipush 30, 2) := by decide +kernel
theorem dX11_init_101 : decode cX11_init 101 = .ok (.newarray .int, 2) := by decide +kernel
theorem dX11_init_103 : decode cX11_init 103 = .ok (.putfield 43, 3) := by decide +kernel
theorem dX11_init_106 : decode cX11_init 106 = .ok (.aload_n 0, 1) := by decide +kernel
theorem dX11_init_107 : decode cX11_init 107 = .ok (.bipush 48, 2) := by decide +kernel
theorem dX11_init_109 : decode cX11_init 109 = .ok (.newarray .int, 2) := by decide +kernel
theorem dX11_init_111 : decode cX11_init 111 = .ok (.putfield 46, 3) := by decide +kernel
theorem dX11_init_114 : decode cX11_init 114 = .ok (.aload_n 0, 1) := by decide +kernel
theorem dX11_init_115 : decode cX11_init 115 = .ok (.iconst 2, 1) := by decide +kernel
theorem dX11_init_116 : decode cX11_init 116 = .ok (.newarray .int, 2) := by decide +kernel
theorem dX11_init_118 : decode cX11_init 118 = .ok (.dup, 1) := by decide +kernel
theorem dX11_init_119 : decode cX11_init 119 = .ok (.iconst 0, 1) := by decide +kernel
theorem dX11_init_120 : decode cX11_init 120 = .ok (.iconst (-1), 1) := by decide +kernel
theorem dX11_init_121 : decode cX11_init 121 = .ok (.iastore, 1) := by decide +kernel
theorem dX11_init_122 : decode cX11_init 122 = .ok (.dup, 1) := by decide +kernel
theorem dX11_init_123 : decode cX11_init 123 = .ok (.iconst 1, 1) := by decide +kernel
theorem dX11_init_124 : decode cX11_init 124 = .ok (.iconst (-1), 1) := by decide +kernel
theorem dX11_init_125 : decode cX11_init 125 = .ok (.iastore, 1) := by decide +kernel
theorem dX11_init_126 : decode cX11_init 126 = .ok (.putfield 49, 3) := by decide +kernel
theorem dX11_init_129 : decode cX11_init 129 = .ok (.aload_n 0, 1) := by decide +kernel
theorem dX11_init_130 : decode cX11_init 130 = .ok (.bipush 24, 2) := by decide +kernel
theorem dX11_init_132 : decode cX11_init 132 = .ok (.newarray .int, 2) := by decide +kernel
theorem dX11_init_134 : decode cX11_init 134 = .ok (.putfield 52, 3) := by decide +kernel
theorem dX11_init_137 : decode cX11_init 137 = .ok (.bipush 16, 2) := by decide +kernel
theorem dX11_init_139 : decode cX11_init 139 = .ok (.newarray .int, 2) := by decide +kernel
theorem dX11_init_141 : decode cX11_init 141 = .ok (.dup, 1) := by decide +kernel
theorem dX11_init_142 : decode cX11_init 142 = .ok (.iconst 0, 1) := by decide +kernel
theorem dX11_init_143 : decode cX11_init 143 = .ok (.sipush 1000, 3) := by decide +kernel
theorem dX11_init_146 : decode cX11_init 146 = .ok (.iastore, 1) := by decide +kernel
theorem dX11_init_147 : decode cX11_init 147 = .ok (.dup, 1) := by decide +kernel
theorem dX11_init_148 : decode cX11_init 148 = .ok (.iconst 1, 1) := by decide +kernel
theorem dX11_init_149 : decode cX11_init 149 = .ok (.sipush 365, 3) := by decide +kernel
theorem dX11_init_152 : decode cX11_init 152 = .ok (.iastore, 1) := by decide +kernel
theorem dX11_init_153 : decode cX11_init 153 = .ok (.dup, 1) := by decide +kernel
theorem dX11_init_154 : decode cX11_init 154 = .ok (.iconst 2, 1) := by decide +kernel
theorem dX11_init_155 : decode cX11_init 155 = .ok (.iconst 1, 1) := by decide +kernel
theorem dX11_init_156 : decode cX11_init 156 = .ok (.iastore, 1) := by decide +kernel
theorem dX11_init_157 : decode cX11_init 157 = .ok (.dup, 1) := by decide +kernel
theorem dX11_init_158 : decode cX11_init 158 = .ok (.iconst 3, 1) := by decide +kernel
theorem dX11_init_159 : decode cX11_init 159 = .ok (.bipush 120, 2) := by decide +kernel
theorem dX11_init_161 : decode cX11_init 161 = .ok (.iastore, 1) := by decide +kernel
theorem dX11_init_162 : decode cX11_init 162 = .ok (.dup, 1) := by decide +kernel
theorem dX11_init_163 : decode cX11_init 163 = .ok (.iconst 4, 1) := by decide +kernel
theorem dX11_init_164 : decode cX11_init 164 = .ok (.bipush 50, 2) := by decide +kernel
theorem dX11_init_166 : decode cX11_init 166 = .ok (.iastore, 1) := by decide +kernel
theorem dX11_init_167 : decode cX11_init 167 = .ok (.dup, 1) := by decide +kernel
theorem dX11_init_168 : decode cX11_init 168 = .ok (.iconst 5, 1) := by decide +kernel
theorem dX11_init_169 : decode cX11_init 169 = .ok (.sipush 240, 3) := by decide +kernel
theorem dX11_init_172 : decode cX11_init 172 = .ok (.iastore, 1) := by decide +kernel
theorem dX11_init_173 : decode cX11_init 173 = .ok (.dup, 1) := by decide +kernel
theorem dX11_init_174 : decode cX11_init 174 = .ok (.bipush 6, 2) := by decide +kernel
theorem dX11_init_176 : decode cX11_init 176 = .ok (.iconst 1, 1) := by decide +kernel
theorem dX11_init_177 : decode cX11_init 177 = .ok (.iastore, 1) := by decide +kernel
theorem dX11_init_178 : decode cX11_init 178 = .ok (.dup, 1) := by decide +kernel
theorem dX11_init_179 : decode cX11_init 179 = .ok (.bipush 7, 2) := by decide +kernel
theorem dX11_init_181 : decode cX11_init 181 = .ok (.sipush 1000, 3) := by decide +kernel
theorem dX11_init_184 : decode cX11_init 184 = .ok (.iastore, 1) := by decide +kernel
theorem dX11_init_185 : decode cX11_init 185 = .ok (.dup, 1) := by decide +kernel
theorem dX11_init_186 : decode cX11_init 186 = .ok (.bipush 8, 2) := by decide +kernel
theorem dX11_init_188 : decode cX11_init 188 = .ok (.bipush 30, 2) := by decide +kernel
theorem dX11_init_190 : decode cX11_init 190 = .ok (.iastore, 1) := by decide +kernel
theorem dX11_init_191 : decode cX11_init 191 = .ok (.dup, 1) := by decide +kernel
theorem dX11_init_192 : decode cX11_init 192 = .ok (.bipush 9, 2) := by decide +kernel
theorem dX11_init_194 : decode cX11_init 194 = .ok (.sipush 400, 3) := by decide +kernel
theorem dX11_init_197 : decode cX11_init 197 = .ok (.iastore, 1) := by decide +kernel
theorem dX11_init_198 : decode cX11_init 198 = .ok (.dup, 1) := by decide +kernel
theorem dX11_init_199 : decode cX11_init 199 = .ok (.bipush 10, 2) := by decide +kernel
theorem dX11_init_201 : decode cX11_init 201 = .ok (.iconst 4, 1) := by decide +kernel
theorem dX11_init_202 : decode cX11_init 202 = .ok (.iastore, 1) := by decide +kernel
theorem dX11_init_203 : decode cX11_init 203 = .ok (.dup, 1) := by decide +kernel
theorem dX11_init_204 : decode cX11_init 204 = .ok (.bipush 11, 2) := by decide +kernel
theorem dX11_init_206 : decode cX11_init 206 = .ok (.bipush 30, 2) := by decide +kernel
theorem dX11_init_208 : decode cX11_init 208 = .ok (.iastore, 1) := by decide +kernel
theorem dX11_init_209 : decode cX11_init 209 = .ok (.dup, 1) := by decide +kernel
theorem dX11_init_210 : decode cX11_init 210 = .ok (.bipush 12, 2) := by decide +kernel
theorem dX11_init_212 : decode cX11_init 212 = .ok (.sipush 365, 3) := by decide +kernel
theorem dX11_init_215 : decode cX11_init 215 = .ok (.iastore, 1) := by decide +kernel
theorem dX11_init_216 : decode cX11_init 216 = .ok (.dup, 1) := by decide +kernel
theorem dX11_init_217 : decode cX11_init 217 = .ok (.bipush 13, 2) := by decide +kernel
theorem dX11_init_219 : decode cX11_init 219 = .ok (.sipush 300, 3) := by decide +kernel
theorem dX11_init_222 : decode cX11_init 222 = .ok (.iastore, 1) := by decide +kernel
theorem dX11_init_223 : decode cX11_init 223 = .ok (.dup, 1) := by decide +kernel
theorem dX11_init_224 : decode cX11_init 224 = .ok (.bipush 14, 2) := by decide +kernel
theorem dX11_init_226 : decode cX11_init 226 = .ok (.bipush 50, 2) := by decide +kernel
theorem dX11_init_228 : decode cX11_init 228 = .ok (.iastore, 1) := by decide +kernel
theorem dX11_init_229 : decode cX11_init 229 = .ok (.dup, 1) := by decide +kernel
theorem dX11_init_230 : decode cX11_init 230 = .ok (.bipush 15, 2) := by decide +kernel
theorem dX11_init_232 : decode cX11_init 232 = .ok (.iconst 0, 1) := by decide +kernel
theorem dX11_init_233 : decode cX11_init 233 = .ok (.iastore, 1) := by decide +kernel
theorem dX11_init_234 : decode cX11_init 234 = .ok (.astore_n 1, 1) := by decide +kernel
theorem dX11_init_235 : decode cX11_init 235 = .ok (.iconst 0, 1) := by decide +kernel
theorem dX11_init_236 : decode cX11_init 236 = .ok (.istore_n 2, 1) := by decide +kernel
theorem dX11_init_237 : decode cX11_init 237 = .ok (.iload_n 2, 1) := by decide +kernel
theorem dX11_init_238 : decode cX11_init 238 = .ok (.bipush 16, 2) := by decide +kernel
theorem dX11_init_240 : decode cX11_init 240 = .ok (.if_icmp .ge 20, 3) := by decide +kernel
theorem dX11_init_243 : decode cX11_init 243 = .ok (.aload_n 0, 1) := by decide +kernel
theorem dX11_init_244 : decode cX11_init 244 = .ok (.getfield 7, 3) := by decide +kernel
theorem dX11_init_247 : decode cX11_init 247 = .ok (.iconst 1, 1) := by decide +kernel
theorem dX11_init_248 : decode cX11_init 248 = .ok (.iload_n 2, 1) := by decide +kernel
theorem dX11_init_249 : decode cX11_init 249 = .ok (.iadd, 1) := by decide +kernel
theorem dX11_init_250 : decode cX11_init 250 = .ok (.aload_n 1, 1) := by decide +kernel
theorem dX11_init_251 : decode cX11_init 251 = .ok (.iload_n 2, 1) := by decide +kernel
theorem dX11_init_252 : decode cX11_init 252 = .ok (.iaload, 1) := by decide +kernel
theorem dX11_init_253 : decode cX11_init 253 = .ok (.iastore, 1) := by decide +kernel
theorem dX11_init_254 : decode cX11_init 254 = .ok (.iinc 2 1, 3) := by decide +kernel
theorem dX11_init_257 : decode cX11_init 257 = .ok (.goto (-20), 3) := by decide +kernel
theorem dX11_init_260 : decode cX11_init 260 = .ok (.return_, 1) := by decide +kernel
theorem dX11_in_0 : decode cX11_in 0 = .ok (.iload_n 0, 1) := by decide +kernel
theorem dX11_in_1 : decode cX11_in 1 = .ok (.iload_n 1, 1) := by decide +kernel
theorem dX11_in_2 : decode cX11_in 2 = .ok (.if_icmp .lt 12, 3) := by decide +kernel
theorem dX11_in_5 : decode cX11_in 5 = .ok (.iload_n 0, 1) := by decide +kernel
theorem dX11_in_6 : decode cX11_in 6 = .ok (.iload_n 2, 1) := by decide +kernel
theorem dX11_in_7 : decode cX11_in 7 = .ok (.if_icmp .gt 7, 3) := by decide +kernel
theorem dX11_in_10 : decode cX11_in 10 = .ok (.iconst 1, 1) := by decide +kernel
theorem dX11_in_11 : decode cX11_in 11 = .ok (.goto 4, 3) := by decide +kernel
theorem dX11_in_14 : decode cX11_in 14 = .ok (.iconst 0, 1) := by decide +kernel
theorem dX11_in_15 : decode cX11_in 15 = .ok (.ireturn, 1) := by decide +kernel
theorem dX11_less_0 : decode cX11_less 0 = .ok (.iload_n 0, 1) := by decide +kernel
theorem dX11_less_1 : decode cX11_less 1 = .ok (.iload_n 1, 1) := by decide +kernel
theorem dX11_less_2 : decode cX11_less 2 = .ok (.if_icmp .ge 7, 3) := by decide +kernel
theorem dX11_less_5 : decode cX11_less 5 = .ok (.iload_n 0, 1) := by decide +kernel
theorem dX11_less_6 : decode cX11_less 6 = .ok (.goto 4, 3) := by decide +kernel
theorem dX11_less_9 : decode cX11_less 9 = .ok (.iload_n 1, 1) := by decide +kernel
theorem dX11_less_10 : decode cX11_less 10 = .ok (.ireturn, 1) := by decide +kernel
theorem dX11_more_0 : decode cX11_more 0 = .ok (.iload_n 0, 1) := by decide +kernel
theorem dX11_more_1 : decode cX11_more 1 = .ok (.iload_n 1, 1) := by decide +kernel
theorem dX11_more_2 : decode cX11_more 2 = .ok (.if_icmp .le 7, 3) := by decide +kernel
theorem dX11_more_5 : decode cX11_more 5 = .ok (.iload_n 0, 1) := by decide +kernel
theorem dX11_more_6 : decode cX11_more 6 = .ok (.goto 4, 3) := by decide +kernel
theorem dX11_more_9 : decode cX11_more 9 = .ok (.iload_n 1, 1) := by decide +kernel
theorem dX11_more_10 : decode cX11_more 10 = .ok (.ireturn, 1) := by decide +kernel
theorem dX11_size_0 : decode cX11_size 0 = .ok (.iload_n 0, 1) := by decide +kernel
theorem dX11_size_1 : decode cX11_size 1 = .ok (.ifCond .ge 8, 3) := by decide +kernel
theorem dX11_size_4 : decode cX11_size 4 = .ok (.iload_n 0, 1) := by decide +kernel
theorem dX11_size_5 : decode cX11_size 5 = .ok (.ineg, 1) := by decide +kernel
theorem dX11_size_6 : decode cX11_size 6 = .ok (.goto 4, 3) := by decide +kernel
theorem dX11_size_9 : decode cX11_size 9 = .ok (.iload_n 0, 1) := by decide +kernel
theorem dX11_size_10 : decode cX11_size 10 = .ok (.ireturn, 1) := by decide +kernel
theorem dX11_orNone_0 : decode cX11_orNone 0 = .ok (.iload_n 0, 1) := by decide +kernel
theorem dX11_orNone_1 : decode cX11_orNone 1 = .ok (.iconst (-1), 1) := by decide +kernel
theorem dX11_orNone_2 : decode cX11_orNone 2 = .ok (.if_icmp .ne 8, 3) := by decide +kernel
theorem dX11_orNone_5 : decode cX11_orNone 5 = .ok (.ldc 55, 2) := by decide +kernel
theorem dX11_orNone_7 : decode cX11_orNone 7 = .ok (.goto 4, 3) := by decide +kernel
theorem dX11_orNone_10 : decode cX11_orNone 10 = .ok (.iload_n 0, 1) := by decide +kernel
theorem dX11_orNone_11 : decode cX11_orNone 11 = .ok (.ireturn, 1) := by decide +kernel
theorem dX11_isPerson_0 : decode cX11_isPerson 0 = .ok (.iload_n 1, 1) := by decide +kernel
theorem dX11_isPerson_1 : decode cX11_isPerson 1 = .ok (.iconst 0, 1) := by decide +kernel
theorem dX11_isPerson_2 : decode cX11_isPerson 2 = .ok (.aload_n 0, 1) := by decide +kernel
theorem dX11_isPerson_3 : decode cX11_isPerson 3 = .ok (.getfield 7, 3) := by decide +kernel
theorem dX11_isPerson_6 : decode cX11_isPerson 6 = .ok (.bipush 17, 2) := by decide +kernel
theorem dX11_isPerson_8 : decode cX11_isPerson 8 = .ok (.iaload, 1) := by decide +kernel
theorem dX11_isPerson_9 : decode cX11_isPerson 9 = .ok (.iconst 1, 1) := by decide +kernel
theorem dX11_isPerson_10 : decode cX11_isPerson 10 = .ok (.isub, 1) := by decide +kernel
theorem dX11_isPerson_11 : decode cX11_isPerson 11 = .ok (.invokestatic 56, 3) := by decide +kernel
theorem dX11_isPerson_14 : decode cX11_isPerson 14 = .ok (.ireturn, 1) := by decide +kernel
theorem dX11_isDeed_0 : decode cX11_isDeed 0 = .ok (.iload_n 1, 1) := by decide +kernel
theorem dX11_isDeed_1 : decode cX11_isDeed 1 = .ok (.iconst 0, 1) := by decide +kernel
theorem dX11_isDeed_2 : decode cX11_isDeed 2 = .ok (.aload_n 0, 1) := by decide +kernel
theorem dX11_isDeed_3 : decode cX11_isDeed 3 = .ok (.getfield 7, 3) := by decide +kernel
theorem dX11_isDeed_6 : decode cX11_isDeed 6 = .ok (.bipush 19, 2) := by decide +kernel
theorem dX11_isDeed_8 : decode cX11_isDeed 8 = .ok (.iaload, 1) := by decide +kernel
theorem dX11_isDeed_9 : decode cX11_isDeed 9 = .ok (.iconst 1, 1) := by decide +kernel
theorem dX11_isDeed_10 : decode cX11_isDeed 10 = .ok (.isub, 1) := by decide +kernel
theorem dX11_isDeed_11 : decode cX11_isDeed 11 = .ok (.invokestatic 56, 3) := by decide +kernel
theorem dX11_isDeed_14 : decode cX11_isDeed 14 = .ok (.ireturn, 1) := by decide +kernel
theorem dX11_isJudgment_0 : decode cX11_isJudgment 0 = .ok (.iload_n 1, 1) := by decide +kernel
theorem dX11_isJudgment_1 : decode cX11_isJudgment 1 = .ok (.iconst 0, 1) := by decide +kernel
theorem dX11_isJudgment_2 : decode cX11_isJudgment 2 = .ok (.aload_n 0, 1) := by decide +kernel
theorem dX11_isJudgment_3 : decode cX11_isJudgment 3 = .ok (.getfield 7, 3) := by decide +kernel
theorem dX11_isJudgment_6 : decode cX11_isJudgment 6 = .ok (.bipush 20, 2) := by decide +kernel
theorem dX11_isJudgment_8 : decode cX11_isJudgment 8 = .ok (.iaload, 1) := by decide +kernel
theorem dX11_isJudgment_9 : decode cX11_isJudgment 9 = .ok (.iconst 1, 1) := by decide +kernel
theorem dX11_isJudgment_10 : decode cX11_isJudgment 10 = .ok (.isub, 1) := by decide +kernel
theorem dX11_isJudgment_11 : decode cX11_isJudgment 11 = .ok (.invokestatic 56, 3) := by decide +kernel
theorem dX11_isJudgment_14 : decode cX11_isJudgment 14 = .ok (.ireturn, 1) := by decide +kernel
theorem dX11_person_0 : decode cX11_person 0 = .ok (.iload_n 1, 1) := by decide +kernel
theorem dX11_person_1 : decode cX11_person 1 = .ok (.iconst 0, 1) := by decide +kernel
theorem dX11_person_2 : decode cX11_person 2 = .ok (.iconst 3, 1) := by decide +kernel
theorem dX11_person_3 : decode cX11_person 3 = .ok (.invokestatic 56, 3) := by decide +kernel
theorem dX11_person_6 : decode cX11_person 6 = .ok (.ifCond .ne 6, 3) := by decide +kernel
theorem dX11_person_9 : decode cX11_person 9 = .ok (.ldc 60, 2) := by decide +kernel
theorem dX11_person_11 : decode cX11_person 11 = .ok (.ireturn, 1) := by decide +kernel
theorem dX11_person_12 : decode cX11_person 12 = .ok (.aload_n 0, 1) := by decide +kernel
theorem dX11_person_13 : decode cX11_person 13 = .ok (.getfield 7, 3) := by decide +kernel
theorem dX11_person_16 : decode cX11_person 16 = .ok (.bipush 17, 2) := by decide +kernel
theorem dX11_person_18 : decode cX11_person 18 = .ok (.iaload, 1) := by decide +kernel
theorem dX11_person_19 : decode cX11_person 19 = .ok (.bipush 12, 2) := by decide +kernel
theorem dX11_person_21 : decode cX11_person 21 = .ok (.if_icmp .ne 6, 3) := by decide +kernel
theorem dX11_person_24 : decode cX11_person 24 = .ok (.ldc 61, 2) := by decide +kernel
theorem dX11_person_26 : decode cX11_person 26 = .ok (.ireturn, 1) := by decide +kernel
theorem dX11_person_27 : decode cX11_person 27 = .ok (.bipush 30, 2) := by decide +kernel
theorem dX11_person_29 : decode cX11_person 29 = .ok (.iconst 3, 1) := by decide +kernel
theorem dX11_person_30 : decode cX11_person 30 = .ok (.aload_n 0, 1) := by decide +kernel
theorem dX11_person_31 : decode cX11_person 31 = .ok (.getfield 7, 3) := by decide +kernel
theorem dX11_person_34 : decode cX11_person 34 = .ok (.bipush 17, 2) := by decide +kernel
theorem dX11_person_36 : decode cX11_person 36 = .ok (.iaload, 1) := by decide +kernel
theorem dX11_person_37 : decode cX11_person 37 = .ok (.imul, 1) := by decide +kernel
theorem dX11_person_38 : decode cX11_person 38 = .ok (.iadd, 1) := by decide +kernel
theorem dX11_person_39 : decode cX11_person 39 = .ok (.istore_n 2, 1) := by decide +kernel
theorem dX11_person_40 : decode cX11_person 40 = .ok (.aload_n 0, 1) := by decide +kernel
theorem dX11_person_41 : decode cX11_person 41 = .ok (.getfield 7, 3) := by decide +kernel
theorem dX11_person_44 : decode cX11_person 44 = .ok (.iload_n 2, 1) := by decide +kernel
theorem dX11_person_45 : decode cX11_person 45 = .ok (.iload_n 1, 1) := by decide +kernel
theorem dX11_person_46 : decode cX11_person 46 = .ok (.iastore, 1) := by decide +kernel
theorem dX11_person_47 : decode cX11_person 47 = .ok (.aload_n 0, 1) := by decide +kernel
theorem dX11_person_48 : decode cX11_person 48 = .ok (.getfield 7, 3) := by decide +kernel
theorem dX11_person_51 : decode cX11_person 51 = .ok (.iload_n 2, 1) := by decide +kernel
theorem dX11_person_52 : decode cX11_person 52 = .ok (.iconst 1, 1) := by decide +kernel
theorem dX11_person_53 : decode cX11_person 53 = .ok (.iadd, 1) := by decide +kernel
theorem dX11_person_54 : decode cX11_person 54 = .ok (.iconst (-1), 1) := by decide +kernel
theorem dX11_person_55 : decode cX11_person 55 = .ok (.iastore, 1) := by decide +kernel
theorem dX11_person_56 : decode cX11_person 56 = .ok (.aload_n 0, 1) := by decide +kernel
theorem dX11_person_57 : decode cX11_person 57 = .ok (.getfield 7, 3) := by decide +kernel
theorem dX11_person_60 : decode cX11_person 60 = .ok (.iload_n 2, 1) := by decide +kernel
theorem dX11_person_61 : decode cX11_person 61 = .ok (.iconst 2, 1) := by decide +kernel
theorem dX11_person_62 : decode cX11_person 62 = .ok (.iadd, 1) := by decide +kernel
theorem dX11_person_63 : decode cX11_person 63 = .ok (.iconst 0, 1) := by decide +kernel
theorem dX11_person_64 : decode cX11_person 64 = .ok (.iastore, 1) := by decide +kernel
theorem dX11_person_65 : decode cX11_person 65 = .ok (.aload_n 0, 1) := by decide +kernel
theorem dX11_person_66 : decode cX11_person 66 = .ok (.getfield 7, 3) := by decide +kernel
theorem dX11_person_69 : decode cX11_person 69 = .ok (.bipush 17, 2) := by decide +kernel
theorem dX11_person_71 : decode cX11_person 71 = .ok (.dup2, 1) := by decide +kernel
theorem dX11_person_72 : decode cX11_person 72 = .ok (.iaload, 1) := by decide +kernel
theorem dX11_person_73 : decode cX11_person 73 = .ok (.iconst 1, 1) := by decide +kernel
theorem dX11_person_74 : decode cX11_person 74 = .ok (.iadd, 1) := by decide +kernel
theorem dX11_person_75 : decode cX11_person 75 = .ok (.iastore, 1) := by decide +kernel
theorem dX11_person_76 : decode cX11_person 76 = .ok (.aload_n 0, 1) := by decide +kernel
theorem dX11_person_77 : decode cX11_person 77 = .ok (.getfield 7, 3) := by decide +kernel
theorem dX11_person_80 : decode cX11_person 80 = .ok (.bipush 17, 2) := by decide +kernel
theorem dX11_person_82 : decode cX11_person 82 = .ok (.iaload, 1) := by decide +kernel
theorem dX11_person_83 : decode cX11_person 83 = .ok (.iconst 1, 1) := by decide +kernel
theorem dX11_person_84 : decode cX11_person 84 = .ok (.isub, 1) := by decide +kernel
theorem dX11_person_85 : decode cX11_person 85 = .ok (.ireturn, 1) := by decide +kernel
theorem dX11_isYoung_0 : decode cX11_isYoung 0 = .ok (.aload_n 0, 1) := by decide +kernel
theorem dX11_isYoung_1 : decode cX11_isYoung 1 = .ok (.getfield 7, 3) := by decide +kernel
theorem dX11_isYoung_4 : decode cX11_isYoung 4 = .ok (.bipush 30, 2) := by decide +kernel
theorem dX11_isYoung_6 : decode cX11_isYoung 6 = .ok (.iconst 3, 1) := by decide +kernel
theorem dX11_isYoung_7 : decode cX11_isYoung 7 = .ok (.iload_n 1, 1) := by decide +kernel
theorem dX11_isYoung_8 : decode cX11_isYoung 8 = .ok (.imul, 1) := by decide +kernel
theorem dX11_isYoung_9 : decode cX11_isYoung 9 = .ok (.iadd, 1) := by decide +kernel
theorem dX11_isYoung_10 : decode cX11_isYoung 10 = .ok (.iaload, 1) := by decide +kernel
theorem dX11_isYoung_11 : decode cX11_isYoung 11 = .ok (.iconst 1, 1) := by decide +kernel
theorem dX11_isYoung_12 : decode cX11_isYoung 12 = .ok (.iconst 2, 1) := by decide +kernel
theorem dX11_isYoung_13 : decode cX11_isYoung 13 = .ok (.invokestatic 56, 3) := by decide +kernel
theorem dX11_isYoung_16 : decode cX11_isYoung 16 = .ok (.ireturn, 1) := by decide +kernel
theorem dX11_is_0 : decode cX11_is 0 = .ok (.aload_n 0, 1) := by decide +kernel
theorem dX11_is_1 : decode cX11_is 1 = .ok (.iload_n 1, 1) := by decide +kernel
theorem dX11_is_2 : decode cX11_is 2 = .ok (.invokevirtual 62, 3) := by decide +kernel
theorem dX11_is_5 : decode cX11_is 5 = .ok (.ifCond .eq 12, 3) := by decide +kernel
theorem dX11_is_8 : decode cX11_is 8 = .ok (.iload_n 2, 1) := by decide +kernel
theorem dX11_is_9 : decode cX11_is 9 = .ok (.iconst 0, 1) := by decide +kernel
theorem dX11_is_10 : decode cX11_is 10 = .ok (.iconst 3, 1) := by decide +kernel
theorem dX11_is_11 : decode cX11_is 11 = .ok (.invokestatic 56, 3) := by decide +kernel
theorem dX11_is_14 : decode cX11_is 14 = .ok (.ifCond .ne 6, 3) := by decide +kernel
theorem dX11_is_17 : decode cX11_is 17 = .ok (.ldc 60, 2) := by decide +kernel
theorem dX11_is_19 : decode cX11_is 19 = .ok (.ireturn, 1) := by decide +kernel
theorem dX11_is_20 : decode cX11_is 20 = .ok (.iload_n 2, 1) := by decide +kernel
theorem dX11_is_21 : decode cX11_is 21 = .ok (.ifCond .eq 31, 3) := by decide +kernel
theorem dX11_is_24 : decode cX11_is 24 = .ok (.aload_n 0, 1) := by decide +kernel
theorem dX11_is_25 : decode cX11_is 25 = .ok (.getfield 7, 3) := by decide +kernel
theorem dX11_is_28 : decode cX11_is 28 = .ok (.bipush 30, 2) := by decide +kernel
theorem dX11_is_30 : decode cX11_is 30 = .ok (.iconst 3, 1) := by decide +kernel
theorem dX11_is_31 : decode cX11_is 31 = .ok (.iload_n 1, 1) := by decide +kernel
theorem dX11_is_32 : decode cX11_is 32 = .ok (.imul, 1) := by decide +kernel
theorem dX11_is_33 : decode cX11_is 33 = .ok (.iadd, 1) := by decide +kernel
theorem dX11_is_34 : decode cX11_is 34 = .ok (.iaload, 1) := by decide +kernel
theorem dX11_is_35 : decode cX11_is 35 = .ok (.iload_n 2, 1) := by decide +kernel
theorem dX11_is_36 : decode cX11_is 36 = .ok (.if_icmp .eq 16, 3) := by decide +kernel
theorem dX11_is_39 : decode cX11_is 39 = .ok (.iload_n 2, 1) := by decide +kernel
theorem dX11_is_40 : decode cX11_is 40 = .ok (.iconst 1, 1) := by decide +kernel
theorem dX11_is_41 : decode cX11_is 41 = .ok (.if_icmp .ne 15, 3) := by decide +kernel
theorem dX11_is_44 : decode cX11_is 44 = .ok (.aload_n 0, 1) := by decide +kernel
theorem dX11_is_45 : decode cX11_is 45 = .ok (.iload_n 1, 1) := by decide +kernel
theorem dX11_is_46 : decode cX11_is 46 = .ok (.invokevirtual 66, 3) := by decide +kernel
theorem dX11_is_49 : decode cX11_is 49 = .ok (.ifCond .eq 7, 3) := by decide +kernel
theorem dX11_is_52 : decode cX11_is 52 = .ok (.iconst 1, 1) := by decide +kernel
theorem dX11_is_53 : decode cX11_is 53 = .ok (.goto 4, 3) := by decide +kernel
theorem dX11_is_56 : decode cX11_is 56 = .ok (.iconst 0, 1) := by decide +kernel
theorem dX11_is_57 : decode cX11_is 57 = .ok (.ireturn, 1) := by decide +kernel
theorem dX11_couple_0 : decode cX11_couple 0 = .ok (.aload_n 0, 1) := by decide +kernel
theorem dX11_couple_1 : decode cX11_couple 1 = .ok (.iload_n 1, 1) := by decide +kernel
theorem dX11_couple_2 : decode cX11_couple 2 = .ok (.invokevirtual 62, 3) := by decide +kernel
theorem dX11_couple_5 : decode cX11_couple 5 = .ok (.ifCond .eq 16, 3) := by decide +kernel
theorem dX11_couple_8 : decode cX11_couple 8 = .ok (.aload_n 0, 1) := by decide +kernel
theorem dX11_couple_9 : decode cX11_couple 9 = .ok (.iload_n 2, 1) := by decide +kernel
theorem dX11_couple_10 : decode cX11_couple 10 = .ok (.invokevirtual 62, 3) := by decide +kernel
theorem dX11_couple_13 : decode cX11_couple 13 = .ok (.ifCond .eq 8, 3) := by decide +kernel
theorem dX11_couple_16 : decode cX11_couple 16 = .ok (.iload_n 1, 1) := by decide +kernel
theorem dX11_couple_17 : decode cX11_couple 17 = .ok (.iload_n 2, 1) := by decide +kernel
theorem dX11_couple_18 : decode cX11_couple 18 = .ok (.if_icmp .ne 6, 3) := by decide +kernel
theorem dX11_couple_21 : decode cX11_couple 21 = .ok (.ldc 60, 2) := by decide +kernel
theorem dX11_couple_23 : decode cX11_couple 23 = .ok (.ireturn, 1) := by decide +kernel
theorem dX11_couple_24 : decode cX11_couple 24 = .ok (.aload_n 0, 1) := by decide +kernel
theorem dX11_couple_25 : decode cX11_couple 25 = .ok (.getfield 7, 3) := by decide +kernel
theorem dX11_couple_28 : decode cX11_couple 28 = .ok (.bipush 30, 2) := by decide +kernel
theorem dX11_couple_30 : decode cX11_couple 30 = .ok (.iconst 3, 1) := by decide +kernel
theorem dX11_couple_31 : decode cX11_couple 31 = .ok (.iload_n 1, 1) := by decide +kernel
theorem dX11_couple_32 : decode cX11_couple 32 = .ok (.imul, 1) := by decide +kernel
theorem dX11_couple_33 : decode cX11_couple 33 = .ok (.iadd, 1) := by decide +kernel
theorem dX11_couple_34 : decode cX11_couple 34 = .ok (.iconst 1, 1) := by decide +kernel
theorem dX11_couple_35 : decode cX11_couple 35 = .ok (.iadd, 1) := by decide +kernel
theorem dX11_couple_36 : decode cX11_couple 36 = .ok (.iaload, 1) := by decide +kernel
theorem dX11_couple_37 : decode cX11_couple 37 = .ok (.iconst (-1), 1) := by decide +kernel
theorem dX11_couple_38 : decode cX11_couple 38 = .ok (.if_icmp .ne 20, 3) := by decide +kernel
theorem dX11_couple_41 : decode cX11_couple 41 = .ok (.aload_n 0, 1) := by decide +kernel
theorem dX11_couple_42 : decode cX11_couple 42 = .ok (.getfield 7, 3) := by decide +kernel
theorem dX11_couple_45 : decode cX11_couple 45 = .ok (.bipush 30, 2) := by decide +kernel
theorem dX11_couple_47 : decode cX11_couple 47 = .ok (.iconst 3, 1) := by decide +kernel
theorem dX11_couple_48 : decode cX11_couple 48 = .ok (.iload_n 2, 1) := by decide +kernel
theorem dX11_couple_49 : decode cX11_couple 49 = .ok (.imul, 1) := by decide +kernel
theorem dX11_couple_50 : decode cX11_couple 50 = .ok (.iadd, 1) := by decide +kernel
theorem dX11_couple_51 : decode cX11_couple 51 = .ok (.iconst 1, 1) := by decide +kernel
theorem dX11_couple_52 : decode cX11_couple 52 = .ok (.iadd, 1) := by decide +kernel
theorem dX11_couple_53 : decode cX11_couple 53 = .ok (.iaload, 1) := by decide +kernel
theorem dX11_couple_54 : decode cX11_couple 54 = .ok (.iconst (-1), 1) := by decide +kernel
theorem dX11_couple_55 : decode cX11_couple 55 = .ok (.if_icmp .eq 6, 3) := by decide +kernel
theorem dX11_couple_58 : decode cX11_couple 58 = .ok (.ldc 69, 2) := by decide +kernel
theorem dX11_couple_60 : decode cX11_couple 60 = .ok (.ireturn, 1) := by decide +kernel
theorem dX11_couple_61 : decode cX11_couple 61 = .ok (.aload_n 0, 1) := by decide +kernel
theorem dX11_couple_62 : decode cX11_couple 62 = .ok (.getfield 7, 3) := by decide +kernel
theorem dX11_couple_65 : decode cX11_couple 65 = .ok (.bipush 30, 2) := by decide +kernel
theorem dX11_couple_67 : decode cX11_couple 67 = .ok (.iconst 3, 1) := by decide +kernel
theorem dX11_couple_68 : decode cX11_couple 68 = .ok (.iload_n 1, 1) := by decide +kernel
theorem dX11_couple_69 : decode cX11_couple 69 = .ok (.imul, 1) := by decide +kernel
theorem dX11_couple_70 : decode cX11_couple 70 = .ok (.iadd, 1) := by decide +kernel
theorem dX11_couple_71 : decode cX11_couple 71 = .ok (.iconst 1, 1) := by decide +kernel
theorem dX11_couple_72 : decode cX11_couple 72 = .ok (.iadd, 1) := by decide +kernel
theorem dX11_couple_73 : decode cX11_couple 73 = .ok (.iload_n 2, 1) := by decide +kernel
theorem dX11_couple_74 : decode cX11_couple 74 = .ok (.iastore, 1) := by decide +kernel
theorem dX11_couple_75 : decode cX11_couple 75 = .ok (.aload_n 0, 1) := by decide +kernel
theorem dX11_couple_76 : decode cX11_couple 76 = .ok (.getfield 7, 3) := by decide +kernel
theorem dX11_couple_79 : decode cX11_couple 79 = .ok (.bipush 30, 2) := by decide +kernel
theorem dX11_couple_81 : decode cX11_couple 81 = .ok (.iconst 3, 1) := by decide +kernel
theorem dX11_couple_82 : decode cX11_couple 82 = .ok (.iload_n 2, 1) := by decide +kernel
theorem dX11_couple_83 : decode cX11_couple 83 = .ok (.imul, 1) := by decide +kernel
theorem dX11_couple_84 : decode cX11_couple 84 = .ok (.iadd, 1) := by decide +kernel
theorem dX11_couple_85 : decode cX11_couple 85 = .ok (.iconst 1, 1) := by decide +kernel
theorem dX11_couple_86 : decode cX11_couple 86 = .ok (.iadd, 1) := by decide +kernel
theorem dX11_couple_87 : decode cX11_couple 87 = .ok (.iload_n 1, 1) := by decide +kernel
theorem dX11_couple_88 : decode cX11_couple 88 = .ok (.iastore, 1) := by decide +kernel
theorem dX11_couple_89 : decode cX11_couple 89 = .ok (.iconst 1, 1) := by decide +kernel
theorem dX11_couple_90 : decode cX11_couple 90 = .ok (.ireturn, 1) := by decide +kernel
theorem dX11_part_0 : decode cX11_part 0 = .ok (.aload_n 0, 1) := by decide +kernel
theorem dX11_part_1 : decode cX11_part 1 = .ok (.iload_n 1, 1) := by decide +kernel
theorem dX11_part_2 : decode cX11_part 2 = .ok (.invokevirtual 62, 3) := by decide +kernel
theorem dX11_part_5 : decode cX11_part 5 = .ok (.ifCond .ne 6, 3) := by decide +kernel
theorem dX11_part_8 : decode cX11_part 8 = .ok (.ldc 60, 2) := by decide +kernel
theorem dX11_part_10 : decode cX11_part 10 = .ok (.ireturn, 1) := by decide +kernel
theorem dX11_part_11 : decode cX11_part 11 = .ok (.aload_n 0, 1) := by decide +kernel
theorem dX11_part_12 : decode cX11_part 12 = .ok (.getfield 7, 3) := by decide +kernel
theorem dX11_part_15 : decode cX11_part 15 = .ok (.bipush 30, 2) := by decide +kernel
theorem dX11_part_17 : decode cX11_part 17 = .ok (.iconst 3, 1) := by decide +kernel
theorem dX11_part_18 : decode cX11_part 18 = .ok (.iload_n 1, 1) := by decide +kernel
theorem dX11_part_19 : decode cX11_part 19 = .ok (.imul, 1) := by decide +kernel
theorem dX11_part_20 : decode cX11_part 20 = .ok (.iadd, 1) := by decide +kernel
theorem dX11_part_21 : decode cX11_part 21 = .ok (.iconst 1, 1) := by decide +kernel
theorem dX11_part_22 : decode cX11_part 22 = .ok (.iadd, 1) := by decide +kernel
theorem dX11_part_23 : decode cX11_part 23 = .ok (.iaload, 1) := by decide +kernel
theorem dX11_part_24 : decode cX11_part 24 = .ok (.istore_n 2, 1) := by decide +kernel
theorem dX11_part_25 : decode cX11_part 25 = .ok (.iload_n 2, 1) := by decide +kernel
theorem dX11_part_26 : decode cX11_part 26 = .ok (.iconst (-1), 1) := by decide +kernel
theorem dX11_part_27 : decode cX11_part 27 = .ok (.if_icmp .ne 6, 3) := by decide +kernel
theorem dX11_part_30 : decode cX11_part 30 = .ok (.ldc 69, 2) := by decide +kernel
theorem dX11_part_32 : decode cX11_part 32 = .ok (.ireturn, 1) := by decide +kernel
theorem dX11_part_33 : decode cX11_part 33 = .ok (.aload_n 0, 1) := by decide +kernel
theorem dX11_part_34 : decode cX11_part 34 = .ok (.getfield 7, 3) := by decide +kernel
theorem dX11_part_37 : decode cX11_part 37 = .ok (.bipush 30, 2) := by decide +kernel
theorem dX11_part_39 : decode cX11_part 39 = .ok (.iconst 3, 1) := by decide +kernel
theorem dX11_part_40 : decode cX11_part 40 = .ok (.iload_n 1, 1) := by decide +kernel
theorem dX11_part_41 : decode cX11_part 41 = .ok (.imul, 1) := by decide +kernel
theorem dX11_part_42 : decode cX11_part 42 = .ok (.iadd, 1) := by decide +kernel
theorem dX11_part_43 : decode cX11_part 43 = .ok (.iconst 1, 1) := by decide +kernel
theorem dX11_part_44 : decode cX11_part 44 = .ok (.iadd, 1) := by decide +kernel
theorem dX11_part_45 : decode cX11_part 45 = .ok (.iconst (-1), 1) := by decide +kernel
theorem dX11_part_46 : decode cX11_part 46 = .ok (.iastore, 1) := by decide +kernel
theorem dX11_part_47 : decode cX11_part 47 = .ok (.aload_n 0, 1) := by decide +kernel
theorem dX11_part_48 : decode cX11_part 48 = .ok (.getfield 7, 3) := by decide +kernel
theorem dX11_part_51 : decode cX11_part 51 = .ok (.bipush 30, 2) := by decide +kernel
theorem dX11_part_53 : decode cX11_part 53 = .ok (.iconst 3, 1) := by decide +kernel
theorem dX11_part_54 : decode cX11_part 54 = .ok (.iload_n 2, 1) := by decide +kernel
theorem dX11_part_55 : decode cX11_part 55 = .ok (.imul, 1) := by decide +kernel
theorem dX11_part_56 : decode cX11_part 56 = .ok (.iadd, 1) := by decide +kernel
theorem dX11_part_57 : decode cX11_part 57 = .ok (.iconst 1, 1) := by decide +kernel
theorem dX11_part_58 : decode cX11_part 58 = .ok (.iadd, 1) := by decide +kernel
theorem dX11_part_59 : decode cX11_part 59 = .ok (.iconst (-1), 1) := by decide +kernel
theorem dX11_part_60 : decode cX11_part 60 = .ok (.iastore, 1) := by decide +kernel
theorem dX11_part_61 : decode cX11_part 61 = .ok (.iload_n 2, 1) := by decide +kernel
theorem dX11_part_62 : decode cX11_part 62 = .ok (.ireturn, 1) := by decide +kernel
theorem dX11_fact_0 : decode cX11_fact 0 = .ok (.aload_n 0, 1) := by decide +kernel
theorem dX11_fact_1 : decode cX11_fact 1 = .ok (.iload_n 1, 1) := by decide +kernel
theorem dX11_fact_2 : decode cX11_fact 2 = .ok (.invokevirtual 62, 3) := by decide +kernel
theorem dX11_fact_5 : decode cX11_fact 5 = .ok (.ifCond .eq 69, 3) := by decide +kernel
theorem dX11_fact_8 : decode cX11_fact 8 = .ok (.iload_n 2, 1) := by decide +kernel
theorem dX11_fact_9 : decode cX11_fact 9 = .ok (.iconst 0, 1) := by decide +kernel
theorem dX11_fact_10 : decode cX11_fact 10 = .ok (.iconst 3, 1) := by decide +kernel
theorem dX11_fact_11 : decode cX11_fact 11 = .ok (.invokestatic 56, 3) := by decide +kernel
theorem dX11_fact_14 : decode cX11_fact 14 = .ok (.ifCond .eq 60, 3) := by decide +kernel
theorem dX11_fact_17 : decode cX11_fact 17 = .ok (.iload_n 3, 1) := by decide +kernel
theorem dX11_fact_18 : decode cX11_fact 18 = .ok (.iconst 0, 1) := by decide +kernel
theorem dX11_fact_19 : decode cX11_fact 19 = .ok (.iconst 1, 1) := by decide +kernel
theorem dX11_fact_20 : decode cX11_fact 20 = .ok (.invokestatic 56, 3) := by decide +kernel
theorem dX11_fact_23 : decode cX11_fact 23 = .ok (.ifCond .eq 51, 3) := by decide +kernel
theorem dX11_fact_26 : decode cX11_fact 26 = .ok (.iload_n 3, 1) := by decide +kernel
theorem dX11_fact_27 : decode cX11_fact 27 = .ok (.iconst 1, 1) := by decide +kernel
theorem dX11_fact_28 : decode cX11_fact 28 = .ok (.if_icmp .ne 13, 3) := by decide +kernel
theorem dX11_fact_31 : decode cX11_fact 31 = .ok (.iload_n 2, 1) := by decide +kernel
theorem dX11_fact_32 : decode cX11_fact 32 = .ok (.iconst 1, 1) := by decide +kernel
theorem dX11_fact_33 : decode cX11_fact 33 = .ok (.if_icmp .eq 41, 3) := by decide +kernel
theorem dX11_fact_36 : decode cX11_fact 36 = .ok (.iload_n 2, 1) := by decide +kernel
theorem dX11_fact_37 : decode cX11_fact 37 = .ok (.iconst 3, 1) := by decide +kernel
theorem dX11_fact_38 : decode cX11_fact 38 = .ok (.if_icmp .eq 36, 3) := by decide +kernel
theorem dX11_fact_41 : decode cX11_fact 41 = .ok (.iload 4, 2) := by decide +kernel
theorem dX11_fact_43 : decode cX11_fact 43 = .ok (.iconst 0, 1) := by decide +kernel
theorem dX11_fact_44 : decode cX11_fact 44 = .ok (.iload_n 2, 1) := by decide +kernel
theorem dX11_fact_45 : decode cX11_fact 45 = .ok (.iconst 1, 1) := by decide +kernel
theorem dX11_fact_46 : decode cX11_fact 46 = .ok (.if_icmp .ne 8, 3) := by decide +kernel
theorem dX11_fact_49 : decode cX11_fact 49 = .ok (.bipush 9, 2) := by decide +kernel
theorem dX11_fact_51 : decode cX11_fact 51 = .ok (.goto 5, 3) := by decide +kernel
theorem dX11_fact_54 : decode cX11_fact 54 = .ok (.ldc 70, 2) := by decide +kernel
theorem dX11_fact_56 : decode cX11_fact 56 = .ok (.invokestatic 56, 3) := by decide +kernel
theorem dX11_fact_59 : decode cX11_fact 59 = .ok (.ifCond .eq 15, 3) := by decide +kernel
theorem dX11_fact_62 : decode cX11_fact 62 = .ok (.iload 5, 2) := by decide +kernel
theorem dX11_fact_64 : decode cX11_fact 64 = .ok (.iconst 0, 1) := by decide +kernel
theorem dX11_fact_65 : decode cX11_fact 65 = .ok (.sipush 3000, 3) := by decide +kernel
theorem dX11_fact_68 : decode cX11_fact 68 = .ok (.invokestatic 56, 3) := by decide +kernel
theorem dX11_fact_71 : decode cX11_fact 71 = .ok (.ifCond .ne 6, 3) := by decide +kernel
theorem dX11_fact_74 : decode cX11_fact 74 = .ok (.ldc 60, 2) := by decide +kernel
theorem dX11_fact_76 : decode cX11_fact 76 = .ok (.ireturn, 1) := by decide +kernel
theorem dX11_fact_77 : decode cX11_fact 77 = .ok (.aload_n 0, 1) := by decide +kernel
theorem dX11_fact_78 : decode cX11_fact 78 = .ok (.getfield 7, 3) := by decide +kernel
theorem dX11_fact_81 : decode cX11_fact 81 = .ok (.bipush 18, 2) := by decide +kernel
theorem dX11_fact_83 : decode cX11_fact 83 = .ok (.iaload, 1) := by decide +kernel
theorem dX11_fact_84 : decode cX11_fact 84 = .ok (.bipush 96, 2) := by decide +kernel
theorem dX11_fact_86 : decode cX11_fact 86 = .ok (.if_icmp .ne 6, 3) := by decide +kernel
theorem dX11_fact_89 : decode cX11_fact 89 = .ok (.ldc 61, 2) := by decide +kernel
theorem dX11_fact_91 : decode cX11_fact 91 = .ok (.ireturn, 1) := by decide +kernel
theorem dX11_fact_92 : decode cX11_fact 92 = .ok (.bipush 66, 2) := by decide +kernel
theorem dX11_fact_94 : decode cX11_fact 94 = .ok (.bipush 6, 2) := by decide +kernel
theorem dX11_fact_96 : decode cX11_fact 96 = .ok (.aload_n 0, 1) := by decide +kernel
theorem dX11_fact_97 : decode cX11_fact 97 = .ok (.getfield 7, 3) := by decide +kernel
theorem dX11_fact_100 : decode cX11_fact 100 = .ok (.bipush 18, 2) := by decide +kernel
theorem dX11_fact_102 : decode cX11_fact 102 = .ok (.iaload, 1) := by decide +kernel
theorem dX11_fact_103 : decode cX11_fact 103 = .ok (.imul, 1) := by decide +kernel
theorem dX11_fact_104 : decode cX11_fact 104 = .ok (.iadd, 1) := by decide +kernel
theorem dX11_fact_105 : decode cX11_fact 105 = .ok (.istore 6, 2) := by decide +kernel
theorem dX11_fact_107 : decode cX11_fact 107 = .ok (.aload_n 0, 1) := by decide +kernel
theorem dX11_fact_108 : decode cX11_fact 108 = .ok (.getfield 7, 3) := by decide +kernel
theorem dX11_fact_111 : decode cX11_fact 111 = .ok (.iload 6, 2) := by decide +kernel
theorem dX11_fact_113 : decode cX11_fact 113 = .ok (.iload_n 1, 1) := by decide +kernel
theorem dX11_fact_114 : decode cX11_fact 114 = .ok (.iastore, 1) := by decide +kernel
theorem dX11_fact_115 : decode cX11_fact 115 = .ok (.aload_n 0, 1) := by decide +kernel
theorem dX11_fact_116 : decode cX11_fact 116 = .ok (.getfield 7, 3) := by decide +kernel
theorem dX11_fact_119 : decode cX11_fact 119 = .ok (.iload 6, 2) := by decide +kernel
theorem dX11_fact_121 : decode cX11_fact 121 = .ok (.iconst 1, 1) := by decide +kernel
theorem dX11_fact_122 : decode cX11_fact 122 = .ok (.iadd, 1) := by decide +kernel
theorem dX11_fact_123 : decode cX11_fact 123 = .ok (.iload_n 2, 1) := by decide +kernel
theorem dX11_fact_124 : decode cX11_fact 124 = .ok (.iastore, 1) := by decide +kernel
theorem dX11_fact_125 : decode cX11_fact 125 = .ok (.aload_n 0, 1) := by decide +kernel
theorem dX11_fact_126 : decode cX11_fact 126 = .ok (.getfield 7, 3) := by decide +kernel
theorem dX11_fact_129 : decode cX11_fact 129 = .ok (.iload 6, 2) := by decide +kernel
theorem dX11_fact_131 : decode cX11_fact 131 = .ok (.iconst 2, 1) := by decide +kernel
theorem dX11_fact_132 : decode cX11_fact 132 = .ok (.iadd, 1) := by decide +kernel
theorem dX11_fact_133 : decode cX11_fact 133 = .ok (.iload_n 3, 1) := by decide +kernel
theorem dX11_fact_134 : decode cX11_fact 134 = .ok (.iastore, 1) := by decide +kernel
theorem dX11_fact_135 : decode cX11_fact 135 = .ok (.aload_n 0, 1) := by decide +kernel
theorem dX11_fact_136 : decode cX11_fact 136 = .ok (.getfield 7, 3) := by decide +kernel
theorem dX11_fact_139 : decode cX11_fact 139 = .ok (.iload 6, 2) := by decide +kernel
theorem dX11_fact_141 : decode cX11_fact 141 = .ok (.iconst 3, 1) := by decide +kernel
theorem dX11_fact_142 : decode cX11_fact 142 = .ok (.iadd, 1) := by decide +kernel
theorem dX11_fact_143 : decode cX11_fact 143 = .ok (.iload 4, 2) := by decide +kernel
theorem dX11_fact_145 : decode cX11_fact 145 = .ok (.iastore, 1) := by decide +kernel
theorem dX11_fact_146 : decode cX11_fact 146 = .ok (.aload_n 0, 1) := by decide +kernel
theorem dX11_fact_147 : decode cX11_fact 147 = .ok (.getfield 7, 3) := by decide +kernel
theorem dX11_fact_150 : decode cX11_fact 150 = .ok (.iload 6, 2) := by decide +kernel
theorem dX11_fact_152 : decode cX11_fact 152 = .ok (.iconst 4, 1) := by decide +kernel
theorem dX11_fact_153 : decode cX11_fact 153 = .ok (.iadd, 1) := by decide +kernel
theorem dX11_fact_154 : decode cX11_fact 154 = .ok (.iload 5, 2) := by decide +kernel
theorem dX11_fact_156 : decode cX11_fact 156 = .ok (.iastore, 1) := by decide +kernel
theorem dX11_fact_157 : decode cX11_fact 157 = .ok (.aload_n 0, 1) := by decide +kernel
theorem dX11_fact_158 : decode cX11_fact 158 = .ok (.getfield 7, 3) := by decide +kernel
theorem dX11_fact_161 : decode cX11_fact 161 = .ok (.iload 6, 2) := by decide +kernel
theorem dX11_fact_163 : decode cX11_fact 163 = .ok (.iconst 5, 1) := by decide +kernel
theorem dX11_fact_164 : decode cX11_fact 164 = .ok (.iadd, 1) := by decide +kernel
theorem dX11_fact_165 : decode cX11_fact 165 = .ok (.aload_n 0, 1) := by decide +kernel
theorem dX11_fact_166 : decode cX11_fact 166 = .ok (.getfield 7, 3) := by decide +kernel
theorem dX11_fact_169 : decode cX11_fact 169 = .ok (.iconst 0, 1) := by decide +kernel
theorem dX11_fact_170 : decode cX11_fact 170 = .ok (.iaload, 1) := by decide +kernel
theorem dX11_fact_171 : decode cX11_fact 171 = .ok (.iastore, 1) := by decide +kernel
theorem dX11_fact_172 : decode cX11_fact 172 = .ok (.aload_n 0, 1) := by decide +kernel
theorem dX11_fact_173 : decode cX11_fact 173 = .ok (.getfield 7, 3) := by decide +kernel
theorem dX11_fact_176 : decode cX11_fact 176 = .ok (.bipush 18, 2) := by decide +kernel
theorem dX11_fact_178 : decode cX11_fact 178 = .ok (.dup2, 1) := by decide +kernel
theorem dX11_fact_179 : decode cX11_fact 179 = .ok (.iaload, 1) := by decide +kernel
theorem dX11_fact_180 : decode cX11_fact 180 = .ok (.iconst 1, 1) := by decide +kernel
theorem dX11_fact_181 : decode cX11_fact 181 = .ok (.iadd, 1) := by decide +kernel
theorem dX11_fact_182 : decode cX11_fact 182 = .ok (.iastore, 1) := by decide +kernel
theorem dX11_fact_183 : decode cX11_fact 183 = .ok (.aload_n 0, 1) := by decide +kernel
theorem dX11_fact_184 : decode cX11_fact 184 = .ok (.getfield 7, 3) := by decide +kernel
theorem dX11_fact_187 : decode cX11_fact 187 = .ok (.bipush 18, 2) := by decide +kernel
theorem dX11_fact_189 : decode cX11_fact 189 = .ok (.iaload, 1) := by decide +kernel
theorem dX11_fact_190 : decode cX11_fact 190 = .ok (.ireturn, 1) := by decide +kernel
theorem dX11_whatOf_0 : decode cX11_whatOf 0 = .ok (.iconst (-1), 1) := by decide +kernel
theorem dX11_whatOf_1 : decode cX11_whatOf 1 = .ok (.istore 5, 2) := by decide +kernel
theorem dX11_whatOf_3 : decode cX11_whatOf 3 = .ok (.iconst 0, 1) := by decide +kernel
theorem dX11_whatOf_4 : decode cX11_whatOf 4 = .ok (.istore 6, 2) := by decide +kernel
theorem dX11_whatOf_6 : decode cX11_whatOf 6 = .ok (.iload 6, 2) := by decide +kernel
theorem dX11_whatOf_8 : decode cX11_whatOf 8 = .ok (.aload_n 0, 1) := by decide +kernel
theorem dX11_whatOf_9 : decode cX11_whatOf 9 = .ok (.getfield 7, 3) := by decide +kernel
theorem dX11_whatOf_12 : decode cX11_whatOf 12 = .ok (.bipush 18, 2) := by decide +kernel
theorem dX11_whatOf_14 : decode cX11_whatOf 14 = .ok (.iaload, 1) := by decide +kernel
theorem dX11_whatOf_15 : decode cX11_whatOf 15 = .ok (.if_icmp .ge 173, 3) := by decide +kernel
theorem dX11_whatOf_18 : decode cX11_whatOf 18 = .ok (.bipush 66, 2) := by decide +kernel
theorem dX11_whatOf_20 : decode cX11_whatOf 20 = .ok (.bipush 6, 2) := by decide +kernel
theorem dX11_whatOf_22 : decode cX11_whatOf 22 = .ok (.iload 6, 2) := by decide +kernel
theorem dX11_whatOf_24 : decode cX11_whatOf 24 = .ok (.imul, 1) := by decide +kernel
theorem dX11_whatOf_25 : decode cX11_whatOf 25 = .ok (.iadd, 1) := by decide +kernel
theorem dX11_whatOf_26 : decode cX11_whatOf 26 = .ok (.istore 7, 2) := by decide +kernel
theorem dX11_whatOf_28 : decode cX11_whatOf 28 = .ok (.aload_n 0, 1) := by decide +kernel
theorem dX11_whatOf_29 : decode cX11_whatOf 29 = .ok (.getfield 7, 3) := by decide +kernel
theorem dX11_whatOf_32 : decode cX11_whatOf 32 = .ok (.iload 7, 2) := by decide +kernel
theorem dX11_whatOf_34 : decode cX11_whatOf 34 = .ok (.iaload, 1) := by decide +kernel
theorem dX11_whatOf_35 : decode cX11_whatOf 35 = .ok (.iload_n 1, 1) := by decide +kernel
theorem dX11_whatOf_36 : decode cX11_whatOf 36 = .ok (.if_icmp .ne 146, 3) := by decide +kernel
theorem dX11_whatOf_39 : decode cX11_whatOf 39 = .ok (.aload_n 0, 1) := by decide +kernel
theorem dX11_whatOf_40 : decode cX11_whatOf 40 = .ok (.getfield 7, 3) := by decide +kernel
theorem dX11_whatOf_43 : decode cX11_whatOf 43 = .ok (.iload 7, 2) := by decide +kernel
theorem dX11_whatOf_45 : decode cX11_whatOf 45 = .ok (.iconst 1, 1) := by decide +kernel
theorem dX11_whatOf_46 : decode cX11_whatOf 46 = .ok (.iadd, 1) := by decide +kernel
theorem dX11_whatOf_47 : decode cX11_whatOf 47 = .ok (.iaload, 1) := by decide +kernel
theorem dX11_whatOf_48 : decode cX11_whatOf 48 = .ok (.iload_n 2, 1) := by decide +kernel
theorem dX11_whatOf_49 : decode cX11_whatOf 49 = .ok (.if_icmp .ne 133, 3) := by decide +kernel
theorem dX11_whatOf_52 : decode cX11_whatOf 52 = .ok (.aload_n 0, 1) := by decide +kernel
theorem dX11_whatOf_53 : decode cX11_whatOf 53 = .ok (.getfield 7, 3) := by decide +kernel
theorem dX11_whatOf_56 : decode cX11_whatOf 56 = .ok (.iload 7, 2) := by decide +kernel
theorem dX11_whatOf_58 : decode cX11_whatOf 58 = .ok (.iconst 4, 1) := by decide +kernel
theorem dX11_whatOf_59 : decode cX11_whatOf 59 = .ok (.iadd, 1) := by decide +kernel
theorem dX11_whatOf_60 : decode cX11_whatOf 60 = .ok (.iaload, 1) := by decide +kernel
theorem dX11_whatOf_61 : decode cX11_whatOf 61 = .ok (.iload_n 3, 1) := by decide +kernel
theorem dX11_whatOf_62 : decode cX11_whatOf 62 = .ok (.if_icmp .gt 120, 3) := by decide +kernel
theorem dX11_whatOf_65 : decode cX11_whatOf 65 = .ok (.aload_n 0, 1) := by decide +kernel
theorem dX11_whatOf_66 : decode cX11_whatOf 66 = .ok (.getfield 7, 3) := by decide +kernel
theorem dX11_whatOf_69 : decode cX11_whatOf 69 = .ok (.iload 7, 2) := by decide +kernel
theorem dX11_whatOf_71 : decode cX11_whatOf 71 = .ok (.iconst 5, 1) := by decide +kernel
theorem dX11_whatOf_72 : decode cX11_whatOf 72 = .ok (.iadd, 1) := by decide +kernel
theorem dX11_whatOf_73 : decode cX11_whatOf 73 = .ok (.iaload, 1) := by decide +kernel
theorem dX11_whatOf_74 : decode cX11_whatOf 74 = .ok (.iload 4, 2) := by decide +kernel
theorem dX11_whatOf_76 : decode cX11_whatOf 76 = .ok (.if_icmp .le 6, 3) := by decide +kernel
theorem dX11_whatOf_79 : decode cX11_whatOf 79 = .ok (.goto 103, 3) := by decide +kernel
theorem dX11_whatOf_82 : decode cX11_whatOf 82 = .ok (.bipush 66, 2) := by decide +kernel
theorem dX11_whatOf_84 : decode cX11_whatOf 84 = .ok (.bipush 6, 2) := by decide +kernel
theorem dX11_whatOf_86 : decode cX11_whatOf 86 = .ok (.iload 5, 2) := by decide +kernel
theorem dX11_whatOf_88 : decode cX11_whatOf 88 = .ok (.imul, 1) := by decide +kernel
theorem dX11_whatOf_89 : decode cX11_whatOf 89 = .ok (.iadd, 1) := by decide +kernel
theorem dX11_whatOf_90 : decode cX11_whatOf 90 = .ok (.istore 8, 2) := by decide +kernel
theorem dX11_whatOf_92 : decode cX11_whatOf 92 = .ok (.iload 5, 2) := by decide +kernel
theorem dX11_whatOf_94 : decode cX11_whatOf 94 = .ok (.iconst (-1), 1) := by decide +kernel
theorem dX11_whatOf_95 : decode cX11_whatOf 95 = .ok (.if_icmp .eq 66, 3) := by decide +kernel
theorem dX11_whatOf_98 : decode cX11_whatOf 98 = .ok (.aload_n 0, 1) := by decide +kernel
theorem dX11_whatOf_99 : decode cX11_whatOf 99 = .ok (.getfield 7, 3) := by decide +kernel
theorem dX11_whatOf_102 : decode cX11_whatOf 102 = .ok (.iload 7, 2) := by decide +kernel
theorem dX11_whatOf_104 : decode cX11_whatOf 104 = .ok (.iconst 2, 1) := by decide +kernel
theorem dX11_whatOf_105 : decode cX11_whatOf 105 = .ok (.iadd, 1) := by decide +kernel
theorem dX11_whatOf_106 : decode cX11_whatOf 106 = .ok (.iaload, 1) := by decide +kernel
theorem dX11_whatOf_107 : decode cX11_whatOf 107 = .ok (.aload_n 0, 1) := by decide +kernel
theorem dX11_whatOf_108 : decode cX11_whatOf 108 = .ok (.getfield 7, 3) := by decide +kernel
theorem dX11_whatOf_111 : decode cX11_whatOf 111 = .ok (.iload 8, 2) := by decide +kernel
theorem dX11_whatOf_113 : decode cX11_whatOf 113 = .ok (.iconst 2, 1) := by decide +kernel
theorem dX11_whatOf_114 : decode cX11_whatOf 114 = .ok (.iadd, 1) := by decide +kernel
theorem dX11_whatOf_115 : decode cX11_whatOf 115 = .ok (.iaload, 1) := by decide +kernel
theorem dX11_whatOf_116 : decode cX11_whatOf 116 = .ok (.if_icmp .gt 45, 3) := by decide +kernel
theorem dX11_whatOf_119 : decode cX11_whatOf 119 = .ok (.aload_n 0, 1) := by decide +kernel
theorem dX11_whatOf_120 : decode cX11_whatOf 120 = .ok (.getfield 7, 3) := by decide +kernel
theorem dX11_whatOf_123 : decode cX11_whatOf 123 = .ok (.iload 7, 2) := by decide +kernel
theorem dX11_whatOf_125 : decode cX11_whatOf 125 = .ok (.iconst 2, 1) := by decide +kernel
theorem dX11_whatOf_126 : decode cX11_whatOf 126 = .ok (.iadd, 1) := by decide +kernel
theorem dX11_whatOf_127 : decode cX11_whatOf 127 = .ok (.iaload, 1) := by decide +kernel
theorem dX11_whatOf_128 : decode cX11_whatOf 128 = .ok (.aload_n 0, 1) := by decide +kernel
theorem dX11_whatOf_129 : decode cX11_whatOf 129 = .ok (.getfield 7, 3) := by decide +kernel
theorem dX11_whatOf_132 : decode cX11_whatOf 132 = .ok (.iload 8, 2) := by decide +kernel
theorem dX11_whatOf_134 : decode cX11_whatOf 134 = .ok (.iconst 2, 1) := by decide +kernel
theorem dX11_whatOf_135 : decode cX11_whatOf 135 = .ok (.iadd, 1) := by decide +kernel
theorem dX11_whatOf_136 : decode cX11_whatOf 136 = .ok (.iaload, 1) := by decide +kernel
theorem dX11_whatOf_137 : decode cX11_whatOf 137 = .ok (.if_icmp .ne 28, 3) := by decide +kernel
theorem dX11_whatOf_140 : decode cX11_whatOf 140 = .ok (.aload_n 0, 1) := by decide +kernel
theorem dX11_whatOf_141 : decode cX11_whatOf 141 = .ok (.getfield 7, 3) := by decide +kernel
theorem dX11_whatOf_144 : decode cX11_whatOf 144 = .ok (.iload 7, 2) := by decide +kernel
theorem dX11_whatOf_146 : decode cX11_whatOf 146 = .ok (.iconst 4, 1) := by decide +kernel
theorem dX11_whatOf_147 : decode cX11_whatOf 147 = .ok (.iadd, 1) := by decide +kernel
theorem dX11_whatOf_148 : decode cX11_whatOf 148 = .ok (.iaload, 1) := by decide +kernel
theorem dX11_whatOf_149 : decode cX11_whatOf 149 = .ok (.aload_n 0, 1) := by decide +kernel
theorem dX11_whatOf_150 : decode cX11_whatOf 150 = .ok (.getfield 7, 3) := by decide +kernel
theorem dX11_whatOf_153 : decode cX11_whatOf 153 = .ok (.iload 8, 2) := by decide +kernel
theorem dX11_whatOf_155 : decode cX11_whatOf 155 = .ok (.iconst 4, 1) := by decide +kernel
theorem dX11_whatOf_156 : decode cX11_whatOf 156 = .ok (.iadd, 1) := by decide +kernel
theorem dX11_whatOf_157 : decode cX11_whatOf 157 = .ok (.iaload, 1) := by decide +kernel
theorem dX11_whatOf_158 : decode cX11_whatOf 158 = .ok (.if_icmp .lt 7, 3) := by decide +kernel
theorem dX11_whatOf_161 : decode cX11_whatOf 161 = .ok (.iconst 1, 1) := by decide +kernel
theorem dX11_whatOf_162 : decode cX11_whatOf 162 = .ok (.goto 4, 3) := by decide +kernel
theorem dX11_whatOf_165 : decode cX11_whatOf 165 = .ok (.iconst 0, 1) := by decide +kernel
theorem dX11_whatOf_166 : decode cX11_whatOf 166 = .ok (.istore 9, 2) := by decide +kernel
theorem dX11_whatOf_168 : decode cX11_whatOf 168 = .ok (.iload 9, 2) := by decide +kernel
theorem dX11_whatOf_170 : decode cX11_whatOf 170 = .ok (.ifCond .eq 8, 3) := by decide +kernel
theorem dX11_whatOf_173 : decode cX11_whatOf 173 = .ok (.iload 6, 2) := by decide +kernel
theorem dX11_whatOf_175 : decode cX11_whatOf 175 = .ok (.goto 5, 3) := by decide +kernel
theorem dX11_whatOf_178 : decode cX11_whatOf 178 = .ok (.iload 5, 2) := by decide +kernel
theorem dX11_whatOf_180 : decode cX11_whatOf 180 = .ok (.istore 5, 2) := by decide +kernel
theorem dX11_whatOf_182 : decode cX11_whatOf 182 = .ok (.iinc 6 1, 3) := by decide +kernel
theorem dX11_whatOf_185 : decode cX11_whatOf 185 = .ok (.goto (-179), 3) := by decide +kernel
theorem dX11_whatOf_188 : decode cX11_whatOf 188 = .ok (.iload 5, 2) := by decide +kernel
theorem dX11_whatOf_190 : decode cX11_whatOf 190 = .ok (.iconst (-1), 1) := by decide +kernel
theorem dX11_whatOf_191 : decode cX11_whatOf 191 = .ok (.if_icmp .ne 20, 3) := by decide +kernel
theorem dX11_whatOf_194 : decode cX11_whatOf 194 = .ok (.iload_n 2, 1) := by decide +kernel
theorem dX11_whatOf_195 : decode cX11_whatOf 195 = .ok (.ifCond .ne 12, 3) := by decide +kernel
theorem dX11_whatOf_198 : decode cX11_whatOf 198 = .ok (.aload_n 0, 1) := by decide +kernel
theorem dX11_whatOf_199 : decode cX11_whatOf 199 = .ok (.getfield 7, 3) := by decide +kernel
theorem dX11_whatOf_202 : decode cX11_whatOf 202 = .ok (.iconst 1, 1) := by decide +kernel
theorem dX11_whatOf_203 : decode cX11_whatOf 203 = .ok (.iaload, 1) := by decide +kernel
theorem dX11_whatOf_204 : decode cX11_whatOf 204 = .ok (.goto 22, 3) := by decide +kernel
theorem dX11_whatOf_207 : decode cX11_whatOf 207 = .ok (.iconst 0, 1) := by decide +kernel
theorem dX11_whatOf_208 : decode cX11_whatOf 208 = .ok (.goto 18, 3) := by decide +kernel
theorem dX11_whatOf_211 : decode cX11_whatOf 211 = .ok (.aload_n 0, 1) := by decide +kernel
theorem dX11_whatOf_212 : decode cX11_whatOf 212 = .ok (.getfield 7, 3) := by decide +kernel
theorem dX11_whatOf_215 : decode cX11_whatOf 215 = .ok (.bipush 66, 2) := by decide +kernel
theorem dX11_whatOf_217 : decode cX11_whatOf 217 = .ok (.bipush 6, 2) := by decide +kernel
theorem dX11_whatOf_219 : decode cX11_whatOf 219 = .ok (.iload 5, 2) := by decide +kernel
theorem dX11_whatOf_221 : decode cX11_whatOf 221 = .ok (.imul, 1) := by decide +kernel
theorem dX11_whatOf_222 : decode cX11_whatOf 222 = .ok (.iadd, 1) := by decide +kernel
theorem dX11_whatOf_223 : decode cX11_whatOf 223 = .ok (.iconst 3, 1) := by decide +kernel
theorem dX11_whatOf_224 : decode cX11_whatOf 224 = .ok (.iadd, 1) := by decide +kernel
theorem dX11_whatOf_225 : decode cX11_whatOf 225 = .ok (.iaload, 1) := by decide +kernel
theorem dX11_whatOf_226 : decode cX11_whatOf 226 = .ok (.ireturn, 1) := by decide +kernel
theorem dX11_ownEarns_0 : decode cX11_ownEarns 0 = .ok (.aload_n 0, 1) := by decide +kernel
theorem dX11_ownEarns_1 : decode cX11_ownEarns 1 = .ok (.iload_n 1, 1) := by decide +kernel
theorem dX11_ownEarns_2 : decode cX11_ownEarns 2 = .ok (.iconst 0, 1) := by decide +kernel
theorem dX11_ownEarns_3 : decode cX11_ownEarns 3 = .ok (.iload_n 2, 1) := by decide +kernel
theorem dX11_ownEarns_4 : decode cX11_ownEarns 4 = .ok (.iload_n 3, 1) := by decide +kernel
theorem dX11_ownEarns_5 : decode cX11_ownEarns 5 = .ok (.invokevirtual 71, 3) := by decide +kernel
theorem dX11_ownEarns_8 : decode cX11_ownEarns 8 = .ok (.istore 4, 2) := by decide +kernel
theorem dX11_ownEarns_10 : decode cX11_ownEarns 10 = .ok (.aload_n 0, 1) := by decide +kernel
theorem dX11_ownEarns_11 : decode cX11_ownEarns 11 = .ok (.getfield 7, 3) := by decide +kernel
theorem dX11_ownEarns_14 : decode cX11_ownEarns 14 = .ok (.bipush 30, 2) := by decide +kernel
theorem dX11_ownEarns_16 : decode cX11_ownEarns 16 = .ok (.iconst 3, 1) := by decide +kernel
theorem dX11_ownEarns_17 : decode cX11_ownEarns 17 = .ok (.iload_n 1, 1) := by decide +kernel
theorem dX11_ownEarns_18 : decode cX11_ownEarns 18 = .ok (.imul, 1) := by decide +kernel
theorem dX11_ownEarns_19 : decode cX11_ownEarns 19 = .ok (.iadd, 1) := by decide +kernel
theorem dX11_ownEarns_20 : decode cX11_ownEarns 20 = .ok (.iaload, 1) := by decide +kernel
theorem dX11_ownEarns_21 : decode cX11_ownEarns 21 = .ok (.iconst 3, 1) := by decide +kernel
theorem dX11_ownEarns_22 : decode cX11_ownEarns 22 = .ok (.if_icmp .ne 22, 3) := by decide +kernel
theorem dX11_ownEarns_25 : decode cX11_ownEarns 25 = .ok (.iload 4, 2) := by decide +kernel
theorem dX11_ownEarns_27 : decode cX11_ownEarns 27 = .ok (.aload_n 0, 1) := by decide +kernel
theorem dX11_ownEarns_28 : decode cX11_ownEarns 28 = .ok (.iload_n 1, 1) := by decide +kernel
theorem dX11_ownEarns_29 : decode cX11_ownEarns 29 = .ok (.iconst 2, 1) := by decide +kernel
theorem dX11_ownEarns_30 : decode cX11_ownEarns 30 = .ok (.iload_n 2, 1) := by decide +kernel
theorem dX11_ownEarns_31 : decode cX11_ownEarns 31 = .ok (.iload_n 3, 1) := by decide +kernel
theorem dX11_ownEarns_32 : decode cX11_ownEarns 32 = .ok (.invokevirtual 71, 3) := by decide +kernel
theorem dX11_ownEarns_35 : decode cX11_ownEarns 35 = .ok (.bipush 24, 2) := by decide +kernel
theorem dX11_ownEarns_37 : decode cX11_ownEarns 37 = .ok (.idiv, 1) := by decide +kernel
theorem dX11_ownEarns_38 : decode cX11_ownEarns 38 = .ok (.invokestatic 75, 3) := by decide +kernel
theorem dX11_ownEarns_41 : decode cX11_ownEarns 41 = .ok (.goto 5, 3) := by decide +kernel
theorem dX11_ownEarns_44 : decode cX11_ownEarns 44 = .ok (.iload 4, 2) := by decide +kernel
theorem dX11_ownEarns_46 : decode cX11_ownEarns 46 = .ok (.ireturn, 1) := by decide +kernel
theorem dX11_earns_0 : decode cX11_earns 0 = .ok (.aload_n 0, 1) := by decide +kernel
theorem dX11_earns_1 : decode cX11_earns 1 = .ok (.getfield 7, 3) := by decide +kernel
theorem dX11_earns_4 : decode cX11_earns 4 = .ok (.bipush 30, 2) := by decide +kernel
theorem dX11_earns_6 : decode cX11_earns 6 = .ok (.iconst 3, 1) := by decide +kernel
theorem dX11_earns_7 : decode cX11_earns 7 = .ok (.iload_n 1, 1) := by decide +kernel
theorem dX11_earns_8 : decode cX11_earns 8 = .ok (.imul, 1) := by decide +kernel
theorem dX11_earns_9 : decode cX11_earns 9 = .ok (.iadd, 1) := by decide +kernel
theorem dX11_earns_10 : decode cX11_earns 10 = .ok (.iconst 1, 1) := by decide +kernel
theorem dX11_earns_11 : decode cX11_earns 11 = .ok (.iadd, 1) := by decide +kernel
theorem dX11_earns_12 : decode cX11_earns 12 = .ok (.iaload, 1) := by decide +kernel
theorem dX11_earns_13 : decode cX11_earns 13 = .ok (.istore 4, 2) := by decide +kernel
theorem dX11_earns_15 : decode cX11_earns 15 = .ok (.aload_n 0, 1) := by decide +kernel
theorem dX11_earns_16 : decode cX11_earns 16 = .ok (.iload_n 1, 1) := by decide +kernel
theorem dX11_earns_17 : decode cX11_earns 17 = .ok (.iload_n 2, 1) := by decide +kernel
theorem dX11_earns_18 : decode cX11_earns 18 = .ok (.iload_n 3, 1) := by decide +kernel
theorem dX11_earns_19 : decode cX11_earns 19 = .ok (.invokevirtual 79, 3) := by decide +kernel
theorem dX11_earns_22 : decode cX11_earns 22 = .ok (.istore 5, 2) := by decide +kernel
theorem dX11_earns_24 : decode cX11_earns 24 = .ok (.iload 4, 2) := by decide +kernel
theorem dX11_earns_26 : decode cX11_earns 26 = .ok (.iconst (-1), 1) := by decide +kernel
theorem dX11_earns_27 : decode cX11_earns 27 = .ok (.if_icmp .ne 8, 3) := by decide +kernel
theorem dX11_earns_30 : decode cX11_earns 30 = .ok (.iload 5, 2) := by decide +kernel
theorem dX11_earns_32 : decode cX11_earns 32 = .ok (.goto 16, 3) := by decide +kernel
theorem dX11_earns_35 : decode cX11_earns 35 = .ok (.iload 5, 2) := by decide +kernel
theorem dX11_earns_37 : decode cX11_earns 37 = .ok (.aload_n 0, 1) := by decide +kernel
theorem dX11_earns_38 : decode cX11_earns 38 = .ok (.iload 4, 2) := by decide +kernel
theorem dX11_earns_40 : decode cX11_earns 40 = .ok (.iload_n 2, 1) := by decide +kernel
theorem dX11_earns_41 : decode cX11_earns 41 = .ok (.iload_n 3, 1) := by decide +kernel
theorem dX11_earns_42 : decode cX11_earns 42 = .ok (.invokevirtual 79, 3) := by decide +kernel
theorem dX11_earns_45 : decode cX11_earns 45 = .ok (.iadd, 1) := by decide +kernel
theorem dX11_earns_46 : decode cX11_earns 46 = .ok (.iconst 2, 1) := by decide +kernel
theorem dX11_earns_47 : decode cX11_earns 47 = .ok (.idiv, 1) := by decide +kernel
theorem dX11_earns_48 : decode cX11_earns 48 = .ok (.ireturn, 1) := by decide +kernel
theorem dX11_known_0 : decode cX11_known 0 = .ok (.aload_n 0, 1) := by decide +kernel
theorem dX11_known_1 : decode cX11_known 1 = .ok (.iload_n 1, 1) := by decide +kernel
theorem dX11_known_2 : decode cX11_known 2 = .ok (.invokevirtual 62, 3) := by decide +kernel
theorem dX11_known_5 : decode cX11_known 5 = .ok (.ifCond .eq 38, 3) := by decide +kernel
theorem dX11_known_8 : decode cX11_known 8 = .ok (.iload_n 2, 1) := by decide +kernel
theorem dX11_known_9 : decode cX11_known 9 = .ok (.iconst 0, 1) := by decide +kernel
theorem dX11_known_10 : decode cX11_known 10 = .ok (.iconst 4, 1) := by decide +kernel
theorem dX11_known_11 : decode cX11_known 11 = .ok (.invokestatic 56, 3) := by decide +kernel
theorem dX11_known_14 : decode cX11_known 14 = .ok (.ifCond .eq 29, 3) := by decide +kernel
theorem dX11_known_17 : decode cX11_known 17 = .ok (.iload_n 3, 1) := by decide +kernel
theorem dX11_known_18 : decode cX11_known 18 = .ok (.iconst 0, 1) := by decide +kernel
theorem dX11_known_19 : decode cX11_known 19 = .ok (.sipush 3000, 3) := by decide +kernel
theorem dX11_known_22 : decode cX11_known 22 = .ok (.invokestatic 56, 3) := by decide +kernel
theorem dX11_known_25 : decode cX11_known 25 = .ok (.ifCond .eq 18, 3) := by decide +kernel
theorem dX11_known_28 : decode cX11_known 28 = .ok (.iload 4, 2) := by decide +kernel
theorem dX11_known_30 : decode cX11_known 30 = .ok (.iconst 0, 1) := by decide +kernel
theorem dX11_known_31 : decode cX11_known 31 = .ok (.aload_n 0, 1) := by decide +kernel
theorem dX11_known_32 : decode cX11_known 32 = .ok (.getfield 7, 3) := by decide +kernel
theorem dX11_known_35 : decode cX11_known 35 = .ok (.iconst 0, 1) := by decide +kernel
theorem dX11_known_36 : decode cX11_known 36 = .ok (.iaload, 1) := by decide +kernel
theorem dX11_known_37 : decode cX11_known 37 = .ok (.invokestatic 56, 3) := by decide +kernel
theorem dX11_known_40 : decode cX11_known 40 = .ok (.ifCond .ne 6, 3) := by decide +kernel
theorem dX11_known_43 : decode cX11_known 43 = .ok (.ldc 60, 2) := by decide +kernel
theorem dX11_known_45 : decode cX11_known 45 = .ok (.ireturn, 1) := by decide +kernel
theorem dX11_known_46 : decode cX11_known 46 = .ok (.iload_n 2, 1) := by decide +kernel
theorem dX11_known_47 : decode cX11_known 47 = .ok (.iconst 4, 1) := by decide +kernel
theorem dX11_known_48 : decode cX11_known 48 = .ok (.if_icmp .ne 14, 3) := by decide +kernel
theorem dX11_known_51 : decode cX11_known 51 = .ok (.aload_n 0, 1) := by decide +kernel
theorem dX11_known_52 : decode cX11_known 52 = .ok (.iload_n 1, 1) := by decide +kernel
theorem dX11_known_53 : decode cX11_known 53 = .ok (.iload_n 3, 1) := by decide +kernel
theorem dX11_known_54 : decode cX11_known 54 = .ok (.iload 4, 2) := by decide +kernel
theorem dX11_known_56 : decode cX11_known 56 = .ok (.invokevirtual 83, 3) := by decide +kernel
theorem dX11_known_59 : decode cX11_known 59 = .ok (.goto 12, 3) := by decide +kernel
theorem dX11_known_62 : decode cX11_known 62 = .ok (.aload_n 0, 1) := by decide +kernel
theorem dX11_known_63 : decode cX11_known 63 = .ok (.iload_n 1, 1) := by decide +kernel
theorem dX11_known_64 : decode cX11_known 64 = .ok (.iload_n 2, 1) := by decide +kernel
theorem dX11_known_65 : decode cX11_known 65 = .ok (.iload_n 3, 1) := by decide +kernel
theorem dX11_known_66 : decode cX11_known 66 = .ok (.iload 4, 2) := by decide +kernel
theorem dX11_known_68 : decode cX11_known 68 = .ok (.invokevirtual 71, 3) := by decide +kernel
theorem dX11_known_71 : decode cX11_known 71 = .ok (.ireturn, 1) := by decide +kernel
theorem dX11_custody_0 : decode cX11_custody 0 = .ok (.aload_n 0, 1) := by decide +kernel
theorem dX11_custody_1 : decode cX11_custody 1 = .ok (.iload_n 1, 1) := by decide +kernel
theorem dX11_custody_2 : decode cX11_custody 2 = .ok (.invokevirtual 62, 3) := by decide +kernel
theorem dX11_custody_5 : decode cX11_custody 5 = .ok (.ifCond .eq 14, 3) := by decide +kernel
theorem dX11_custody_8 : decode cX11_custody 8 = .ok (.iload_n 2, 1) := by decide +kernel
theorem dX11_custody_9 : decode cX11_custody 9 = .ok (.iconst 1, 1) := by decide +kernel
theorem dX11_custody_10 : decode cX11_custody 10 = .ok (.sipush 999, 3) := by decide +kernel
theorem dX11_custody_13 : decode cX11_custody 13 = .ok (.invokestatic 56, 3) := by decide +kernel
theorem dX11_custody_16 : decode cX11_custody 16 = .ok (.ifCond .ne 6, 3) := by decide +kernel
theorem dX11_custody_19 : decode cX11_custody 19 = .ok (.ldc 60, 2) := by decide +kernel
theorem dX11_custody_21 : decode cX11_custody 21 = .ok (.ireturn, 1) := by decide +kernel
theorem dX11_custody_22 : decode cX11_custody 22 = .ok (.bipush 30, 2) := by decide +kernel
theorem dX11_custody_24 : decode cX11_custody 24 = .ok (.iconst 3, 1) := by decide +kernel
theorem dX11_custody_25 : decode cX11_custody 25 = .ok (.iload_n 1, 1) := by decide +kernel
theorem dX11_custody_26 : decode cX11_custody 26 = .ok (.imul, 1) := by decide +kernel
theorem dX11_custody_27 : decode cX11_custody 27 = .ok (.iadd, 1) := by decide +kernel
theorem dX11_custody_28 : decode cX11_custody 28 = .ok (.iconst 2, 1) := by decide +kernel
theorem dX11_custody_29 : decode cX11_custody 29 = .ok (.iadd, 1) := by decide +kernel
theorem dX11_custody_30 : decode cX11_custody 30 = .ok (.istore_n 3, 1) := by decide +kernel
theorem dX11_custody_31 : decode cX11_custody 31 = .ok (.aload_n 0, 1) := by decide +kernel
theorem dX11_custody_32 : decode cX11_custody 32 = .ok (.getfield 7, 3) := by decide +kernel
theorem dX11_custody_35 : decode cX11_custody 35 = .ok (.iload_n 3, 1) := by decide +kernel
theorem dX11_custody_36 : decode cX11_custody 36 = .ok (.iaload, 1) := by decide +kernel
theorem dX11_custody_37 : decode cX11_custody 37 = .ok (.iload_n 2, 1) := by decide +kernel
theorem dX11_custody_38 : decode cX11_custody 38 = .ok (.iadd, 1) := by decide +kernel
theorem dX11_custody_39 : decode cX11_custody 39 = .ok (.sipush 9999, 3) := by decide +kernel
theorem dX11_custody_42 : decode cX11_custody 42 = .ok (.if_icmp .le 6, 3) := by decide +kernel
theorem dX11_custody_45 : decode cX11_custody 45 = .ok (.ldc 61, 2) := by decide +kernel
theorem dX11_custody_47 : decode cX11_custody 47 = .ok (.ireturn, 1) := by decide +kernel
theorem dX11_custody_48 : decode cX11_custody 48 = .ok (.aload_n 0, 1) := by decide +kernel
theorem dX11_custody_49 : decode cX11_custody 49 = .ok (.getfield 7, 3) := by decide +kernel
theorem dX11_custody_52 : decode cX11_custody 52 = .ok (.iload_n 3, 1) := by decide +kernel
theorem dX11_custody_53 : decode cX11_custody 53 = .ok (.dup2, 1) := by decide +kernel
theorem dX11_custody_54 : decode cX11_custody 54 = .ok (.iaload, 1) := by decide +kernel
theorem dX11_custody_55 : decode cX11_custody 55 = .ok (.iload_n 2, 1) := by decide +kernel
theorem dX11_custody_56 : decode cX11_custody 56 = .ok (.iadd, 1) := by decide +kernel
theorem dX11_custody_57 : decode cX11_custody 57 = .ok (.iastore, 1) := by decide +kernel
theorem dX11_custody_58 : decode cX11_custody 58 = .ok (.aload_n 0, 1) := by decide +kernel
theorem dX11_custody_59 : decode cX11_custody 59 = .ok (.getfield 7, 3) := by decide +kernel
theorem dX11_custody_62 : decode cX11_custody 62 = .ok (.iload_n 3, 1) := by decide +kernel
theorem dX11_custody_63 : decode cX11_custody 63 = .ok (.iaload, 1) := by decide +kernel
theorem dX11_custody_64 : decode cX11_custody 64 = .ok (.ireturn, 1) := by decide +kernel
theorem dX11_days_0 : decode cX11_days 0 = .ok (.iload_n 1, 1) := by decide +kernel
theorem dX11_days_1 : decode cX11_days 1 = .ok (.iconst 1, 1) := by decide +kernel
theorem dX11_days_2 : decode cX11_days 2 = .ok (.bipush 100, 2) := by decide +kernel
theorem dX11_days_4 : decode cX11_days 4 = .ok (.invokestatic 56, 3) := by decide +kernel
theorem dX11_days_7 : decode cX11_days 7 = .ok (.ifCond .eq 17, 3) := by decide +kernel
theorem dX11_days_10 : decode cX11_days 10 = .ok (.aload_n 0, 1) := by decide +kernel
theorem dX11_days_11 : decode cX11_days 11 = .ok (.getfield 7, 3) := by decide +kernel
theorem dX11_days_14 : decode cX11_days 14 = .ok (.iconst 0, 1) := by decide +kernel
theorem dX11_days_15 : decode cX11_days 15 = .ok (.iaload, 1) := by decide +kernel
theorem dX11_days_16 : decode cX11_days 16 = .ok (.iload_n 1, 1) := by decide +kernel
theorem dX11_days_17 : decode cX11_days 17 = .ok (.iadd, 1) := by decide +kernel
theorem dX11_days_18 : decode cX11_days 18 = .ok (.sipush 3000, 3) := by decide +kernel
theorem dX11_days_21 : decode cX11_days 21 = .ok (.if_icmp .le 6, 3) := by decide +kernel
theorem dX11_days_24 : decode cX11_days 24 = .ok (.ldc 60, 2) := by decide +kernel
theorem dX11_days_26 : decode cX11_days 26 = .ok (.ireturn, 1) := by decide +kernel
theorem dX11_days_27 : decode cX11_days 27 = .ok (.aload_n 0, 1) := by decide +kernel
theorem dX11_days_28 : decode cX11_days 28 = .ok (.getfield 7, 3) := by decide +kernel
theorem dX11_days_31 : decode cX11_days 31 = .ok (.iconst 0, 1) := by decide +kernel
theorem dX11_days_32 : decode cX11_days 32 = .ok (.dup2, 1) := by decide +kernel
theorem dX11_days_33 : decode cX11_days 33 = .ok (.iaload, 1) := by decide +kernel
theorem dX11_days_34 : decode cX11_days 34 = .ok (.iload_n 1, 1) := by decide +kernel
theorem dX11_days_35 : decode cX11_days 35 = .ok (.iadd, 1) := by decide +kernel
theorem dX11_days_36 : decode cX11_days 36 = .ok (.iastore, 1) := by decide +kernel
theorem dX11_days_37 : decode cX11_days 37 = .ok (.aload_n 0, 1) := by decide +kernel
theorem dX11_days_38 : decode cX11_days 38 = .ok (.getfield 7, 3) := by decide +kernel
theorem dX11_days_41 : decode cX11_days 41 = .ok (.iconst 0, 1) := by decide +kernel
theorem dX11_days_42 : decode cX11_days 42 = .ok (.iaload, 1) := by decide +kernel
theorem dX11_days_43 : decode cX11_days 43 = .ok (.ireturn, 1) := by decide +kernel
theorem dX11_mostOf_0 : decode cX11_mostOf 0 = .ok (.iload_n 0, 1) := by decide +kernel
theorem dX11_mostOf_1 : decode cX11_mostOf 1 = .ok (.tableswitch 89 0 14 #[75, 78, 82, 82, 86, 89, 89, 89, 78, 78, 86, 78, 78, 89, 86], 75) := by decide +kernel
theorem dX11_mostOf_76 : decode cX11_mostOf 76 = .ok (.ldc 70, 2) := by decide +kernel
theorem dX11_mostOf_78 : decode cX11_mostOf 78 = .ok (.ireturn, 1) := by decide +kernel
theorem dX11_mostOf_79 : decode cX11_mostOf 79 = .ok (.sipush 3000, 3) := by decide +kernel
theorem dX11_mostOf_82 : decode cX11_mostOf 82 = .ok (.ireturn, 1) := by decide +kernel
theorem dX11_mostOf_83 : decode cX11_mostOf 83 = .ok (.sipush 999, 3) := by decide +kernel
theorem dX11_mostOf_86 : decode cX11_mostOf 86 = .ok (.ireturn, 1) := by decide +kernel
theorem dX11_mostOf_87 : decode cX11_mostOf 87 = .ok (.bipush 100, 2) := by decide +kernel
theorem dX11_mostOf_89 : decode cX11_mostOf 89 = .ok (.ireturn, 1) := by decide +kernel
theorem dX11_mostOf_90 : decode cX11_mostOf 90 = .ok (.sipush 9999, 3) := by decide +kernel
theorem dX11_mostOf_93 : decode cX11_mostOf 93 = .ok (.ireturn, 1) := by decide +kernel
theorem dX11_rule_0 : decode cX11_rule 0 = .ok (.iload_n 1, 1) := by decide +kernel
theorem dX11_rule_1 : decode cX11_rule 1 = .ok (.iconst 0, 1) := by decide +kernel
theorem dX11_rule_2 : decode cX11_rule 2 = .ok (.bipush 15, 2) := by decide +kernel
theorem dX11_rule_4 : decode cX11_rule 4 = .ok (.invokestatic 56, 3) := by decide +kernel
theorem dX11_rule_7 : decode cX11_rule 7 = .ok (.ifCond .eq 15, 3) := by decide +kernel
theorem dX11_rule_10 : decode cX11_rule 10 = .ok (.iload_n 2, 1) := by decide +kernel
theorem dX11_rule_11 : decode cX11_rule 11 = .ok (.iconst 0, 1) := by decide +kernel
theorem dX11_rule_12 : decode cX11_rule 12 = .ok (.iload_n 1, 1) := by decide +kernel
theorem dX11_rule_13 : decode cX11_rule 13 = .ok (.invokestatic 86, 3) := by decide +kernel
theorem dX11_rule_16 : decode cX11_rule 16 = .ok (.invokestatic 56, 3) := by decide +kernel
theorem dX11_rule_19 : decode cX11_rule 19 = .ok (.ifCond .ne 6, 3) := by decide +kernel
theorem dX11_rule_22 : decode cX11_rule 22 = .ok (.ldc 60, 2) := by decide +kernel
theorem dX11_rule_24 : decode cX11_rule 24 = .ok (.ireturn, 1) := by decide +kernel
theorem dX11_rule_25 : decode cX11_rule 25 = .ok (.aload_n 0, 1) := by decide +kernel
theorem dX11_rule_26 : decode cX11_rule 26 = .ok (.getfield 7, 3) := by decide +kernel
theorem dX11_rule_29 : decode cX11_rule 29 = .ok (.iconst 1, 1) := by decide +kernel
theorem dX11_rule_30 : decode cX11_rule 30 = .ok (.iload_n 1, 1) := by decide +kernel
theorem dX11_rule_31 : decode cX11_rule 31 = .ok (.iadd, 1) := by decide +kernel
theorem dX11_rule_32 : decode cX11_rule 32 = .ok (.iaload, 1) := by decide +kernel
theorem dX11_rule_33 : decode cX11_rule 33 = .ok (.istore_n 3, 1) := by decide +kernel
theorem dX11_rule_34 : decode cX11_rule 34 = .ok (.aload_n 0, 1) := by decide +kernel
theorem dX11_rule_35 : decode cX11_rule 35 = .ok (.getfield 7, 3) := by decide +kernel
theorem dX11_rule_38 : decode cX11_rule 38 = .ok (.iconst 1, 1) := by decide +kernel
theorem dX11_rule_39 : decode cX11_rule 39 = .ok (.iload_n 1, 1) := by decide +kernel
theorem dX11_rule_40 : decode cX11_rule 40 = .ok (.iadd, 1) := by decide +kernel
theorem dX11_rule_41 : decode cX11_rule 41 = .ok (.iload_n 2, 1) := by decide +kernel
theorem dX11_rule_42 : decode cX11_rule 42 = .ok (.iastore, 1) := by decide +kernel
theorem dX11_rule_43 : decode cX11_rule 43 = .ok (.iload_n 3, 1) := by decide +kernel
theorem dX11_rule_44 : decode cX11_rule 44 = .ok (.ireturn, 1) := by decide +kernel
theorem dX11_deed_0 : decode cX11_deed 0 = .ok (.iload_n 1, 1) := by decide +kernel
theorem dX11_deed_1 : decode cX11_deed 1 = .ok (.iconst 0, 1) := by decide +kernel
theorem dX11_deed_2 : decode cX11_deed 2 = .ok (.iconst 3, 1) := by decide +kernel
theorem dX11_deed_3 : decode cX11_deed 3 = .ok (.invokestatic 56, 3) := by decide +kernel
theorem dX11_deed_6 : decode cX11_deed 6 = .ok (.ifCond .eq 36, 3) := by decide +kernel
theorem dX11_deed_9 : decode cX11_deed 9 = .ok (.aload_n 0, 1) := by decide +kernel
theorem dX11_deed_10 : decode cX11_deed 10 = .ok (.iload_n 2, 1) := by decide +kernel
theorem dX11_deed_11 : decode cX11_deed 11 = .ok (.invokevirtual 62, 3) := by decide +kernel
theorem dX11_deed_14 : decode cX11_deed 14 = .ok (.ifCond .eq 28, 3) := by decide +kernel
theorem dX11_deed_17 : decode cX11_deed 17 = .ok (.iload_n 3, 1) := by decide +kernel
theorem dX11_deed_18 : decode cX11_deed 18 = .ok (.iconst 0, 1) := by decide +kernel
theorem dX11_deed_19 : decode cX11_deed 19 = .ok (.aload_n 0, 1) := by decide +kernel
theorem dX11_deed_20 : decode cX11_deed 20 = .ok (.getfield 7, 3) := by decide +kernel
theorem dX11_deed_23 : decode cX11_deed 23 = .ok (.iconst 0, 1) := by decide +kernel
theorem dX11_deed_24 : decode cX11_deed 24 = .ok (.iaload, 1) := by decide +kernel
theorem dX11_deed_25 : decode cX11_deed 25 = .ok (.invokestatic 56, 3) := by decide +kernel
theorem dX11_deed_28 : decode cX11_deed 28 = .ok (.ifCond .eq 14, 3) := by decide +kernel
theorem dX11_deed_31 : decode cX11_deed 31 = .ok (.iload 4, 2) := by decide +kernel
theorem dX11_deed_33 : decode cX11_deed 33 = .ok (.iconst 1, 1) := by decide +kernel
theorem dX11_deed_34 : decode cX11_deed 34 = .ok (.bipush 100, 2) := by decide +kernel
theorem dX11_deed_36 : decode cX11_deed 36 = .ok (.invokestatic 56, 3) := by decide +kernel
theorem dX11_deed_39 : decode cX11_deed 39 = .ok (.ifCond .ne 6, 3) := by decide +kernel
theorem dX11_deed_42 : decode cX11_deed 42 = .ok (.ldc 60, 2) := by decide +kernel
theorem dX11_deed_44 : decode cX11_deed 44 = .ok (.ireturn, 1) := by decide +kernel
theorem dX11_deed_45 : decode cX11_deed 45 = .ok (.aload_n 0, 1) := by decide +kernel
theorem dX11_deed_46 : decode cX11_deed 46 = .ok (.getfield 7, 3) := by decide +kernel
theorem dX11_deed_49 : decode cX11_deed 49 = .ok (.bipush 19, 2) := by decide +kernel
theorem dX11_deed_51 : decode cX11_deed 51 = .ok (.iaload, 1) := by decide +kernel
theorem dX11_deed_52 : decode cX11_deed 52 = .ok (.bipush 30, 2) := by decide +kernel
theorem dX11_deed_54 : decode cX11_deed 54 = .ok (.if_icmp .ne 6, 3) := by decide +kernel
theorem dX11_deed_57 : decode cX11_deed 57 = .ok (.ldc 61, 2) := by decide +kernel
theorem dX11_deed_59 : decode cX11_deed 59 = .ok (.ireturn, 1) := by decide +kernel
theorem dX11_deed_60 : decode cX11_deed 60 = .ok (.sipush 642, 3) := by decide +kernel
theorem dX11_deed_63 : decode cX11_deed 63 = .ok (.iconst 5, 1) := by decide +kernel
theorem dX11_deed_64 : decode cX11_deed 64 = .ok (.aload_n 0, 1) := by decide +kernel
theorem dX11_deed_65 : decode cX11_deed 65 = .ok (.getfield 7, 3) := by decide +kernel
theorem dX11_deed_68 : decode cX11_deed 68 = .ok (.bipush 19, 2) := by decide +kernel
theorem dX11_deed_70 : decode cX11_deed 70 = .ok (.iaload, 1) := by decide +kernel
theorem dX11_deed_71 : decode cX11_deed 71 = .ok (.imul, 1) := by decide +kernel
theorem dX11_deed_72 : decode cX11_deed 72 = .ok (.iadd, 1) := by decide +kernel
theorem dX11_deed_73 : decode cX11_deed 73 = .ok (.istore 5, 2) := by decide +kernel
theorem dX11_deed_75 : decode cX11_deed 75 = .ok (.aload_n 0, 1) := by decide +kernel
theorem dX11_deed_76 : decode cX11_deed 76 = .ok (.getfield 7, 3) := by decide +kernel
theorem dX11_deed_79 : decode cX11_deed 79 = .ok (.iload 5, 2) := by decide +kernel
theorem dX11_deed_81 : decode cX11_deed 81 = .ok (.iload_n 1, 1) := by decide +kernel
theorem dX11_deed_82 : decode cX11_deed 82 = .ok (.iastore, 1) := by decide +kernel
theorem dX11_deed_83 : decode cX11_deed 83 = .ok (.aload_n 0, 1) := by decide +kernel
theorem dX11_deed_84 : decode cX11_deed 84 = .ok (.getfield 7, 3) := by decide +kernel
theorem dX11_deed_87 : decode cX11_deed 87 = .ok (.iload 5, 2) := by decide +kernel
theorem dX11_deed_89 : decode cX11_deed 89 = .ok (.iconst 1, 1) := by decide +kernel
theorem dX11_deed_90 : decode cX11_deed 90 = .ok (.iadd, 1) := by decide +kernel
theorem dX11_deed_91 : decode cX11_deed 91 = .ok (.iload_n 2, 1) := by decide +kernel
theorem dX11_deed_92 : decode cX11_deed 92 = .ok (.iastore, 1) := by decide +kernel
theorem dX11_deed_93 : decode cX11_deed 93 = .ok (.aload_n 0, 1) := by decide +kernel
theorem dX11_deed_94 : decode cX11_deed 94 = .ok (.getfield 7, 3) := by decide +kernel
theorem dX11_deed_97 : decode cX11_deed 97 = .ok (.iload 5, 2) := by decide +kernel
theorem dX11_deed_99 : decode cX11_deed 99 = .ok (.iconst 2, 1) := by decide +kernel
theorem dX11_deed_100 : decode cX11_deed 100 = .ok (.iadd, 1) := by decide +kernel
theorem dX11_deed_101 : decode cX11_deed 101 = .ok (.iload_n 3, 1) := by decide +kernel
theorem dX11_deed_102 : decode cX11_deed 102 = .ok (.iastore, 1) := by decide +kernel
theorem dX11_deed_103 : decode cX11_deed 103 = .ok (.aload_n 0, 1) := by decide +kernel
theorem dX11_deed_104 : decode cX11_deed 104 = .ok (.getfield 7, 3) := by decide +kernel
theorem dX11_deed_107 : decode cX11_deed 107 = .ok (.iload 5, 2) := by decide +kernel
theorem dX11_deed_109 : decode cX11_deed 109 = .ok (.iconst 3, 1) := by decide +kernel
theorem dX11_deed_110 : decode cX11_deed 110 = .ok (.iadd, 1) := by decide +kernel
theorem dX11_deed_111 : decode cX11_deed 111 = .ok (.iload 4, 2) := by decide +kernel
theorem dX11_deed_113 : decode cX11_deed 113 = .ok (.iastore, 1) := by decide +kernel
theorem dX11_deed_114 : decode cX11_deed 114 = .ok (.aload_n 0, 1) := by decide +kernel
theorem dX11_deed_115 : decode cX11_deed 115 = .ok (.getfield 7, 3) := by decide +kernel
theorem dX11_deed_118 : decode cX11_deed 118 = .ok (.iload 5, 2) := by decide +kernel
theorem dX11_deed_120 : decode cX11_deed 120 = .ok (.iconst 4, 1) := by decide +kernel
theorem dX11_deed_121 : decode cX11_deed 121 = .ok (.iadd, 1) := by decide +kernel
theorem dX11_deed_122 : decode cX11_deed 122 = .ok (.iconst (-1), 1) := by decide +kernel
theorem dX11_deed_123 : decode cX11_deed 123 = .ok (.iastore, 1) := by decide +kernel
theorem dX11_deed_124 : decode cX11_deed 124 = .ok (.aload_n 0, 1) := by decide +kernel
theorem dX11_deed_125 : decode cX11_deed 125 = .ok (.getfield 7, 3) := by decide +kernel
theorem dX11_deed_128 : decode cX11_deed 128 = .ok (.bipush 19, 2) := by decide +kernel
theorem dX11_deed_130 : decode cX11_deed 130 = .ok (.dup2, 1) := by decide +kernel
theorem dX11_deed_131 : decode cX11_deed 131 = .ok (.iaload, 1) := by decide +kernel
theorem dX11_deed_132 : decode cX11_deed 132 = .ok (.iconst 1, 1) := by decide +kernel
theorem dX11_deed_133 : decode cX11_deed 133 = .ok (.iadd, 1) := by decide +kernel
theorem dX11_deed_134 : decode cX11_deed 134 = .ok (.iastore, 1) := by decide +kernel
theorem dX11_deed_135 : decode cX11_deed 135 = .ok (.aload_n 0, 1) := by decide +kernel
theorem dX11_deed_136 : decode cX11_deed 136 = .ok (.getfield 7, 3) := by decide +kernel
theorem dX11_deed_139 : decode cX11_deed 139 = .ok (.bipush 19, 2) := by decide +kernel
theorem dX11_deed_141 : decode cX11_deed 141 = .ok (.iaload, 1) := by decide +kernel
theorem dX11_deed_142 : decode cX11_deed 142 = .ok (.iconst 1, 1) := by decide +kernel
theorem dX11_deed_143 : decode cX11_deed 143 = .ok (.isub, 1) := by decide +kernel
theorem dX11_deed_144 : decode cX11_deed 144 = .ok (.ireturn, 1) := by decide +kernel
theorem dX11_isOf_0 : decode cX11_isOf 0 = .ok (.aload_n 0, 1) := by decide +kernel
theorem dX11_isOf_1 : decode cX11_isOf 1 = .ok (.iload_n 1, 1) := by decide +kernel
theorem dX11_isOf_2 : decode cX11_isOf 2 = .ok (.invokevirtual 90, 3) := by decide +kernel
theorem dX11_isOf_5 : decode cX11_isOf 5 = .ok (.ifCond .eq 12, 3) := by decide +kernel
theorem dX11_isOf_8 : decode cX11_isOf 8 = .ok (.iload_n 2, 1) := by decide +kernel
theorem dX11_isOf_9 : decode cX11_isOf 9 = .ok (.iconst 0, 1) := by decide +kernel
theorem dX11_isOf_10 : decode cX11_isOf 10 = .ok (.iconst 3, 1) := by decide +kernel
theorem dX11_isOf_11 : decode cX11_isOf 11 = .ok (.invokestatic 56, 3) := by decide +kernel
theorem dX11_isOf_14 : decode cX11_isOf 14 = .ok (.ifCond .ne 6, 3) := by decide +kernel
theorem dX11_isOf_17 : decode cX11_isOf 17 = .ok (.ldc 60, 2) := by decide +kernel
theorem dX11_isOf_19 : decode cX11_isOf 19 = .ok (.ireturn, 1) := by decide +kernel
theorem dX11_isOf_20 : decode cX11_isOf 20 = .ok (.aload_n 0, 1) := by decide +kernel
theorem dX11_isOf_21 : decode cX11_isOf 21 = .ok (.getfield 7, 3) := by decide +kernel
theorem dX11_isOf_24 : decode cX11_isOf 24 = .ok (.sipush 642, 3) := by decide +kernel
theorem dX11_isOf_27 : decode cX11_isOf 27 = .ok (.iconst 5, 1) := by decide +kernel
theorem dX11_isOf_28 : decode cX11_isOf 28 = .ok (.iload_n 1, 1) := by decide +kernel
theorem dX11_isOf_29 : decode cX11_isOf 29 = .ok (.imul, 1) := by decide +kernel
theorem dX11_isOf_30 : decode cX11_isOf 30 = .ok (.iadd, 1) := by decide +kernel
theorem dX11_isOf_31 : decode cX11_isOf 31 = .ok (.iaload, 1) := by decide +kernel
theorem dX11_isOf_32 : decode cX11_isOf 32 = .ok (.istore_n 3, 1) := by decide +kernel
theorem dX11_isOf_33 : decode cX11_isOf 33 = .ok (.iload_n 2, 1) := by decide +kernel
theorem dX11_isOf_34 : decode cX11_isOf 34 = .ok (.ifCond .eq 18, 3) := by decide +kernel
theorem dX11_isOf_37 : decode cX11_isOf 37 = .ok (.iload_n 3, 1) := by decide +kernel
theorem dX11_isOf_38 : decode cX11_isOf 38 = .ok (.iload_n 2, 1) := by decide +kernel
theorem dX11_isOf_39 : decode cX11_isOf 39 = .ok (.if_icmp .eq 13, 3) := by decide +kernel
theorem dX11_isOf_42 : decode cX11_isOf 42 = .ok (.iload_n 2, 1) := by decide +kernel
theorem dX11_isOf_43 : decode cX11_isOf 43 = .ok (.iconst 2, 1) := by decide +kernel
theorem dX11_isOf_44 : decode cX11_isOf 44 = .ok (.if_icmp .ne 12, 3) := by decide +kernel
theorem dX11_isOf_47 : decode cX11_isOf 47 = .ok (.iload_n 3, 1) := by decide +kernel
theorem dX11_isOf_48 : decode cX11_isOf 48 = .ok (.iconst 3, 1) := by decide +kernel
theorem dX11_isOf_49 : decode cX11_isOf 49 = .ok (.if_icmp .ne 7, 3) := by decide +kernel
theorem dX11_isOf_52 : decode cX11_isOf 52 = .ok (.iconst 1, 1) := by decide +kernel
theorem dX11_isOf_53 : decode cX11_isOf 53 = .ok (.goto 4, 3) := by decide +kernel
theorem dX11_isOf_56 : decode cX11_isOf 56 = .ok (.iconst 0, 1) := by decide +kernel
theorem dX11_isOf_57 : decode cX11_isOf 57 = .ok (.ireturn, 1) := by decide +kernel
theorem dX11_past_0 : decode cX11_past 0 = .ok (.sipush 642, 3) := by decide +kernel
theorem dX11_past_3 : decode cX11_past 3 = .ok (.iconst 5, 1) := by decide +kernel
theorem dX11_past_4 : decode cX11_past 4 = .ok (.iload_n 1, 1) := by decide +kernel
theorem dX11_past_5 : decode cX11_past 5 = .ok (.imul, 1) := by decide +kernel
theorem dX11_past_6 : decode cX11_past 6 = .ok (.iadd, 1) := by decide +kernel
theorem dX11_past_7 : decode cX11_past 7 = .ok (.istore_n 2, 1) := by decide +kernel
theorem dX11_past_8 : decode cX11_past 8 = .ok (.iconst 0, 1) := by decide +kernel
theorem dX11_past_9 : decode cX11_past 9 = .ok (.istore_n 3, 1) := by decide +kernel
theorem dX11_past_10 : decode cX11_past 10 = .ok (.iconst 0, 1) := by decide +kernel
theorem dX11_past_11 : decode cX11_past 11 = .ok (.istore 4, 2) := by decide +kernel
theorem dX11_past_13 : decode cX11_past 13 = .ok (.iload 4, 2) := by decide +kernel
theorem dX11_past_15 : decode cX11_past 15 = .ok (.aload_n 0, 1) := by decide +kernel
theorem dX11_past_16 : decode cX11_past 16 = .ok (.getfield 7, 3) := by decide +kernel
theorem dX11_past_19 : decode cX11_past 19 = .ok (.bipush 20, 2) := by decide +kernel
theorem dX11_past_21 : decode cX11_past 21 = .ok (.iaload, 1) := by decide +kernel
theorem dX11_past_22 : decode cX11_past 22 = .ok (.if_icmp .ge 84, 3) := by decide +kernel
theorem dX11_past_25 : decode cX11_past 25 = .ok (.aload_n 0, 1) := by decide +kernel
theorem dX11_past_26 : decode cX11_past 26 = .ok (.getfield 7, 3) := by decide +kernel
theorem dX11_past_29 : decode cX11_past 29 = .ok (.iload_n 2, 1) := by decide +kernel
theorem dX11_past_30 : decode cX11_past 30 = .ok (.iconst 2, 1) := by decide +kernel
theorem dX11_past_31 : decode cX11_past 31 = .ok (.iadd, 1) := by decide +kernel
theorem dX11_past_32 : decode cX11_past 32 = .ok (.iaload, 1) := by decide +kernel
theorem dX11_past_33 : decode cX11_past 33 = .ok (.aload_n 0, 1) := by decide +kernel
theorem dX11_past_34 : decode cX11_past 34 = .ok (.getfield 7, 3) := by decide +kernel
theorem dX11_past_37 : decode cX11_past 37 = .ok (.sipush 792, 3) := by decide +kernel
theorem dX11_past_40 : decode cX11_past 40 = .ok (.bipush 10, 2) := by decide +kernel
theorem dX11_past_42 : decode cX11_past 42 = .ok (.iload 4, 2) := by decide +kernel
theorem dX11_past_44 : decode cX11_past 44 = .ok (.imul, 1) := by decide +kernel
theorem dX11_past_45 : decode cX11_past 45 = .ok (.iadd, 1) := by decide +kernel
theorem dX11_past_46 : decode cX11_past 46 = .ok (.iconst 1, 1) := by decide +kernel
theorem dX11_past_47 : decode cX11_past 47 = .ok (.iadd, 1) := by decide +kernel
theorem dX11_past_48 : decode cX11_past 48 = .ok (.iaload, 1) := by decide +kernel
theorem dX11_past_49 : decode cX11_past 49 = .ok (.isub, 1) := by decide +kernel
theorem dX11_past_50 : decode cX11_past 50 = .ok (.istore 5, 2) := by decide +kernel
theorem dX11_past_52 : decode cX11_past 52 = .ok (.iload_n 3, 1) := by decide +kernel
theorem dX11_past_53 : decode cX11_past 53 = .ok (.aload_n 0, 1) := by decide +kernel
theorem dX11_past_54 : decode cX11_past 54 = .ok (.getfield 7, 3) := by decide +kernel
theorem dX11_past_57 : decode cX11_past 57 = .ok (.sipush 792, 3) := by decide +kernel
theorem dX11_past_60 : decode cX11_past 60 = .ok (.bipush 10, 2) := by decide +kernel
theorem dX11_past_62 : decode cX11_past 62 = .ok (.iload 4, 2) := by decide +kernel
theorem dX11_past_64 : decode cX11_past 64 = .ok (.imul, 1) := by decide +kernel
theorem dX11_past_65 : decode cX11_past 65 = .ok (.iadd, 1) := by decide +kernel
theorem dX11_past_66 : decode cX11_past 66 = .ok (.iaload, 1) := by decide +kernel
theorem dX11_past_67 : decode cX11_past 67 = .ok (.aload_n 0, 1) := by decide +kernel
theorem dX11_past_68 : decode cX11_past 68 = .ok (.getfield 7, 3) := by decide +kernel
theorem dX11_past_71 : decode cX11_past 71 = .ok (.iload_n 2, 1) := by decide +kernel
theorem dX11_past_72 : decode cX11_past 72 = .ok (.iconst 1, 1) := by decide +kernel
theorem dX11_past_73 : decode cX11_past 73 = .ok (.iadd, 1) := by decide +kernel
theorem dX11_past_74 : decode cX11_past 74 = .ok (.iaload, 1) := by decide +kernel
theorem dX11_past_75 : decode cX11_past 75 = .ok (.if_icmp .ne 22, 3) := by decide +kernel
theorem dX11_past_78 : decode cX11_past 78 = .ok (.iload 5, 2) := by decide +kernel
theorem dX11_past_80 : decode cX11_past 80 = .ok (.iconst 1, 1) := by decide +kernel
theorem dX11_past_81 : decode cX11_past 81 = .ok (.aload_n 0, 1) := by decide +kernel
theorem dX11_past_82 : decode cX11_past 82 = .ok (.getfield 7, 3) := by decide +kernel
theorem dX11_past_85 : decode cX11_past 85 = .ok (.iconst 2, 1) := by decide +kernel
theorem dX11_past_86 : decode cX11_past 86 = .ok (.iaload, 1) := by decide +kernel
theorem dX11_past_87 : decode cX11_past 87 = .ok (.invokestatic 56, 3) := by decide +kernel
theorem dX11_past_90 : decode cX11_past 90 = .ok (.ifCond .eq 7, 3) := by decide +kernel
theorem dX11_past_93 : decode cX11_past 93 = .ok (.iconst 1, 1) := by decide +kernel
theorem dX11_past_94 : decode cX11_past 94 = .ok (.goto 4, 3) := by decide +kernel
theorem dX11_past_97 : decode cX11_past 97 = .ok (.iconst 0, 1) := by decide +kernel
theorem dX11_past_98 : decode cX11_past 98 = .ok (.iadd, 1) := by decide +kernel
theorem dX11_past_99 : decode cX11_past 99 = .ok (.istore_n 3, 1) := by decide +kernel
theorem dX11_past_100 : decode cX11_past 100 = .ok (.iinc 4 1, 3) := by decide +kernel
theorem dX11_past_103 : decode cX11_past 103 = .ok (.goto (-90), 3) := by decide +kernel
theorem dX11_past_106 : decode cX11_past 106 = .ok (.iload_n 3, 1) := by decide +kernel
theorem dX11_past_107 : decode cX11_past 107 = .ok (.ireturn, 1) := by decide +kernel
theorem dX11_told_0 : decode cX11_told 0 = .ok (.aload_n 0, 1) := by decide +kernel
theorem dX11_told_1 : decode cX11_told 1 = .ok (.iload_n 1, 1) := by decide +kernel
theorem dX11_told_2 : decode cX11_told 2 = .ok (.invokevirtual 90, 3) := by decide +kernel
theorem dX11_told_5 : decode cX11_told 5 = .ok (.ifCond .eq 12, 3) := by decide +kernel
theorem dX11_told_8 : decode cX11_told 8 = .ok (.iload_n 2, 1) := by decide +kernel
theorem dX11_told_9 : decode cX11_told 9 = .ok (.iconst 0, 1) := by decide +kernel
theorem dX11_told_10 : decode cX11_told 10 = .ok (.iconst 5, 1) := by decide +kernel
theorem dX11_told_11 : decode cX11_told 11 = .ok (.invokestatic 56, 3) := by decide +kernel
theorem dX11_told_14 : decode cX11_told 14 = .ok (.ifCond .ne 6, 3) := by decide +kernel
theorem dX11_told_17 : decode cX11_told 17 = .ok (.ldc 60, 2) := by decide +kernel
theorem dX11_told_19 : decode cX11_told 19 = .ok (.ireturn, 1) := by decide +kernel
theorem dX11_told_20 : decode cX11_told 20 = .ok (.iload_n 2, 1) := by decide +kernel
theorem dX11_told_21 : decode cX11_told 21 = .ok (.iconst 4, 1) := by decide +kernel
theorem dX11_told_22 : decode cX11_told 22 = .ok (.if_icmp .ne 11, 3) := by decide +kernel
theorem dX11_told_25 : decode cX11_told 25 = .ok (.aload_n 0, 1) := by decide +kernel
theorem dX11_told_26 : decode cX11_told 26 = .ok (.iload_n 1, 1) := by decide +kernel
theorem dX11_told_27 : decode cX11_told 27 = .ok (.invokevirtual 93, 3) := by decide +kernel
theorem dX11_told_30 : decode cX11_told 30 = .ok (.goto 42, 3) := by decide +kernel
theorem dX11_told_33 : decode cX11_told 33 = .ok (.iload_n 2, 1) := by decide +kernel
theorem dX11_told_34 : decode cX11_told 34 = .ok (.iconst 5, 1) := by decide +kernel
theorem dX11_told_35 : decode cX11_told 35 = .ok (.if_icmp .ne 23, 3) := by decide +kernel
theorem dX11_told_38 : decode cX11_told 38 = .ok (.aload_n 0, 1) := by decide +kernel
theorem dX11_told_39 : decode cX11_told 39 = .ok (.getfield 7, 3) := by decide +kernel
theorem dX11_told_42 : decode cX11_told 42 = .ok (.sipush 642, 3) := by decide +kernel
theorem dX11_told_45 : decode cX11_told 45 = .ok (.iconst 5, 1) := by decide +kernel
theorem dX11_told_46 : decode cX11_told 46 = .ok (.iload_n 1, 1) := by decide +kernel
theorem dX11_told_47 : decode cX11_told 47 = .ok (.imul, 1) := by decide +kernel
theorem dX11_told_48 : decode cX11_told 48 = .ok (.iadd, 1) := by decide +kernel
theorem dX11_told_49 : decode cX11_told 49 = .ok (.iconst 4, 1) := by decide +kernel
theorem dX11_told_50 : decode cX11_told 50 = .ok (.iadd, 1) := by decide +kernel
theorem dX11_told_51 : decode cX11_told 51 = .ok (.iaload, 1) := by decide +kernel
theorem dX11_told_52 : decode cX11_told 52 = .ok (.invokestatic 96, 3) := by decide +kernel
theorem dX11_told_55 : decode cX11_told 55 = .ok (.goto 17, 3) := by decide +kernel
theorem dX11_told_58 : decode cX11_told 58 = .ok (.aload_n 0, 1) := by decide +kernel
theorem dX11_told_59 : decode cX11_told 59 = .ok (.getfield 7, 3) := by decide +kernel
theorem dX11_told_62 : decode cX11_told 62 = .ok (.sipush 642, 3) := by decide +kernel
theorem dX11_told_65 : decode cX11_told 65 = .ok (.iconst 5, 1) := by decide +kernel
theorem dX11_told_66 : decode cX11_told 66 = .ok (.iload_n 1, 1) := by decide +kernel
theorem dX11_told_67 : decode cX11_told 67 = .ok (.imul, 1) := by decide +kernel
theorem dX11_told_68 : decode cX11_told 68 = .ok (.iadd, 1) := by decide +kernel
theorem dX11_told_69 : decode cX11_told 69 = .ok (.iload_n 2, 1) := by decide +kernel
theorem dX11_told_70 : decode cX11_told 70 = .ok (.iadd, 1) := by decide +kernel
theorem dX11_told_71 : decode cX11_told 71 = .ok (.iaload, 1) := by decide +kernel
theorem dX11_told_72 : decode cX11_told 72 = .ok (.ireturn, 1) := by decide +kernel
theorem dX11_flat_0 : decode cX11_flat 0 = .ok (.iload_n 1, 1) := by decide +kernel
theorem dX11_flat_1 : decode cX11_flat 1 = .ok (.iconst 0, 1) := by decide +kernel
theorem dX11_flat_2 : decode cX11_flat 2 = .ok (.iconst 3, 1) := by decide +kernel
theorem dX11_flat_3 : decode cX11_flat 3 = .ok (.invokestatic 56, 3) := by decide +kernel
theorem dX11_flat_6 : decode cX11_flat 6 = .ok (.ifCond .eq 14, 3) := by decide +kernel
theorem dX11_flat_9 : decode cX11_flat 9 = .ok (.iload_n 2, 1) := by decide +kernel
theorem dX11_flat_10 : decode cX11_flat 10 = .ok (.iconst 0, 1) := by decide +kernel
theorem dX11_flat_11 : decode cX11_flat 11 = .ok (.sipush 9999, 3) := by decide +kernel
theorem dX11_flat_14 : decode cX11_flat 14 = .ok (.invokestatic 56, 3) := by decide +kernel
theorem dX11_flat_17 : decode cX11_flat 17 = .ok (.ifCond .ne 6, 3) := by decide +kernel
theorem dX11_flat_20 : decode cX11_flat 20 = .ok (.ldc 60, 2) := by decide +kernel
theorem dX11_flat_22 : decode cX11_flat 22 = .ok (.ireturn, 1) := by decide +kernel
theorem dX11_flat_23 : decode cX11_flat 23 = .ok (.aload_n 0, 1) := by decide +kernel
theorem dX11_flat_24 : decode cX11_flat 24 = .ok (.getfield 7, 3) := by decide +kernel
theorem dX11_flat_27 : decode cX11_flat 27 = .ok (.bipush 24, 2) := by decide +kernel
theorem dX11_flat_29 : decode cX11_flat 29 = .ok (.iload_n 1, 1) := by decide +kernel
theorem dX11_flat_30 : decode cX11_flat 30 = .ok (.iadd, 1) := by decide +kernel
theorem dX11_flat_31 : decode cX11_flat 31 = .ok (.iaload, 1) := by decide +kernel
theorem dX11_flat_32 : decode cX11_flat 32 = .ok (.istore_n 3, 1) := by decide +kernel
theorem dX11_flat_33 : decode cX11_flat 33 = .ok (.aload_n 0, 1) := by decide +kernel
theorem dX11_flat_34 : decode cX11_flat 34 = .ok (.getfield 7, 3) := by decide +kernel
theorem dX11_flat_37 : decode cX11_flat 37 = .ok (.bipush 24, 2) := by decide +kernel
theorem dX11_flat_39 : decode cX11_flat 39 = .ok (.iload_n 1, 1) := by decide +kernel
theorem dX11_flat_40 : decode cX11_flat 40 = .ok (.iadd, 1) := by decide +kernel
theorem dX11_flat_41 : decode cX11_flat 41 = .ok (.iload_n 2, 1) := by decide +kernel
theorem dX11_flat_42 : decode cX11_flat 42 = .ok (.iastore, 1) := by decide +kernel
theorem dX11_flat_43 : decode cX11_flat 43 = .ok (.iload_n 3, 1) := by decide +kernel
theorem dX11_flat_44 : decode cX11_flat 44 = .ok (.ireturn, 1) := by decide +kernel
theorem dX11_feed_0 : decode cX11_feed 0 = .ok (.aload_n 0, 1) := by decide +kernel
theorem dX11_feed_1 : decode cX11_feed 1 = .ok (.getfield 99, 3) := by decide +kernel
theorem dX11_feed_4 : decode cX11_feed 4 = .ok (.bipush 12, 2) := by decide +kernel
theorem dX11_feed_6 : decode cX11_feed 6 = .ok (.iadd, 1) := by decide +kernel
theorem dX11_feed_7 : decode cX11_feed 7 = .ok (.bipush 120, 2) := by decide +kernel
theorem dX11_feed_9 : decode cX11_feed 9 = .ok (.if_icmp .le 6, 3) := by decide +kernel
theorem dX11_feed_12 : decode cX11_feed 12 = .ok (.ldc 61, 2) := by decide +kernel
theorem dX11_feed_14 : decode cX11_feed 14 = .ok (.ireturn, 1) := by decide +kernel
theorem dX11_feed_15 : decode cX11_feed 15 = .ok (.iconst 0, 1) := by decide +kernel
theorem dX11_feed_16 : decode cX11_feed 16 = .ok (.istore 4, 2) := by decide +kernel
theorem dX11_feed_18 : decode cX11_feed 18 = .ok (.iload 4, 2) := by decide +kernel
theorem dX11_feed_20 : decode cX11_feed 20 = .ok (.bipush 12, 2) := by decide +kernel
theorem dX11_feed_22 : decode cX11_feed 22 = .ok (.if_icmp .ge 62, 3) := by decide +kernel
theorem dX11_feed_25 : decode cX11_feed 25 = .ok (.iload 4, 2) := by decide +kernel
theorem dX11_feed_27 : decode cX11_feed 27 = .ok (.iconst 4, 1) := by decide +kernel
theorem dX11_feed_28 : decode cX11_feed 28 = .ok (.if_icmp .ge 7, 3) := by decide +kernel
theorem dX11_feed_31 : decode cX11_feed 31 = .ok (.iload_n 1, 1) := by decide +kernel
theorem dX11_feed_32 : decode cX11_feed 32 = .ok (.goto 15, 3) := by decide +kernel
theorem dX11_feed_35 : decode cX11_feed 35 = .ok (.iload 4, 2) := by decide +kernel
theorem dX11_feed_37 : decode cX11_feed 37 = .ok (.bipush 8, 2) := by decide +kernel
theorem dX11_feed_39 : decode cX11_feed 39 = .ok (.if_icmp .ge 7, 3) := by decide +kernel
theorem dX11_feed_42 : decode cX11_feed 42 = .ok (.iload_n 2, 1) := by decide +kernel
theorem dX11_feed_43 : decode cX11_feed 43 = .ok (.goto 4, 3) := by decide +kernel
theorem dX11_feed_46 : decode cX11_feed 46 = .ok (.iload_n 3, 1) := by decide +kernel
theorem dX11_feed_47 : decode cX11_feed 47 = .ok (.istore 5, 2) := by decide +kernel
theorem dX11_feed_49 : decode cX11_feed 49 = .ok (.aload_n 0, 1) := by decide +kernel
theorem dX11_feed_50 : decode cX11_feed 50 = .ok (.getfield 16, 3) := by decide +kernel
theorem dX11_feed_53 : decode cX11_feed 53 = .ok (.aload_n 0, 1) := by decide +kernel
theorem dX11_feed_54 : decode cX11_feed 54 = .ok (.getfield 99, 3) := by decide +kernel
theorem dX11_feed_57 : decode cX11_feed 57 = .ok (.iload 4, 2) := by decide +kernel
theorem dX11_feed_59 : decode cX11_feed 59 = .ok (.iadd, 1) := by decide +kernel
theorem dX11_feed_60 : decode cX11_feed 60 = .ok (.iload 5, 2) := by decide +kernel
theorem dX11_feed_62 : decode cX11_feed 62 = .ok (.bipush 24, 2) := by decide +kernel
theorem dX11_feed_64 : decode cX11_feed 64 = .ok (.iload 4, 2) := by decide +kernel
theorem dX11_feed_66 : decode cX11_feed 66 = .ok (.iconst 4, 1) := by decide +kernel
theorem dX11_feed_67 : decode cX11_feed 67 = .ok (.irem, 1) := by decide +kernel
theorem dX11_feed_68 : decode cX11_feed 68 = .ok (.bipush 8, 2) := by decide +kernel
theorem dX11_feed_70 : decode cX11_feed 70 = .ok (.imul, 1) := by decide +kernel
theorem dX11_feed_71 : decode cX11_feed 71 = .ok (.isub, 1) := by decide +kernel
theorem dX11_feed_72 : decode cX11_feed 72 = .ok (.ishr, 1) := by decide +kernel
theorem dX11_feed_73 : decode cX11_feed 73 = .ok (.sipush 255, 3) := by decide +kernel
theorem dX11_feed_76 : decode cX11_feed 76 = .ok (.iand, 1) := by decide +kernel
theorem dX11_feed_77 : decode cX11_feed 77 = .ok (.iastore, 1) := by decide +kernel
theorem dX11_feed_78 : decode cX11_feed 78 = .ok (.iinc 4 1, 3) := by decide +kernel
theorem dX11_feed_81 : decode cX11_feed 81 = .ok (.goto (-63), 3) := by decide +kernel
theorem dX11_feed_84 : decode cX11_feed 84 = .ok (.aload_n 0, 1) := by decide +kernel
theorem dX11_feed_85 : decode cX11_feed 85 = .ok (.dup, 1) := by decide +kernel
theorem dX11_feed_86 : decode cX11_feed 86 = .ok (.getfield 99, 3) := by decide +kernel
theorem dX11_feed_89 : decode cX11_feed 89 = .ok (.bipush 12, 2) := by decide +kernel
theorem dX11_feed_91 : decode cX11_feed 91 = .ok (.iadd, 1) := by decide +kernel
theorem dX11_feed_92 : decode cX11_feed 92 = .ok (.putfield 99, 3) := by decide +kernel
theorem dX11_feed_95 : decode cX11_feed 95 = .ok (.aload_n 0, 1) := by decide +kernel
theorem dX11_feed_96 : decode cX11_feed 96 = .ok (.getfield 99, 3) := by decide +kernel
theorem dX11_feed_99 : decode cX11_feed 99 = .ok (.ireturn, 1) := by decide +kernel
theorem dX11_trim_0 : decode cX11_trim 0 = .ok (.iload_n 1, 1) := by decide +kernel
theorem dX11_trim_1 : decode cX11_trim 1 = .ok (.iconst 0, 1) := by decide +kernel
theorem dX11_trim_2 : decode cX11_trim 2 = .ok (.aload_n 0, 1) := by decide +kernel
theorem dX11_trim_3 : decode cX11_trim 3 = .ok (.getfield 99, 3) := by decide +kernel
theorem dX11_trim_6 : decode cX11_trim 6 = .ok (.invokestatic 56, 3) := by decide +kernel
theorem dX11_trim_9 : decode cX11_trim 9 = .ok (.ifCond .ne 6, 3) := by decide +kernel
theorem dX11_trim_12 : decode cX11_trim 12 = .ok (.ldc 60, 2) := by decide +kernel
theorem dX11_trim_14 : decode cX11_trim 14 = .ok (.ireturn, 1) := by decide +kernel
theorem dX11_trim_15 : decode cX11_trim 15 = .ok (.aload_n 0, 1) := by decide +kernel
theorem dX11_trim_16 : decode cX11_trim 16 = .ok (.iload_n 1, 1) := by decide +kernel
theorem dX11_trim_17 : decode cX11_trim 17 = .ok (.putfield 99, 3) := by decide +kernel
theorem dX11_trim_20 : decode cX11_trim 20 = .ok (.iload_n 1, 1) := by decide +kernel
theorem dX11_trim_21 : decode cX11_trim 21 = .ok (.ireturn, 1) := by decide +kernel
theorem dX11_wrong_0 : decode cX11_wrong 0 = .ok (.aload_n 0, 1) := by decide +kernel
theorem dX11_wrong_1 : decode cX11_wrong 1 = .ok (.getfield 103, 3) := by decide +kernel
theorem dX11_wrong_4 : decode cX11_wrong 4 = .ok (.ifCond .ne 11, 3) := by decide +kernel
theorem dX11_wrong_7 : decode cX11_wrong 7 = .ok (.aload_n 0, 1) := by decide +kernel
theorem dX11_wrong_8 : decode cX11_wrong 8 = .ok (.aload_n 0, 1) := by decide +kernel
theorem dX11_wrong_9 : decode cX11_wrong 9 = .ok (.getfield 107, 3) := by decide +kernel
theorem dX11_wrong_12 : decode cX11_wrong 12 = .ok (.putfield 110, 3) := by decide +kernel
theorem dX11_wrong_15 : decode cX11_wrong 15 = .ok (.aload_n 0, 1) := by decide +kernel
theorem dX11_wrong_16 : decode cX11_wrong 16 = .ok (.iconst 1, 1) := by decide +kernel
theorem dX11_wrong_17 : decode cX11_wrong 17 = .ok (.putfield 103, 3) := by decide +kernel
theorem dX11_wrong_20 : decode cX11_wrong 20 = .ok (.return_, 1) := by decide +kernel
theorem dX11_sortOf_0 : decode cX11_sortOf 0 = .ok (.iload_n 0, 1) := by decide +kernel
theorem dX11_sortOf_1 : decode cX11_sortOf 1 = .ok (.bipush 97, 2) := by decide +kernel
theorem dX11_sortOf_3 : decode cX11_sortOf 3 = .ok (.bipush 122, 2) := by decide +kernel
theorem dX11_sortOf_5 : decode cX11_sortOf 5 = .ok (.invokestatic 56, 3) := by decide +kernel
theorem dX11_sortOf_8 : decode cX11_sortOf 8 = .ok (.ifCond .eq 7, 3) := by decide +kernel
theorem dX11_sortOf_11 : decode cX11_sortOf 11 = .ok (.iconst 1, 1) := by decide +kernel
theorem dX11_sortOf_12 : decode cX11_sortOf 12 = .ok (.goto 19, 3) := by decide +kernel
theorem dX11_sortOf_15 : decode cX11_sortOf 15 = .ok (.iload_n 0, 1) := by decide +kernel
theorem dX11_sortOf_16 : decode cX11_sortOf 16 = .ok (.bipush 48, 2) := by decide +kernel
theorem dX11_sortOf_18 : decode cX11_sortOf 18 = .ok (.bipush 57, 2) := by decide +kernel
theorem dX11_sortOf_20 : decode cX11_sortOf 20 = .ok (.invokestatic 56, 3) := by decide +kernel
theorem dX11_sortOf_23 : decode cX11_sortOf 23 = .ok (.ifCond .eq 7, 3) := by decide +kernel
theorem dX11_sortOf_26 : decode cX11_sortOf 26 = .ok (.iconst 2, 1) := by decide +kernel
theorem dX11_sortOf_27 : decode cX11_sortOf 27 = .ok (.goto 4, 3) := by decide +kernel
theorem dX11_sortOf_30 : decode cX11_sortOf 30 = .ok (.iconst 3, 1) := by decide +kernel
theorem dX11_sortOf_31 : decode cX11_sortOf 31 = .ok (.ireturn, 1) := by decide +kernel
theorem dX11_next_0 : decode cX11_next 0 = .ok (.aload_n 0, 1) := by decide +kernel
theorem dX11_next_1 : decode cX11_next 1 = .ok (.getfield 103, 3) := by decide +kernel
theorem dX11_next_4 : decode cX11_next 4 = .ok (.ifCond .eq 4, 3) := by decide +kernel
theorem dX11_next_7 : decode cX11_next 7 = .ok (.return_, 1) := by decide +kernel
theorem dX11_next_8 : decode cX11_next 8 = .ok (.aload_n 0, 1) := by decide +kernel
theorem dX11_next_9 : decode cX11_next 9 = .ok (.getfield 113, 3) := by decide +kernel
theorem dX11_next_12 : decode cX11_next 12 = .ok (.istore_n 1, 1) := by decide +kernel
theorem dX11_next_13 : decode cX11_next 13 = .ok (.aload_n 0, 1) := by decide +kernel
theorem dX11_next_14 : decode cX11_next 14 = .ok (.aload_n 0, 1) := by decide +kernel
theorem dX11_next_15 : decode cX11_next 15 = .ok (.getfield 113, 3) := by decide +kernel
theorem dX11_next_18 : decode cX11_next 18 = .ok (.putfield 107, 3) := by decide +kernel
theorem dX11_next_21 : decode cX11_next 21 = .ok (.aload_n 0, 1) := by decide +kernel
theorem dX11_next_22 : decode cX11_next 22 = .ok (.getfield 107, 3) := by decide +kernel
theorem dX11_next_25 : decode cX11_next 25 = .ok (.aload_n 0, 1) := by decide +kernel
theorem dX11_next_26 : decode cX11_next 26 = .ok (.getfield 116, 3) := by decide +kernel
theorem dX11_next_29 : decode cX11_next 29 = .ok (.if_icmp .ge 30, 3) := by decide +kernel
theorem dX11_next_32 : decode cX11_next 32 = .ok (.aload_n 0, 1) := by decide +kernel
theorem dX11_next_33 : decode cX11_next 33 = .ok (.getfield 16, 3) := by decide +kernel
theorem dX11_next_36 : decode cX11_next 36 = .ok (.aload_n 0, 1) := by decide +kernel
theorem dX11_next_37 : decode cX11_next 37 = .ok (.getfield 107, 3) := by decide +kernel
theorem dX11_next_40 : decode cX11_next 40 = .ok (.iaload, 1) := by decide +kernel
theorem dX11_next_41 : decode cX11_next 41 = .ok (.bipush 32, 2) := by decide +kernel
theorem dX11_next_43 : decode cX11_next 43 = .ok (.if_icmp .ne 16, 3) := by decide +kernel
theorem dX11_next_46 : decode cX11_next 46 = .ok (.aload_n 0, 1) := by decide +kernel
theorem dX11_next_47 : decode cX11_next 47 = .ok (.dup, 1) := by decide +kernel
theorem dX11_next_48 : decode cX11_next 48 = .ok (.getfield 107, 3) := by decide +kernel
theorem dX11_next_51 : decode cX11_next 51 = .ok (.iconst 1, 1) := by decide +kernel
theorem dX11_next_52 : decode cX11_next 52 = .ok (.iadd, 1) := by decide +kernel
theorem dX11_next_53 : decode cX11_next 53 = .ok (.putfield 107, 3) := by decide +kernel
theorem dX11_next_56 : decode cX11_next 56 = .ok (.goto (-35), 3) := by decide +kernel
theorem dX11_next_59 : decode cX11_next 59 = .ok (.aload_n 0, 1) := by decide +kernel
theorem dX11_next_60 : decode cX11_next 60 = .ok (.aload_n 0, 1) := by decide +kernel
theorem dX11_next_61 : decode cX11_next 61 = .ok (.getfield 107, 3) := by decide +kernel
theorem dX11_next_64 : decode cX11_next 64 = .ok (.putfield 113, 3) := by decide +kernel
theorem dX11_next_67 : decode cX11_next 67 = .ok (.aload_n 0, 1) := by decide +kernel
theorem dX11_next_68 : decode cX11_next 68 = .ok (.getfield 107, 3) := by decide +kernel
theorem dX11_next_71 : decode cX11_next 71 = .ok (.iload_n 1, 1) := by decide +kernel
theorem dX11_next_72 : decode cX11_next 72 = .ok (.if_icmp .ne 22, 3) := by decide +kernel
theorem dX11_next_75 : decode cX11_next 75 = .ok (.aload_n 0, 1) := by decide +kernel
theorem dX11_next_76 : decode cX11_next 76 = .ok (.getfield 119, 3) := by decide +kernel
theorem dX11_next_79 : decode cX11_next 79 = .ok (.ifCond .eq 15, 3) := by decide +kernel
theorem dX11_next_82 : decode cX11_next 82 = .ok (.aload_n 0, 1) := by decide +kernel
theorem dX11_next_83 : decode cX11_next 83 = .ok (.getfield 119, 3) := by decide +kernel
theorem dX11_next_86 : decode cX11_next 86 = .ok (.iconst 3, 1) := by decide +kernel
theorem dX11_next_87 : decode cX11_next 87 = .ok (.if_icmp .eq 7, 3) := by decide +kernel
theorem dX11_next_90 : decode cX11_next 90 = .ok (.iconst 1, 1) := by decide +kernel
theorem dX11_next_91 : decode cX11_next 91 = .ok (.goto 4, 3) := by decide +kernel
theorem dX11_next_94 : decode cX11_next 94 = .ok (.iconst 0, 1) := by decide +kernel
theorem dX11_next_95 : decode cX11_next 95 = .ok (.istore_n 2, 1) := by decide +kernel
theorem dX11_next_96 : decode cX11_next 96 = .ok (.aload_n 0, 1) := by decide +kernel
theorem dX11_next_97 : decode cX11_next 97 = .ok (.aload_n 0, 1) := by decide +kernel
theorem dX11_next_98 : decode cX11_next 98 = .ok (.getfield 107, 3) := by decide +kernel
theorem dX11_next_101 : decode cX11_next 101 = .ok (.aload_n 0, 1) := by decide +kernel
theorem dX11_next_102 : decode cX11_next 102 = .ok (.getfield 116, 3) := by decide +kernel
theorem dX11_next_105 : decode cX11_next 105 = .ok (.if_icmp .ne 7, 3) := by decide +kernel
theorem dX11_next_108 : decode cX11_next 108 = .ok (.iconst 0, 1) := by decide +kernel
theorem dX11_next_109 : decode cX11_next 109 = .ok (.goto 15, 3) := by decide +kernel
theorem dX11_next_112 : decode cX11_next 112 = .ok (.aload_n 0, 1) := by decide +kernel
theorem dX11_next_113 : decode cX11_next 113 = .ok (.getfield 16, 3) := by decide +kernel
theorem dX11_next_116 : decode cX11_next 116 = .ok (.aload_n 0, 1) := by decide +kernel
theorem dX11_next_117 : decode cX11_next 117 = .ok (.getfield 107, 3) := by decide +kernel
theorem dX11_next_120 : decode cX11_next 120 = .ok (.iaload, 1) := by decide +kernel
theorem dX11_next_121 : decode cX11_next 121 = .ok (.invokestatic 122, 3) := by decide +kernel
theorem dX11_next_124 : decode cX11_next 124 = .ok (.putfield 119, 3) := by decide +kernel
theorem dX11_next_127 : decode cX11_next 127 = .ok (.aload_n 0, 1) := by decide +kernel
theorem dX11_next_128 : decode cX11_next 128 = .ok (.getfield 119, 3) := by decide +kernel
theorem dX11_next_131 : decode cX11_next 131 = .ok (.ifCond .eq 13, 3) := by decide +kernel
theorem dX11_next_134 : decode cX11_next 134 = .ok (.aload_n 0, 1) := by decide +kernel
theorem dX11_next_135 : decode cX11_next 135 = .ok (.dup, 1) := by decide +kernel
theorem dX11_next_136 : decode cX11_next 136 = .ok (.getfield 113, 3) := by decide +kernel
theorem dX11_next_139 : decode cX11_next 139 = .ok (.iconst 1, 1) := by decide +kernel
theorem dX11_next_140 : decode cX11_next 140 = .ok (.iadd, 1) := by decide +kernel
theorem dX11_next_141 : decode cX11_next 141 = .ok (.putfield 113, 3) := by decide +kernel
theorem dX11_next_144 : decode cX11_next 144 = .ok (.aload_n 0, 1) := by decide +kernel
theorem dX11_next_145 : decode cX11_next 145 = .ok (.getfield 119, 3) := by decide +kernel
theorem dX11_next_148 : decode cX11_next 148 = .ok (.iconst 3, 1) := by decide +kernel
theorem dX11_next_149 : decode cX11_next 149 = .ok (.if_icmp .eq 53, 3) := by decide +kernel
theorem dX11_next_152 : decode cX11_next 152 = .ok (.aload_n 0, 1) := by decide +kernel
theorem dX11_next_153 : decode cX11_next 153 = .ok (.getfield 113, 3) := by decide +kernel
theorem dX11_next_156 : decode cX11_next 156 = .ok (.aload_n 0, 1) := by decide +kernel
theorem dX11_next_157 : decode cX11_next 157 = .ok (.getfield 116, 3) := by decide +kernel
theorem dX11_next_160 : decode cX11_next 160 = .ok (.if_icmp .ge 42, 3) := by decide +kernel
theorem dX11_next_163 : decode cX11_next 163 = .ok (.aload_n 0, 1) := by decide +kernel
theorem dX11_next_164 : decode cX11_next 164 = .ok (.getfield 119, 3) := by decide +kernel
theorem dX11_next_167 : decode cX11_next 167 = .ok (.ifCond .eq 35, 3) := by decide +kernel
theorem dX11_next_170 : decode cX11_next 170 = .ok (.aload_n 0, 1) := by decide +kernel
theorem dX11_next_171 : decode cX11_next 171 = .ok (.getfield 16, 3) := by decide +kernel
theorem dX11_next_174 : decode cX11_next 174 = .ok (.aload_n 0, 1) := by decide +kernel
theorem dX11_next_175 : decode cX11_next 175 = .ok (.getfield 113, 3) := by decide +kernel
theorem dX11_next_178 : decode cX11_next 178 = .ok (.iaload, 1) := by decide +kernel
theorem dX11_next_179 : decode cX11_next 179 = .ok (.invokestatic 122, 3) := by decide +kernel
theorem dX11_next_182 : decode cX11_next 182 = .ok (.aload_n 0, 1) := by decide +kernel
theorem dX11_next_183 : decode cX11_next 183 = .ok (.getfield 119, 3) := by decide +kernel
theorem dX11_next_186 : decode cX11_next 186 = .ok (.if_icmp .ne 16, 3) := by decide +kernel
theorem dX11_next_189 : decode cX11_next 189 = .ok (.aload_n 0, 1) := by decide +kernel
theorem dX11_next_190 : decode cX11_next 190 = .ok (.dup, 1) := by decide +kernel
theorem dX11_next_191 : decode cX11_next 191 = .ok (.getfield 113, 3) := by decide +kernel
theorem dX11_next_194 : decode cX11_next 194 = .ok (.iconst 1, 1) := by decide +kernel
theorem dX11_next_195 : decode cX11_next 195 = .ok (.iadd, 1) := by decide +kernel
theorem dX11_next_196 : decode cX11_next 196 = .ok (.putfield 113, 3) := by decide +kernel
theorem dX11_next_199 : decode cX11_next 199 = .ok (.goto (-55), 3) := by decide +kernel
theorem dX11_next_202 : decode cX11_next 202 = .ok (.iload_n 2, 1) := by decide +kernel
theorem dX11_next_203 : decode cX11_next 203 = .ok (.ifCond .eq 23, 3) := by decide +kernel
theorem dX11_next_206 : decode cX11_next 206 = .ok (.aload_n 0, 1) := by decide +kernel
theorem dX11_next_207 : decode cX11_next 207 = .ok (.getfield 119, 3) := by decide +kernel
theorem dX11_next_210 : decode cX11_next 210 = .ok (.iconst 1, 1) := by decide +kernel
theorem dX11_next_211 : decode cX11_next 211 = .ok (.if_icmp .eq 11, 3) := by decide +kernel
theorem dX11_next_214 : decode cX11_next 214 = .ok (.aload_n 0, 1) := by decide +kernel
theorem dX11_next_215 : decode cX11_next 215 = .ok (.getfield 119, 3) := by decide +kernel
theorem dX11_next_218 : decode cX11_next 218 = .ok (.iconst 2, 1) := by decide +kernel
theorem dX11_next_219 : decode cX11_next 219 = .ok (.if_icmp .ne 7, 3) := by decide +kernel
theorem dX11_next_222 : decode cX11_next 222 = .ok (.aload_n 0, 1) := by decide +kernel
theorem dX11_next_223 : decode cX11_next 223 = .ok (.invokevirtual 125, 3) := by decide +kernel
theorem dX11_next_226 : decode cX11_next 226 = .ok (.return_, 1) := by decide +kernel
theorem dX11_isSign_0 : decode cX11_isSign 0 = .ok (.aload_n 0, 1) := by decide +kernel
theorem dX11_isSign_1 : decode cX11_isSign 1 = .ok (.getfield 119, 3) := by decide +kernel
theorem dX11_isSign_4 : decode cX11_isSign 4 = .ok (.iconst 3, 1) := by decide +kernel
theorem dX11_isSign_5 : decode cX11_isSign 5 = .ok (.if_icmp .ne 20, 3) := by decide +kernel
theorem dX11_isSign_8 : decode cX11_isSign 8 = .ok (.aload_n 0, 1) := by decide +kernel
theorem dX11_isSign_9 : decode cX11_isSign 9 = .ok (.getfield 16, 3) := by decide +kernel
theorem dX11_isSign_12 : decode cX11_isSign 12 = .ok (.aload_n 0, 1) := by decide +kernel
theorem dX11_isSign_13 : decode cX11_isSign 13 = .ok (.getfield 107, 3) := by decide +kernel
theorem dX11_isSign_16 : decode cX11_isSign 16 = .ok (.iaload, 1) := by decide +kernel
theorem dX11_isSign_17 : decode cX11_isSign 17 = .ok (.iload_n 1, 1) := by decide +kernel
theorem dX11_isSign_18 : decode cX11_isSign 18 = .ok (.if_icmp .ne 7, 3) := by decide +kernel
theorem dX11_isSign_21 : decode cX11_isSign 21 = .ok (.iconst 1, 1) := by decide +kernel
theorem dX11_isSign_22 : decode cX11_isSign 22 = .ok (.goto 4, 3) := by decide +kernel
theorem dX11_isSign_25 : decode cX11_isSign 25 = .ok (.iconst 0, 1) := by decide +kernel
theorem dX11_isSign_26 : decode cX11_isSign 26 = .ok (.ireturn, 1) := by decide +kernel
theorem dX11_isLetter_0 : decode cX11_isLetter 0 = .ok (.iload_n 2, 1) := by decide +kernel
theorem dX11_isLetter_1 : decode cX11_isLetter 1 = .ok (.ifCond .ne 19, 3) := by decide +kernel
theorem dX11_isLetter_4 : decode cX11_isLetter 4 = .ok (.iload_n 1, 1) := by decide +kernel
theorem dX11_isLetter_5 : decode cX11_isLetter 5 = .ok (.aload_n 0, 1) := by decide +kernel
theorem dX11_isLetter_6 : decode cX11_isLetter 6 = .ok (.getfield 113, 3) := by decide +kernel
theorem dX11_isLetter_9 : decode cX11_isLetter 9 = .ok (.if_icmp .ne 7, 3) := by decide +kernel
theorem dX11_isLetter_12 : decode cX11_isLetter 12 = .ok (.iconst 1, 1) := by decide +kernel
theorem dX11_isLetter_13 : decode cX11_isLetter 13 = .ok (.goto 30, 3) := by decide +kernel
theorem dX11_isLetter_16 : decode cX11_isLetter 16 = .ok (.iconst 0, 1) := by decide +kernel
theorem dX11_isLetter_17 : decode cX11_isLetter 17 = .ok (.goto 26, 3) := by decide +kernel
theorem dX11_isLetter_20 : decode cX11_isLetter 20 = .ok (.iload_n 1, 1) := by decide +kernel
theorem dX11_isLetter_21 : decode cX11_isLetter 21 = .ok (.aload_n 0, 1) := by decide +kernel
theorem dX11_isLetter_22 : decode cX11_isLetter 22 = .ok (.getfield 113, 3) := by decide +kernel
theorem dX11_isLetter_25 : decode cX11_isLetter 25 = .ok (.if_icmp .ge 17, 3) := by decide +kernel
theorem dX11_isLetter_28 : decode cX11_isLetter 28 = .ok (.aload_n 0, 1) := by decide +kernel
theorem dX11_isLetter_29 : decode cX11_isLetter 29 = .ok (.getfield 16, 3) := by decide +kernel
theorem dX11_isLetter_32 : decode cX11_isLetter 32 = .ok (.iload_n 1, 1) := by decide +kernel
theorem dX11_isLetter_33 : decode cX11_isLetter 33 = .ok (.iaload, 1) := by decide +kernel
theorem dX11_isLetter_34 : decode cX11_isLetter 34 = .ok (.iload_n 2, 1) := by decide +kernel
theorem dX11_isLetter_35 : decode cX11_isLetter 35 = .ok (.if_icmp .ne 7, 3) := by decide +kernel
theorem dX11_isLetter_38 : decode cX11_isLetter 38 = .ok (.iconst 1, 1) := by decide +kernel
theorem dX11_isLetter_39 : decode cX11_isLetter 39 = .ok (.goto 4, 3) := by decide +kernel
theorem dX11_isLetter_42 : decode cX11_isLetter 42 = .ok (.iconst 0, 1) := by decide +kernel
theorem dX11_isLetter_43 : decode cX11_isLetter 43 = .ok (.ireturn, 1) := by decide +kernel
theorem dX11_isWord_0 : decode cX11_isWord 0 = .ok (.aload_n 0, 1) := by decide +kernel
theorem dX11_isWord_1 : decode cX11_isWord 1 = .ok (.getfield 119, 3) := by decide +kernel
theorem dX11_isWord_4 : decode cX11_isWord 4 = .ok (.iconst 1, 1) := by decide +kernel
theorem dX11_isWord_5 : decode cX11_isWord 5 = .ok (.if_icmp .ne 47, 3) := by decide +kernel
theorem dX11_isWord_8 : decode cX11_isWord 8 = .ok (.aload_n 0, 1) := by decide +kernel
theorem dX11_isWord_9 : decode cX11_isWord 9 = .ok (.aload_n 0, 1) := by decide +kernel
theorem dX11_isWord_10 : decode cX11_isWord 10 = .ok (.getfield 107, 3) := by decide +kernel
theorem dX11_isWord_13 : decode cX11_isWord 13 = .ok (.iload_n 1, 1) := by decide +kernel
theorem dX11_isWord_14 : decode cX11_isWord 14 = .ok (.invokevirtual 128, 3) := by decide +kernel
theorem dX11_isWord_17 : decode cX11_isWord 17 = .ok (.ifCond .eq 35, 3) := by decide +kernel
theorem dX11_isWord_20 : decode cX11_isWord 20 = .ok (.aload_n 0, 1) := by decide +kernel
theorem dX11_isWord_21 : decode cX11_isWord 21 = .ok (.aload_n 0, 1) := by decide +kernel
theorem dX11_isWord_22 : decode cX11_isWord 22 = .ok (.getfield 107, 3) := by decide +kernel
theorem dX11_isWord_25 : decode cX11_isWord 25 = .ok (.iconst 1, 1) := by decide +kernel
theorem dX11_isWord_26 : decode cX11_isWord 26 = .ok (.iadd, 1) := by decide +kernel
theorem dX11_isWord_27 : decode cX11_isWord 27 = .ok (.iload_n 2, 1) := by decide +kernel
theorem dX11_isWord_28 : decode cX11_isWord 28 = .ok (.invokevirtual 128, 3) := by decide +kernel
theorem dX11_isWord_31 : decode cX11_isWord 31 = .ok (.ifCond .eq 21, 3) := by decide +kernel
theorem dX11_isWord_34 : decode cX11_isWord 34 = .ok (.aload_n 0, 1) := by decide +kernel
theorem dX11_isWord_35 : decode cX11_isWord 35 = .ok (.aload_n 0, 1) := by decide +kernel
theorem dX11_isWord_36 : decode cX11_isWord 36 = .ok (.getfield 107, 3) := by decide +kernel
theorem dX11_isWord_39 : decode cX11_isWord 39 = .ok (.iconst 2, 1) := by decide +kernel
theorem dX11_isWord_40 : decode cX11_isWord 40 = .ok (.iadd, 1) := by decide +kernel
theorem dX11_isWord_41 : decode cX11_isWord 41 = .ok (.iload_n 3, 1) := by decide +kernel
theorem dX11_isWord_42 : decode cX11_isWord 42 = .ok (.invokevirtual 128, 3) := by decide +kernel
theorem dX11_isWord_45 : decode cX11_isWord 45 = .ok (.ifCond .eq 7, 3) := by decide +kernel
theorem dX11_isWord_48 : decode cX11_isWord 48 = .ok (.iconst 1, 1) := by decide +kernel
theorem dX11_isWord_49 : decode cX11_isWord 49 = .ok (.goto 4, 3) := by decide +kernel
theorem dX11_isWord_52 : decode cX11_isWord 52 = .ok (.iconst 0, 1) := by decide +kernel
theorem dX11_isWord_53 : decode cX11_isWord 53 = .ok (.istore 6, 2) := by decide +kernel
theorem dX11_isWord_55 : decode cX11_isWord 55 = .ok (.iload 6, 2) := by decide +kernel
theorem dX11_isWord_57 : decode cX11_isWord 57 = .ok (.ifCond .eq 26, 3) := by decide +kernel
theorem dX11_isWord_60 : decode cX11_isWord 60 = .ok (.iload_n 3, 1) := by decide +kernel
theorem dX11_isWord_61 : decode cX11_isWord 61 = .ok (.ifCond .eq 18, 3) := by decide +kernel
theorem dX11_isWord_64 : decode cX11_isWord 64 = .ok (.aload_n 0, 1) := by decide +kernel
theorem dX11_isWord_65 : decode cX11_isWord 65 = .ok (.aload_n 0, 1) := by decide +kernel
theorem dX11_isWord_66 : decode cX11_isWord 66 = .ok (.getfield 107, 3) := by decide +kernel
theorem dX11_isWord_69 : decode cX11_isWord 69 = .ok (.iconst 3, 1) := by decide +kernel
theorem dX11_isWord_70 : decode cX11_isWord 70 = .ok (.iadd, 1) := by decide +kernel
theorem dX11_isWord_71 : decode cX11_isWord 71 = .ok (.iload 4, 2) := by decide +kernel
theorem dX11_isWord_73 : decode cX11_isWord 73 = .ok (.invokevirtual 128, 3) := by decide +kernel
theorem dX11_isWord_76 : decode cX11_isWord 76 = .ok (.ifCond .eq 7, 3) := by decide +kernel
theorem dX11_isWord_79 : decode cX11_isWord 79 = .ok (.iconst 1, 1) := by decide +kernel
theorem dX11_isWord_80 : decode cX11_isWord 80 = .ok (.goto 4, 3) := by decide +kernel
theorem dX11_isWord_83 : decode cX11_isWord 83 = .ok (.iconst 0, 1) := by decide +kernel
theorem dX11_isWord_84 : decode cX11_isWord 84 = .ok (.istore 6, 2) := by decide +kernel
theorem dX11_isWord_86 : decode cX11_isWord 86 = .ok (.iload 6, 2) := by decide +kernel
theorem dX11_isWord_88 : decode cX11_isWord 88 = .ok (.ifCond .eq 45, 3) := by decide +kernel
theorem dX11_isWord_91 : decode cX11_isWord 91 = .ok (.iload 4, 2) := by decide +kernel
theorem dX11_isWord_93 : decode cX11_isWord 93 = .ok (.ifCond .eq 18, 3) := by decide +kernel
theorem dX11_isWord_96 : decode cX11_isWord 96 = .ok (.aload_n 0, 1) := by decide +kernel
theorem dX11_isWord_97 : decode cX11_isWord 97 = .ok (.aload_n 0, 1) := by decide +kernel
theorem dX11_isWord_98 : decode cX11_isWord 98 = .ok (.getfield 107, 3) := by decide +kernel
theorem dX11_isWord_101 : decode cX11_isWord 101 = .ok (.iconst 4, 1) := by decide +kernel
theorem dX11_isWord_102 : decode cX11_isWord 102 = .ok (.iadd, 1) := by decide +kernel
theorem dX11_isWord_103 : decode cX11_isWord 103 = .ok (.iload 5, 2) := by decide +kernel
theorem dX11_isWord_105 : decode cX11_isWord 105 = .ok (.invokevirtual 128, 3) := by decide +kernel
theorem dX11_isWord_108 : decode cX11_isWord 108 = .ok (.ifCond .eq 25, 3) := by decide +kernel
theorem dX11_isWord_111 : decode cX11_isWord 111 = .ok (.iload 5, 2) := by decide +kernel
theorem dX11_isWord_113 : decode cX11_isWord 113 = .ok (.ifCond .eq 16, 3) := by decide +kernel
theorem dX11_isWord_116 : decode cX11_isWord 116 = .ok (.aload_n 0, 1) := by decide +kernel
theorem dX11_isWord_117 : decode cX11_isWord 117 = .ok (.getfield 113, 3) := by decide +kernel
theorem dX11_isWord_120 : decode cX11_isWord 120 = .ok (.aload_n 0, 1) := by decide +kernel
theorem dX11_isWord_121 : decode cX11_isWord 121 = .ok (.getfield 107, 3) := by decide +kernel
theorem dX11_isWord_124 : decode cX11_isWord 124 = .ok (.iconst 5, 1) := by decide +kernel
theorem dX11_isWord_125 : decode cX11_isWord 125 = .ok (.iadd, 1) := by decide +kernel
theorem dX11_isWord_126 : decode cX11_isWord 126 = .ok (.if_icmp .ne 7, 3) := by decide +kernel
theorem dX11_isWord_129 : decode cX11_isWord 129 = .ok (.iconst 1, 1) := by decide +kernel
theorem dX11_isWord_130 : decode cX11_isWord 130 = .ok (.goto 4, 3) := by decide +kernel
theorem dX11_isWord_133 : decode cX11_isWord 133 = .ok (.iconst 0, 1) := by decide +kernel
theorem dX11_isWord_134 : decode cX11_isWord 134 = .ok (.ireturn, 1) := by decide +kernel
theorem dX11_emit_0 : decode cX11_emit 0 = .ok (.sipush 241, 3) := by decide +kernel
theorem dX11_emit_3 : decode cX11_emit 3 = .ok (.aload_n 0, 1) := by decide +kernel
theorem dX11_emit_4 : decode cX11_emit 4 = .ok (.getfield 132, 3) := by decide +kernel
theorem dX11_emit_7 : decode cX11_emit 7 = .ok (.imul, 1) := by decide +kernel
theorem dX11_emit_8 : decode cX11_emit 8 = .ok (.iconst 1, 1) := by decide +kernel
theorem dX11_emit_9 : decode cX11_emit 9 = .ok (.iadd, 1) := by decide +kernel
theorem dX11_emit_10 : decode cX11_emit 10 = .ok (.iconst 2, 1) := by decide +kernel
theorem dX11_emit_11 : decode cX11_emit 11 = .ok (.aload_n 0, 1) := by decide +kernel
theorem dX11_emit_12 : decode cX11_emit 12 = .ok (.getfield 135, 3) := by decide +kernel
theorem dX11_emit_15 : decode cX11_emit 15 = .ok (.imul, 1) := by decide +kernel
theorem dX11_emit_16 : decode cX11_emit 16 = .ok (.iadd, 1) := by decide +kernel
theorem dX11_emit_17 : decode cX11_emit 17 = .ok (.istore_n 3, 1) := by decide +kernel
theorem dX11_emit_18 : decode cX11_emit 18 = .ok (.aload_n 0, 1) := by decide +kernel
theorem dX11_emit_19 : decode cX11_emit 19 = .ok (.getfield 19, 3) := by decide +kernel
theorem dX11_emit_22 : decode cX11_emit 22 = .ok (.iload_n 3, 1) := by decide +kernel
theorem dX11_emit_23 : decode cX11_emit 23 = .ok (.iload_n 1, 1) := by decide +kernel
theorem dX11_emit_24 : decode cX11_emit 24 = .ok (.iastore, 1) := by decide +kernel
theorem dX11_emit_25 : decode cX11_emit 25 = .ok (.aload_n 0, 1) := by decide +kernel
theorem dX11_emit_26 : decode cX11_emit 26 = .ok (.getfield 19, 3) := by decide +kernel
theorem dX11_emit_29 : decode cX11_emit 29 = .ok (.iload_n 3, 1) := by decide +kernel
theorem dX11_emit_30 : decode cX11_emit 30 = .ok (.iconst 1, 1) := by decide +kernel
theorem dX11_emit_31 : decode cX11_emit 31 = .ok (.iadd, 1) := by decide +kernel
theorem dX11_emit_32 : decode cX11_emit 32 = .ok (.iload_n 2, 1) := by decide +kernel
theorem dX11_emit_33 : decode cX11_emit 33 = .ok (.iastore, 1) := by decide +kernel
theorem dX11_emit_34 : decode cX11_emit 34 = .ok (.aload_n 0, 1) := by decide +kernel
theorem dX11_emit_35 : decode cX11_emit 35 = .ok (.dup, 1) := by decide +kernel
theorem dX11_emit_36 : decode cX11_emit 36 = .ok (.getfield 135, 3) := by decide +kernel
theorem dX11_emit_39 : decode cX11_emit 39 = .ok (.iconst 1, 1) := by decide +kernel
theorem dX11_emit_40 : decode cX11_emit 40 = .ok (.iadd, 1) := by decide +kernel
theorem dX11_emit_41 : decode cX11_emit 41 = .ok (.putfield 135, 3) := by decide +kernel
theorem dX11_emit_44 : decode cX11_emit 44 = .ok (.return_, 1) := by decide +kernel
theorem dX11_works_0 : decode cX11_works 0 = .ok (.aload_n 0, 1) := by decide +kernel
theorem dX11_works_1 : decode cX11_works 1 = .ok (.getfield 138, 3) := by decide +kernel
theorem dX11_works_4 : decode cX11_works 4 = .ok (.ifCond .le 64, 3) := by decide +kernel
theorem dX11_works_7 : decode cX11_works 7 = .ok (.aload_n 0, 1) := by decide +kernel
theorem dX11_works_8 : decode cX11_works 8 = .ok (.getfield 22, 3) := by decide +kernel
theorem dX11_works_11 : decode cX11_works 11 = .ok (.aload_n 0, 1) := by decide +kernel
theorem dX11_works_12 : decode cX11_works 12 = .ok (.getfield 138, 3) := by decide +kernel
theorem dX11_works_15 : decode cX11_works 15 = .ok (.iconst 1, 1) := by decide +kernel
theorem dX11_works_16 : decode cX11_works 16 = .ok (.isub, 1) := by decide +kernel
theorem dX11_works_17 : decode cX11_works 17 = .ok (.iaload, 1) := by decide +kernel
theorem dX11_works_18 : decode cX11_works 18 = .ok (.bipush 10, 2) := by decide +kernel
theorem dX11_works_20 : decode cX11_works 20 = .ok (.if_icmp .lt 48, 3) := by decide +kernel
theorem dX11_works_23 : decode cX11_works 23 = .ok (.aload_n 0, 1) := by decide +kernel
theorem dX11_works_24 : decode cX11_works 24 = .ok (.getfield 22, 3) := by decide +kernel
theorem dX11_works_27 : decode cX11_works 27 = .ok (.aload_n 0, 1) := by decide +kernel
theorem dX11_works_28 : decode cX11_works 28 = .ok (.getfield 138, 3) := by decide +kernel
theorem dX11_works_31 : decode cX11_works 31 = .ok (.iconst 1, 1) := by decide +kernel
theorem dX11_works_32 : decode cX11_works 32 = .ok (.isub, 1) := by decide +kernel
theorem dX11_works_33 : decode cX11_works 33 = .ok (.iaload, 1) := by decide +kernel
theorem dX11_works_34 : decode cX11_works 34 = .ok (.bipush 10, 2) := by decide +kernel
theorem dX11_works_36 : decode cX11_works 36 = .ok (.idiv, 1) := by decide +kernel
theorem dX11_works_37 : decode cX11_works 37 = .ok (.iload_n 1, 1) := by decide +kernel
theorem dX11_works_38 : decode cX11_works 38 = .ok (.if_icmp .lt 30, 3) := by decide +kernel
theorem dX11_works_41 : decode cX11_works 41 = .ok (.aload_n 0, 1) := by decide +kernel
theorem dX11_works_42 : decode cX11_works 42 = .ok (.dup, 1) := by decide +kernel
theorem dX11_works_43 : decode cX11_works 43 = .ok (.getfield 138, 3) := by decide +kernel
theorem dX11_works_46 : decode cX11_works 46 = .ok (.iconst 1, 1) := by decide +kernel
theorem dX11_works_47 : decode cX11_works 47 = .ok (.isub, 1) := by decide +kernel
theorem dX11_works_48 : decode cX11_works 48 = .ok (.putfield 138, 3) := by decide +kernel
theorem dX11_works_51 : decode cX11_works 51 = .ok (.aload_n 0, 1) := by decide +kernel
theorem dX11_works_52 : decode cX11_works 52 = .ok (.aload_n 0, 1) := by decide +kernel
theorem dX11_works_53 : decode cX11_works 53 = .ok (.getfield 22, 3) := by decide +kernel
theorem dX11_works_56 : decode cX11_works 56 = .ok (.aload_n 0, 1) := by decide +kernel
theorem dX11_works_57 : decode cX11_works 57 = .ok (.getfield 138, 3) := by decide +kernel
theorem dX11_works_60 : decode cX11_works 60 = .ok (.iaload, 1) := by decide +kernel
theorem dX11_works_61 : decode cX11_works 61 = .ok (.iconst 0, 1) := by decide +kernel
theorem dX11_works_62 : decode cX11_works 62 = .ok (.invokevirtual 141, 3) := by decide +kernel
theorem dX11_works_65 : decode cX11_works 65 = .ok (.goto (-65), 3) := by decide +kernel
theorem dX11_works_68 : decode cX11_works 68 = .ok (.return_, 1) := by decide +kernel
theorem dX11_parted_0 : decode cX11_parted 0 = .ok (.aload_n 0, 1) := by decide +kernel
theorem dX11_parted_1 : decode cX11_parted 1 = .ok (.getfield 138, 3) := by decide +kernel
theorem dX11_parted_4 : decode cX11_parted 4 = .ok (.ifCond .le 47, 3) := by decide +kernel
theorem dX11_parted_7 : decode cX11_parted 7 = .ok (.aload_n 0, 1) := by decide +kernel
theorem dX11_parted_8 : decode cX11_parted 8 = .ok (.getfield 22, 3) := by decide +kernel
theorem dX11_parted_11 : decode cX11_parted 11 = .ok (.aload_n 0, 1) := by decide +kernel
theorem dX11_parted_12 : decode cX11_parted 12 = .ok (.getfield 138, 3) := by decide +kernel
theorem dX11_parted_15 : decode cX11_parted 15 = .ok (.iconst 1, 1) := by decide +kernel
theorem dX11_parted_16 : decode cX11_parted 16 = .ok (.isub, 1) := by decide +kernel
theorem dX11_parted_17 : decode cX11_parted 17 = .ok (.iaload, 1) := by decide +kernel
theorem dX11_parted_18 : decode cX11_parted 18 = .ok (.iconst 3, 1) := by decide +kernel
theorem dX11_parted_19 : decode cX11_parted 19 = .ok (.if_icmp .ne 32, 3) := by decide +kernel
theorem dX11_parted_22 : decode cX11_parted 22 = .ok (.aload_n 0, 1) := by decide +kernel
theorem dX11_parted_23 : decode cX11_parted 23 = .ok (.dup, 1) := by decide +kernel
theorem dX11_parted_24 : decode cX11_parted 24 = .ok (.getfield 138, 3) := by decide +kernel
theorem dX11_parted_27 : decode cX11_parted 27 = .ok (.iconst 1, 1) := by decide +kernel
theorem dX11_parted_28 : decode cX11_parted 28 = .ok (.isub, 1) := by decide +kernel
theorem dX11_parted_29 : decode cX11_parted 29 = .ok (.putfield 138, 3) := by decide +kernel
theorem dX11_parted_32 : decode cX11_parted 32 = .ok (.aload_n 0, 1) := by decide +kernel
theorem dX11_parted_33 : decode cX11_parted 33 = .ok (.dup, 1) := by decide +kernel
theorem dX11_parted_34 : decode cX11_parted 34 = .ok (.getfield 145, 3) := by decide +kernel
theorem dX11_parted_37 : decode cX11_parted 37 = .ok (.iconst 1, 1) := by decide +kernel
theorem dX11_parted_38 : decode cX11_parted 38 = .ok (.isub, 1) := by decide +kernel
theorem dX11_parted_39 : decode cX11_parted 39 = .ok (.putfield 145, 3) := by decide +kernel
theorem dX11_parted_42 : decode cX11_parted 42 = .ok (.aload_n 0, 1) := by decide +kernel
theorem dX11_parted_43 : decode cX11_parted 43 = .ok (.iconst 3, 1) := by decide +kernel
theorem dX11_parted_44 : decode cX11_parted 44 = .ok (.iconst 0, 1) := by decide +kernel
theorem dX11_parted_45 : decode cX11_parted 45 = .ok (.invokevirtual 141, 3) := by decide +kernel
theorem dX11_parted_48 : decode cX11_parted 48 = .ok (.goto (-48), 3) := by decide +kernel
theorem dX11_parted_51 : decode cX11_parted 51 = .ok (.return_, 1) := by decide +kernel
theorem dX11_isName_0 : decode cX11_isName 0 = .ok (.iload_n 1, 1) := by decide +kernel
theorem dX11_isName_1 : decode cX11_isName 1 = .ok (.bipush 121, 2) := by decide +kernel
theorem dX11_isName_3 : decode cX11_isName 3 = .ok (.if_icmp .ne 5, 3) := by decide +kernel
theorem dX11_isName_6 : decode cX11_isName 6 = .ok (.iconst 1, 1) := by decide +kernel
theorem dX11_isName_7 : decode cX11_isName 7 = .ok (.ireturn, 1) := by decide +kernel
theorem dX11_isName_8 : decode cX11_isName 8 = .ok (.aload_n 0, 1) := by decide +kernel
theorem dX11_isName_9 : decode cX11_isName 9 = .ok (.getfield 132, 3) := by decide +kernel
theorem dX11_isName_12 : decode cX11_isName 12 = .ok (.ifCond .ne 33, 3) := by decide +kernel
theorem dX11_isName_15 : decode cX11_isName 15 = .ok (.iload_n 1, 1) := by decide +kernel
theorem dX11_isName_16 : decode cX11_isName 16 = .ok (.bipush 103, 2) := by decide +kernel
theorem dX11_isName_18 : decode cX11_isName 18 = .ok (.if_icmp .eq 21, 3) := by decide +kernel
theorem dX11_isName_21 : decode cX11_isName 21 = .ok (.iload_n 1, 1) := by decide +kernel
theorem dX11_isName_22 : decode cX11_isName 22 = .ok (.bipush 112, 2) := by decide +kernel
theorem dX11_isName_24 : decode cX11_isName 24 = .ok (.if_icmp .eq 15, 3) := by decide +kernel
theorem dX11_isName_27 : decode cX11_isName 27 = .ok (.iload_n 1, 1) := by decide +kernel
theorem dX11_isName_28 : decode cX11_isName 28 = .ok (.bipush 97, 2) := by decide +kernel
theorem dX11_isName_30 : decode cX11_isName 30 = .ok (.if_icmp .eq 9, 3) := by decide +kernel
theorem dX11_isName_33 : decode cX11_isName 33 = .ok (.iload_n 1, 1) := by decide +kernel
theorem dX11_isName_34 : decode cX11_isName 34 = .ok (.bipush 107, 2) := by decide +kernel
theorem dX11_isName_36 : decode cX11_isName 36 = .ok (.if_icmp .ne 7, 3) := by decide +kernel
theorem dX11_isName_39 : decode cX11_isName 39 = .ok (.iconst 1, 1) := by decide +kernel
theorem dX11_isName_40 : decode cX11_isName 40 = .ok (.goto 4, 3) := by decide +kernel
theorem dX11_isName_43 : decode cX11_isName 43 = .ok (.iconst 0, 1) := by decide +kernel
theorem dX11_isName_44 : decode cX11_isName 44 = .ok (.ireturn, 1) := by decide +kernel
theorem dX11_isName_45 : decode cX11_isName 45 = .ok (.aload_n 0, 1) := by decide +kernel
theorem dX11_isName_46 : decode cX11_isName 46 = .ok (.getfield 132, 3) := by decide +kernel
theorem dX11_isName_49 : decode cX11_isName 49 = .ok (.iconst 1, 1) := by decide +kernel
theorem dX11_isName_50 : decode cX11_isName 50 = .ok (.if_icmp .ne 41, 3) := by decide +kernel
theorem dX11_isName_53 : decode cX11_isName 53 = .ok (.iload_n 1, 1) := by decide +kernel
theorem dX11_isName_54 : decode cX11_isName 54 = .ok (.bipush 105, 2) := by decide +kernel
theorem dX11_isName_56 : decode cX11_isName 56 = .ok (.if_icmp .eq 27, 3) := by decide +kernel
theorem dX11_isName_59 : decode cX11_isName 59 = .ok (.iload_n 1, 1) := by decide +kernel
theorem dX11_isName_60 : decode cX11_isName 60 = .ok (.bipush 110, 2) := by decide +kernel
theorem dX11_isName_62 : decode cX11_isName 62 = .ok (.if_icmp .eq 21, 3) := by decide +kernel
theorem dX11_isName_65 : decode cX11_isName 65 = .ok (.iload_n 1, 1) := by decide +kernel
theorem dX11_isName_66 : decode cX11_isName 66 = .ok (.bipush 119, 2) := by decide +kernel
theorem dX11_isName_68 : decode cX11_isName 68 = .ok (.if_icmp .eq 15, 3) := by decide +kernel
theorem dX11_isName_71 : decode cX11_isName 71 = .ok (.iload_n 1, 1) := by decide +kernel
theorem dX11_isName_72 : decode cX11_isName 72 = .ok (.bipush 100, 2) := by decide +kernel
theorem dX11_isName_74 : decode cX11_isName 74 = .ok (.if_icmp .eq 9, 3) := by decide +kernel
theorem dX11_isName_77 : decode cX11_isName 77 = .ok (.iload_n 1, 1) := by decide +kernel
theorem dX11_isName_78 : decode cX11_isName 78 = .ok (.bipush 115, 2) := by decide +kernel
theorem dX11_isName_80 : decode cX11_isName 80 = .ok (.if_icmp .ne 7, 3) := by decide +kernel
theorem dX11_isName_83 : decode cX11_isName 83 = .ok (.iconst 1, 1) := by decide +kernel
theorem dX11_isName_84 : decode cX11_isName 84 = .ok (.goto 18, 3) := by decide +kernel
theorem dX11_isName_87 : decode cX11_isName 87 = .ok (.iconst 0, 1) := by decide +kernel
theorem dX11_isName_88 : decode cX11_isName 88 = .ok (.goto 14, 3) := by decide +kernel
theorem dX11_isName_91 : decode cX11_isName 91 = .ok (.iload_n 1, 1) := by decide +kernel
theorem dX11_isName_92 : decode cX11_isName 92 = .ok (.bipush 117, 2) := by decide +kernel
theorem dX11_isName_94 : decode cX11_isName 94 = .ok (.if_icmp .ne 7, 3) := by decide +kernel
theorem dX11_isName_97 : decode cX11_isName 97 = .ok (.iconst 1, 1) := by decide +kernel
theorem dX11_isName_98 : decode cX11_isName 98 = .ok (.goto 4, 3) := by decide +kernel
theorem dX11_isName_101 : decode cX11_isName 101 = .ok (.iconst 0, 1) := by decide +kernel
theorem dX11_isName_102 : decode cX11_isName 102 = .ok (.ireturn, 1) := by decide +kernel
theorem dX11_begins_0 : decode cX11_begins 0 = .ok (.aload_n 0, 1) := by decide +kernel
theorem dX11_begins_1 : decode cX11_begins 1 = .ok (.bipush 33, 2) := by decide +kernel
theorem dX11_begins_3 : decode cX11_begins 3 = .ok (.invokevirtual 148, 3) := by decide +kernel
theorem dX11_begins_6 : decode cX11_begins 6 = .ok (.ifCond .ne 12, 3) := by decide +kernel
theorem dX11_begins_9 : decode cX11_begins 9 = .ok (.aload_n 0, 1) := by decide +kernel
theorem dX11_begins_10 : decode cX11_begins 10 = .ok (.bipush 40, 2) := by decide +kernel
theorem dX11_begins_12 : decode cX11_begins 12 = .ok (.invokevirtual 148, 3) := by decide +kernel
theorem dX11_begins_15 : decode cX11_begins 15 = .ok (.ifCond .eq 106, 3) := by decide +kernel
theorem dX11_begins_18 : decode cX11_begins 18 = .ok (.aload_n 0, 1) := by decide +kernel
theorem dX11_begins_19 : decode cX11_begins 19 = .ok (.bipush 33, 2) := by decide +kernel
theorem dX11_begins_21 : decode cX11_begins 21 = .ok (.invokevirtual 148, 3) := by decide +kernel
theorem dX11_begins_24 : decode cX11_begins 24 = .ok (.istore_n 1, 1) := by decide +kernel
theorem dX11_begins_25 : decode cX11_begins 25 = .ok (.iload_n 1, 1) := by decide +kernel
theorem dX11_begins_26 : decode cX11_begins 26 = .ok (.ifCond .eq 10, 3) := by decide +kernel
theorem dX11_begins_29 : decode cX11_begins 29 = .ok (.aload_n 0, 1) := by decide +kernel
theorem dX11_begins_30 : decode cX11_begins 30 = .ok (.getfield 145, 3) := by decide +kernel
theorem dX11_begins_33 : decode cX11_begins 33 = .ok (.goto 7, 3) := by decide +kernel
theorem dX11_begins_36 : decode cX11_begins 36 = .ok (.aload_n 0, 1) := by decide +kernel
theorem dX11_begins_37 : decode cX11_begins 37 = .ok (.getfield 151, 3) := by decide +kernel
theorem dX11_begins_40 : decode cX11_begins 40 = .ok (.bipush 8, 2) := by decide +kernel
theorem dX11_begins_42 : decode cX11_begins 42 = .ok (.if_icmp .ne 9, 3) := by decide +kernel
theorem dX11_begins_45 : decode cX11_begins 45 = .ok (.aload_n 0, 1) := by decide +kernel
theorem dX11_begins_46 : decode cX11_begins 46 = .ok (.invokevirtual 125, 3) := by decide +kernel
theorem dX11_begins_49 : decode cX11_begins 49 = .ok (.iconst 0, 1) := by decide +kernel
theorem dX11_begins_50 : decode cX11_begins 50 = .ok (.ireturn, 1) := by decide +kernel
theorem dX11_begins_51 : decode cX11_begins 51 = .ok (.aload_n 0, 1) := by decide +kernel
theorem dX11_begins_52 : decode cX11_begins 52 = .ok (.getfield 22, 3) := by decide +kernel
theorem dX11_begins_55 : decode cX11_begins 55 = .ok (.aload_n 0, 1) := by decide +kernel
theorem dX11_begins_56 : decode cX11_begins 56 = .ok (.getfield 138, 3) := by decide +kernel
theorem dX11_begins_59 : decode cX11_begins 59 = .ok (.iload_n 1, 1) := by decide +kernel
theorem dX11_begins_60 : decode cX11_begins 60 = .ok (.ifCond .eq 7, 3) := by decide +kernel
theorem dX11_begins_63 : decode cX11_begins 63 = .ok (.iconst 3, 1) := by decide +kernel
theorem dX11_begins_64 : decode cX11_begins 64 = .ok (.goto 4, 3) := by decide +kernel
theorem dX11_begins_67 : decode cX11_begins 67 = .ok (.iconst 1, 1) := by decide +kernel
theorem dX11_begins_68 : decode cX11_begins 68 = .ok (.iastore, 1) := by decide +kernel
theorem dX11_begins_69 : decode cX11_begins 69 = .ok (.aload_n 0, 1) := by decide +kernel
theorem dX11_begins_70 : decode cX11_begins 70 = .ok (.dup, 1) := by decide +kernel
theorem dX11_begins_71 : decode cX11_begins 71 = .ok (.getfield 138, 3) := by decide +kernel
theorem dX11_begins_74 : decode cX11_begins 74 = .ok (.iconst 1, 1) := by decide +kernel
theorem dX11_begins_75 : decode cX11_begins 75 = .ok (.iadd, 1) := by decide +kernel
theorem dX11_begins_76 : decode cX11_begins 76 = .ok (.putfield 138, 3) := by decide +kernel
theorem dX11_begins_79 : decode cX11_begins 79 = .ok (.aload_n 0, 1) := by decide +kernel
theorem dX11_begins_80 : decode cX11_begins 80 = .ok (.dup, 1) := by decide +kernel
theorem dX11_begins_81 : decode cX11_begins 81 = .ok (.getfield 145, 3) := by decide +kernel
theorem dX11_begins_84 : decode cX11_begins 84 = .ok (.iload_n 1, 1) := by decide +kernel
theorem dX11_begins_85 : decode cX11_begins 85 = .ok (.ifCond .eq 7, 3) := by decide +kernel
theorem dX11_begins_88 : decode cX11_begins 88 = .ok (.iconst 1, 1) := by decide +kernel
theorem dX11_begins_89 : decode cX11_begins 89 = .ok (.goto 4, 3) := by decide +kernel
theorem dX11_begins_92 : decode cX11_begins 92 = .ok (.iconst 0, 1) := by decide +kernel
theorem dX11_begins_93 : decode cX11_begins 93 = .ok (.iadd, 1) := by decide +kernel
theorem dX11_begins_94 : decode cX11_begins 94 = .ok (.putfield 145, 3) := by decide +kernel
theorem dX11_begins_97 : decode cX11_begins 97 = .ok (.aload_n 0, 1) := by decide +kernel
theorem dX11_begins_98 : decode cX11_begins 98 = .ok (.dup, 1) := by decide +kernel
theorem dX11_begins_99 : decode cX11_begins 99 = .ok (.getfield 151, 3) := by decide +kernel
theorem dX11_begins_102 : decode cX11_begins 102 = .ok (.iload_n 1, 1) := by decide +kernel
theorem dX11_begins_103 : decode cX11_begins 103 = .ok (.ifCond .eq 7, 3) := by decide +kernel
theorem dX11_begins_106 : decode cX11_begins 106 = .ok (.iconst 0, 1) := by decide +kernel
theorem dX11_begins_107 : decode cX11_begins 107 = .ok (.goto 4, 3) := by decide +kernel
theorem dX11_begins_110 : decode cX11_begins 110 = .ok (.iconst 1, 1) := by decide +kernel
theorem dX11_begins_111 : decode cX11_begins 111 = .ok (.iadd, 1) := by decide +kernel
theorem dX11_begins_112 : decode cX11_begins 112 = .ok (.putfield 151, 3) := by decide +kernel
theorem dX11_begins_115 : decode cX11_begins 115 = .ok (.aload_n 0, 1) := by decide +kernel
theorem dX11_begins_116 : decode cX11_begins 116 = .ok (.invokevirtual 154, 3) := by decide +kernel
theorem dX11_begins_119 : decode cX11_begins 119 = .ok (.iconst 1, 1) := by decide +kernel
theorem dX11_begins_120 : decode cX11_begins 120 = .ok (.ireturn, 1) := by decide +kernel
theorem dX11_begins_121 : decode cX11_begins 121 = .ok (.aload_n 0, 1) := by decide +kernel
theorem dX11_begins_122 : decode cX11_begins 122 = .ok (.getfield 119, 3) := by decide +kernel
theorem dX11_begins_125 : decode cX11_begins 125 = .ok (.iconst 2, 1) := by decide +kernel
theorem dX11_begins_126 : decode cX11_begins 126 = .ok (.if_icmp .ne 61, 3) := by decide +kernel
theorem dX11_begins_129 : decode cX11_begins 129 = .ok (.aload_n 0, 1) := by decide +kernel
theorem dX11_begins_130 : decode cX11_begins 130 = .ok (.getfield 113, 3) := by decide +kernel
theorem dX11_begins_133 : decode cX11_begins 133 = .ok (.aload_n 0, 1) := by decide +kernel
theorem dX11_begins_134 : decode cX11_begins 134 = .ok (.getfield 107, 3) := by decide +kernel
theorem dX11_begins_137 : decode cX11_begins 137 = .ok (.isub, 1) := by decide +kernel
theorem dX11_begins_138 : decode cX11_begins 138 = .ok (.iconst 5, 1) := by decide +kernel
theorem dX11_begins_139 : decode cX11_begins 139 = .ok (.if_icmp .gt 48, 3) := by decide +kernel
theorem dX11_begins_142 : decode cX11_begins 142 = .ok (.iconst 0, 1) := by decide +kernel
theorem dX11_begins_143 : decode cX11_begins 143 = .ok (.istore_n 1, 1) := by decide +kernel
theorem dX11_begins_144 : decode cX11_begins 144 = .ok (.aload_n 0, 1) := by decide +kernel
theorem dX11_begins_145 : decode cX11_begins 145 = .ok (.getfield 107, 3) := by decide +kernel
theorem dX11_begins_148 : decode cX11_begins 148 = .ok (.istore_n 2, 1) := by decide +kernel
theorem dX11_begins_149 : decode cX11_begins 149 = .ok (.iload_n 2, 1) := by decide +kernel
theorem dX11_begins_150 : decode cX11_begins 150 = .ok (.aload_n 0, 1) := by decide +kernel
theorem dX11_begins_151 : decode cX11_begins 151 = .ok (.getfield 113, 3) := by decide +kernel
theorem dX11_begins_154 : decode cX11_begins 154 = .ok (.if_icmp .ge 24, 3) := by decide +kernel
theorem dX11_begins_157 : decode cX11_begins 157 = .ok (.bipush 10, 2) := by decide +kernel
theorem dX11_begins_159 : decode cX11_begins 159 = .ok (.iload_n 1, 1) := by decide +kernel
theorem dX11_begins_160 : decode cX11_begins 160 = .ok (.imul, 1) := by decide +kernel
theorem dX11_begins_161 : decode cX11_begins 161 = .ok (.aload_n 0, 1) := by decide +kernel
theorem dX11_begins_162 : decode cX11_begins 162 = .ok (.getfield 16, 3) := by decide +kernel
theorem dX11_begins_165 : decode cX11_begins 165 = .ok (.iload_n 2, 1) := by decide +kernel
theorem dX11_begins_166 : decode cX11_begins 166 = .ok (.iaload, 1) := by decide +kernel
theorem dX11_begins_167 : decode cX11_begins 167 = .ok (.iadd, 1) := by decide +kernel
theorem dX11_begins_168 : decode cX11_begins 168 = .ok (.bipush 48, 2) := by decide +kernel
theorem dX11_begins_170 : decode cX11_begins 170 = .ok (.isub, 1) := by decide +kernel
theorem dX11_begins_171 : decode cX11_begins 171 = .ok (.istore_n 1, 1) := by decide +kernel
theorem dX11_begins_172 : decode cX11_begins 172 = .ok (.iinc 2 1, 3) := by decide +kernel
theorem dX11_begins_175 : decode cX11_begins 175 = .ok (.goto (-26), 3) := by decide +kernel
theorem dX11_begins_178 : decode cX11_begins 178 = .ok (.aload_n 0, 1) := by decide +kernel
theorem dX11_begins_179 : decode cX11_begins 179 = .ok (.iconst 1, 1) := by decide +kernel
theorem dX11_begins_180 : decode cX11_begins 180 = .ok (.iload_n 1, 1) := by decide +kernel
theorem dX11_begins_181 : decode cX11_begins 181 = .ok (.invokevirtual 141, 3) := by decide +kernel
theorem dX11_begins_184 : decode cX11_begins 184 = .ok (.goto 63, 3) := by decide +kernel
theorem dX11_begins_187 : decode cX11_begins 187 = .ok (.aload_n 0, 1) := by decide +kernel
theorem dX11_begins_188 : decode cX11_begins 188 = .ok (.getfield 119, 3) := by decide +kernel
theorem dX11_begins_191 : decode cX11_begins 191 = .ok (.iconst 1, 1) := by decide +kernel
theorem dX11_begins_192 : decode cX11_begins 192 = .ok (.if_icmp .ne 49, 3) := by decide +kernel
theorem dX11_begins_195 : decode cX11_begins 195 = .ok (.aload_n 0, 1) := by decide +kernel
theorem dX11_begins_196 : decode cX11_begins 196 = .ok (.getfield 113, 3) := by decide +kernel
theorem dX11_begins_199 : decode cX11_begins 199 = .ok (.aload_n 0, 1) := by decide +kernel
theorem dX11_begins_200 : decode cX11_begins 200 = .ok (.getfield 107, 3) := by decide +kernel
theorem dX11_begins_203 : decode cX11_begins 203 = .ok (.isub, 1) := by decide +kernel
theorem dX11_begins_204 : decode cX11_begins 204 = .ok (.iconst 1, 1) := by decide +kernel
theorem dX11_begins_205 : decode cX11_begins 205 = .ok (.if_icmp .ne 36, 3) := by decide +kernel
theorem dX11_begins_208 : decode cX11_begins 208 = .ok (.aload_n 0, 1) := by decide +kernel
theorem dX11_begins_209 : decode cX11_begins 209 = .ok (.aload_n 0, 1) := by decide +kernel
theorem dX11_begins_210 : decode cX11_begins 210 = .ok (.getfield 16, 3) := by decide +kernel
theorem dX11_begins_213 : decode cX11_begins 213 = .ok (.aload_n 0, 1) := by decide +kernel
theorem dX11_begins_214 : decode cX11_begins 214 = .ok (.getfield 107, 3) := by decide +kernel
theorem dX11_begins_217 : decode cX11_begins 217 = .ok (.iaload, 1) := by decide +kernel
theorem dX11_begins_218 : decode cX11_begins 218 = .ok (.invokevirtual 157, 3) := by decide +kernel
theorem dX11_begins_221 : decode cX11_begins 221 = .ok (.ifCond .eq 20, 3) := by decide +kernel
theorem dX11_begins_224 : decode cX11_begins 224 = .ok (.aload_n 0, 1) := by decide +kernel
theorem dX11_begins_225 : decode cX11_begins 225 = .ok (.iconst 2, 1) := by decide +kernel
theorem dX11_begins_226 : decode cX11_begins 226 = .ok (.aload_n 0, 1) := by decide +kernel
theorem dX11_begins_227 : decode cX11_begins 227 = .ok (.getfield 16, 3) := by decide +kernel
theorem dX11_begins_230 : decode cX11_begins 230 = .ok (.aload_n 0, 1) := by decide +kernel
theorem dX11_begins_231 : decode cX11_begins 231 = .ok (.getfield 107, 3) := by decide +kernel
theorem dX11_begins_234 : decode cX11_begins 234 = .ok (.iaload, 1) := by decide +kernel
theorem dX11_begins_235 : decode cX11_begins 235 = .ok (.invokevirtual 141, 3) := by decide +kernel
theorem dX11_begins_238 : decode cX11_begins 238 = .ok (.goto 9, 3) := by decide +kernel
theorem dX11_begins_241 : decode cX11_begins 241 = .ok (.aload_n 0, 1) := by decide +kernel
theorem dX11_begins_242 : decode cX11_begins 242 = .ok (.invokevirtual 125, 3) := by decide +kernel
theorem dX11_begins_245 : decode cX11_begins 245 = .ok (.iconst 0, 1) := by decide +kernel
theorem dX11_begins_246 : decode cX11_begins 246 = .ok (.ireturn, 1) := by decide +kernel
theorem dX11_begins_247 : decode cX11_begins 247 = .ok (.aload_n 0, 1) := by decide +kernel
theorem dX11_begins_248 : decode cX11_begins 248 = .ok (.dup, 1) := by decide +kernel
theorem dX11_begins_249 : decode cX11_begins 249 = .ok (.getfield 160, 3) := by decide +kernel
theorem dX11_begins_252 : decode cX11_begins 252 = .ok (.iconst 1, 1) := by decide +kernel
theorem dX11_begins_253 : decode cX11_begins 253 = .ok (.iadd, 1) := by decide +kernel
theorem dX11_begins_254 : decode cX11_begins 254 = .ok (.putfield 160, 3) := by decide +kernel
theorem dX11_begins_257 : decode cX11_begins 257 = .ok (.aload_n 0, 1) := by decide +kernel
theorem dX11_begins_258 : decode cX11_begins 258 = .ok (.invokevirtual 154, 3) := by decide +kernel
theorem dX11_begins_261 : decode cX11_begins 261 = .ok (.aload_n 0, 1) := by decide +kernel
theorem dX11_begins_262 : decode cX11_begins 262 = .ok (.invokevirtual 163, 3) := by decide +kernel
theorem dX11_begins_265 : decode cX11_begins 265 = .ok (.iconst 0, 1) := by decide +kernel
theorem dX11_begins_266 : decode cX11_begins 266 = .ok (.ireturn, 1) := by decide +kernel
theorem dX11_signHere_0 : decode cX11_signHere 0 = .ok (.aload_n 0, 1) := by decide +kernel
theorem dX11_signHere_1 : decode cX11_signHere 1 = .ok (.getfield 119, 3) := by decide +kernel
theorem dX11_signHere_4 : decode cX11_signHere 4 = .ok (.iconst 3, 1) := by decide +kernel
theorem dX11_signHere_5 : decode cX11_signHere 5 = .ok (.if_icmp .eq 5, 3) := by decide +kernel
theorem dX11_signHere_8 : decode cX11_signHere 8 = .ok (.iconst 0, 1) := by decide +kernel
theorem dX11_signHere_9 : decode cX11_signHere 9 = .ok (.ireturn, 1) := by decide +kernel
theorem dX11_signHere_10 : decode cX11_signHere 10 = .ok (.aload_n 0, 1) := by decide +kernel
theorem dX11_signHere_11 : decode cX11_signHere 11 = .ok (.getfield 16, 3) := by decide +kernel
theorem dX11_signHere_14 : decode cX11_signHere 14 = .ok (.aload_n 0, 1) := by decide +kernel
theorem dX11_signHere_15 : decode cX11_signHere 15 = .ok (.getfield 107, 3) := by decide +kernel
theorem dX11_signHere_18 : decode cX11_signHere 18 = .ok (.iaload, 1) := by decide +kernel
theorem dX11_signHere_19 : decode cX11_signHere 19 = .ok (.lookupswitch 108 #[(38, 84), (42, 102), (43, 96), (45, 99), (47, 105), (60, 87), (61, 90), (62, 93), (124, 81)], 81) := by decide +kernel
theorem dX11_signHere_100 : decode cX11_signHere 100 = .ok (.bipush 10, 2) := by decide +kernel
theorem dX11_signHere_102 : decode cX11_signHere 102 = .ok (.ireturn, 1) := by decide +kernel
theorem dX11_signHere_103 : decode cX11_signHere 103 = .ok (.bipush 20, 2) := by decide +kernel
theorem dX11_signHere_105 : decode cX11_signHere 105 = .ok (.ireturn, 1) := by decide +kernel
theorem dX11_signHere_106 : decode cX11_signHere 106 = .ok (.bipush 30, 2) := by decide +kernel
theorem dX11_signHere_108 : decode cX11_signHere 108 = .ok (.ireturn, 1) := by decide +kernel
theorem dX11_signHere_109 : decode cX11_signHere 109 = .ok (.bipush 31, 2) := by decide +kernel
theorem dX11_signHere_111 : decode cX11_signHere 111 = .ok (.ireturn, 1) := by decide +kernel
theorem dX11_signHere_112 : decode cX11_signHere 112 = .ok (.bipush 32, 2) := by decide +kernel
theorem dX11_signHere_114 : decode cX11_signHere 114 = .ok (.ireturn, 1) := by decide +kernel
theorem dX11_signHere_115 : decode cX11_signHere 115 = .ok (.bipush 40, 2) := by decide +kernel
theorem dX11_signHere_117 : decode cX11_signHere 117 = .ok (.ireturn, 1) := by decide +kernel
theorem dX11_signHere_118 : decode cX11_signHere 118 = .ok (.bipush 41, 2) := by decide +kernel
theorem dX11_signHere_120 : decode cX11_signHere 120 = .ok (.ireturn, 1) := by decide +kernel
theorem dX11_signHere_121 : decode cX11_signHere 121 = .ok (.bipush 50, 2) := by decide +kernel
theorem dX11_signHere_123 : decode cX11_signHere 123 = .ok (.ireturn, 1) := by decide +kernel
theorem dX11_signHere_124 : decode cX11_signHere 124 = .ok (.bipush 51, 2) := by decide +kernel
theorem dX11_signHere_126 : decode cX11_signHere 126 = .ok (.ireturn, 1) := by decide +kernel
theorem dX11_signHere_127 : decode cX11_signHere 127 = .ok (.iconst 0, 1) := by decide +kernel
theorem dX11_signHere_128 : decode cX11_signHere 128 = .ok (.ireturn, 1) := by decide +kernel
theorem dX11_expression_0 : decode cX11_expression 0 = .ok (.aload_n 0, 1) := by decide +kernel
theorem dX11_expression_1 : decode cX11_expression 1 = .ok (.iconst 0, 1) := by decide +kernel
theorem dX11_expression_2 : decode cX11_expression 2 = .ok (.putfield 138, 3) := by decide +kernel
theorem dX11_expression_5 : decode cX11_expression 5 = .ok (.aload_n 0, 1) := by decide +kernel
theorem dX11_expression_6 : decode cX11_expression 6 = .ok (.iconst 0, 1) := by decide +kernel
theorem dX11_expression_7 : decode cX11_expression 7 = .ok (.putfield 151, 3) := by decide +kernel
theorem dX11_expression_10 : decode cX11_expression 10 = .ok (.aload_n 0, 1) := by decide +kernel
theorem dX11_expression_11 : decode cX11_expression 11 = .ok (.iconst 0, 1) := by decide +kernel
theorem dX11_expression_12 : decode cX11_expression 12 = .ok (.putfield 145, 3) := by decide +kernel
theorem dX11_expression_15 : decode cX11_expression 15 = .ok (.iconst 1, 1) := by decide +kernel
theorem dX11_expression_16 : decode cX11_expression 16 = .ok (.istore_n 1, 1) := by decide +kernel
theorem dX11_expression_17 : decode cX11_expression 17 = .ok (.iconst 1, 1) := by decide +kernel
theorem dX11_expression_18 : decode cX11_expression 18 = .ok (.istore_n 2, 1) := by decide +kernel
theorem dX11_expression_19 : decode cX11_expression 19 = .ok (.iload_n 2, 1) := by decide +kernel
theorem dX11_expression_20 : decode cX11_expression 20 = .ok (.ifCond .eq 188, 3) := by decide +kernel
theorem dX11_expression_23 : decode cX11_expression 23 = .ok (.aload_n 0, 1) := by decide +kernel
theorem dX11_expression_24 : decode cX11_expression 24 = .ok (.getfield 103, 3) := by decide +kernel
theorem dX11_expression_27 : decode cX11_expression 27 = .ok (.ifCond .ne 181, 3) := by decide +kernel
theorem dX11_expression_30 : decode cX11_expression 30 = .ok (.iload_n 1, 1) := by decide +kernel
theorem dX11_expression_31 : decode cX11_expression 31 = .ok (.ifCond .eq 11, 3) := by decide +kernel
theorem dX11_expression_34 : decode cX11_expression 34 = .ok (.aload_n 0, 1) := by decide +kernel
theorem dX11_expression_35 : decode cX11_expression 35 = .ok (.invokevirtual 166, 3) := by decide +kernel
theorem dX11_expression_38 : decode cX11_expression 38 = .ok (.istore_n 1, 1) := by decide +kernel
theorem dX11_expression_39 : decode cX11_expression 39 = .ok (.goto (-20), 3) := by decide +kernel
theorem dX11_expression_42 : decode cX11_expression 42 = .ok (.aload_n 0, 1) := by decide +kernel
theorem dX11_expression_43 : decode cX11_expression 43 = .ok (.invokevirtual 170, 3) := by decide +kernel
theorem dX11_expression_46 : decode cX11_expression 46 = .ok (.istore_n 3, 1) := by decide +kernel
theorem dX11_expression_47 : decode cX11_expression 47 = .ok (.iload_n 3, 1) := by decide +kernel
theorem dX11_expression_48 : decode cX11_expression 48 = .ok (.ifCond .eq 92, 3) := by decide +kernel
theorem dX11_expression_51 : decode cX11_expression 51 = .ok (.aload_n 0, 1) := by decide +kernel
theorem dX11_expression_52 : decode cX11_expression 52 = .ok (.iload_n 3, 1) := by decide +kernel
theorem dX11_expression_53 : decode cX11_expression 53 = .ok (.bipush 10, 2) := by decide +kernel
theorem dX11_expression_55 : decode cX11_expression 55 = .ok (.idiv, 1) := by decide +kernel
theorem dX11_expression_56 : decode cX11_expression 56 = .ok (.iconst 3, 1) := by decide +kernel
theorem dX11_expression_57 : decode cX11_expression 57 = .ok (.if_icmp .ne 7, 3) := by decide +kernel
theorem dX11_expression_60 : decode cX11_expression 60 = .ok (.iconst 4, 1) := by decide +kernel
theorem dX11_expression_61 : decode cX11_expression 61 = .ok (.goto 7, 3) := by decide +kernel
theorem dX11_expression_64 : decode cX11_expression 64 = .ok (.iload_n 3, 1) := by decide +kernel
theorem dX11_expression_65 : decode cX11_expression 65 = .ok (.bipush 10, 2) := by decide +kernel
theorem dX11_expression_67 : decode cX11_expression 67 = .ok (.idiv, 1) := by decide +kernel
theorem dX11_expression_68 : decode cX11_expression 68 = .ok (.invokevirtual 174, 3) := by decide +kernel
theorem dX11_expression_71 : decode cX11_expression 71 = .ok (.iload_n 3, 1) := by decide +kernel
theorem dX11_expression_72 : decode cX11_expression 72 = .ok (.bipush 10, 2) := by decide +kernel
theorem dX11_expression_74 : decode cX11_expression 74 = .ok (.idiv, 1) := by decide +kernel
theorem dX11_expression_75 : decode cX11_expression 75 = .ok (.iconst 3, 1) := by decide +kernel
theorem dX11_expression_76 : decode cX11_expression 76 = .ok (.if_icmp .ne 35, 3) := by decide +kernel
theorem dX11_expression_79 : decode cX11_expression 79 = .ok (.aload_n 0, 1) := by decide +kernel
theorem dX11_expression_80 : decode cX11_expression 80 = .ok (.getfield 138, 3) := by decide +kernel
theorem dX11_expression_83 : decode cX11_expression 83 = .ok (.ifCond .le 28, 3) := by decide +kernel
theorem dX11_expression_86 : decode cX11_expression 86 = .ok (.aload_n 0, 1) := by decide +kernel
theorem dX11_expression_87 : decode cX11_expression 87 = .ok (.getfield 22, 3) := by decide +kernel
theorem dX11_expression_90 : decode cX11_expression 90 = .ok (.aload_n 0, 1) := by decide +kernel
theorem dX11_expression_91 : decode cX11_expression 91 = .ok (.getfield 138, 3) := by decide +kernel
theorem dX11_expression_94 : decode cX11_expression 94 = .ok (.iconst 1, 1) := by decide +kernel
theorem dX11_expression_95 : decode cX11_expression 95 = .ok (.isub, 1) := by decide +kernel
theorem dX11_expression_96 : decode cX11_expression 96 = .ok (.iaload, 1) := by decide +kernel
theorem dX11_expression_97 : decode cX11_expression 97 = .ok (.bipush 10, 2) := by decide +kernel
theorem dX11_expression_99 : decode cX11_expression 99 = .ok (.idiv, 1) := by decide +kernel
theorem dX11_expression_100 : decode cX11_expression 100 = .ok (.iconst 3, 1) := by decide +kernel
theorem dX11_expression_101 : decode cX11_expression 101 = .ok (.if_icmp .ne 10, 3) := by decide +kernel
theorem dX11_expression_104 : decode cX11_expression 104 = .ok (.aload_n 0, 1) := by decide +kernel
theorem dX11_expression_105 : decode cX11_expression 105 = .ok (.invokevirtual 125, 3) := by decide +kernel
theorem dX11_expression_108 : decode cX11_expression 108 = .ok (.goto 97, 3) := by decide +kernel
theorem dX11_expression_111 : decode cX11_expression 111 = .ok (.aload_n 0, 1) := by decide +kernel
theorem dX11_expression_112 : decode cX11_expression 112 = .ok (.getfield 22, 3) := by decide +kernel
theorem dX11_expression_115 : decode cX11_expression 115 = .ok (.aload_n 0, 1) := by decide +kernel
theorem dX11_expression_116 : decode cX11_expression 116 = .ok (.getfield 138, 3) := by decide +kernel
theorem dX11_expression_119 : decode cX11_expression 119 = .ok (.iload_n 3, 1) := by decide +kernel
theorem dX11_expression_120 : decode cX11_expression 120 = .ok (.iastore, 1) := by decide +kernel
theorem dX11_expression_121 : decode cX11_expression 121 = .ok (.aload_n 0, 1) := by decide +kernel
theorem dX11_expression_122 : decode cX11_expression 122 = .ok (.dup, 1) := by decide +kernel
theorem dX11_expression_123 : decode cX11_expression 123 = .ok (.getfield 138, 3) := by decide +kernel
theorem dX11_expression_126 : decode cX11_expression 126 = .ok (.iconst 1, 1) := by decide +kernel
theorem dX11_expression_127 : decode cX11_expression 127 = .ok (.iadd, 1) := by decide +kernel
theorem dX11_expression_128 : decode cX11_expression 128 = .ok (.putfield 138, 3) := by decide +kernel
theorem dX11_expression_131 : decode cX11_expression 131 = .ok (.iconst 1, 1) := by decide +kernel
theorem dX11_expression_132 : decode cX11_expression 132 = .ok (.istore_n 1, 1) := by decide +kernel
theorem dX11_expression_133 : decode cX11_expression 133 = .ok (.aload_n 0, 1) := by decide +kernel
theorem dX11_expression_134 : decode cX11_expression 134 = .ok (.invokevirtual 154, 3) := by decide +kernel
theorem dX11_expression_137 : decode cX11_expression 137 = .ok (.goto 68, 3) := by decide +kernel
theorem dX11_expression_140 : decode cX11_expression 140 = .ok (.aload_n 0, 1) := by decide +kernel
theorem dX11_expression_141 : decode cX11_expression 141 = .ok (.bipush 41, 2) := by decide +kernel
theorem dX11_expression_143 : decode cX11_expression 143 = .ok (.invokevirtual 148, 3) := by decide +kernel
theorem dX11_expression_146 : decode cX11_expression 146 = .ok (.ifCond .eq 46, 3) := by decide +kernel
theorem dX11_expression_149 : decode cX11_expression 149 = .ok (.aload_n 0, 1) := by decide +kernel
theorem dX11_expression_150 : decode cX11_expression 150 = .ok (.getfield 151, 3) := by decide +kernel
theorem dX11_expression_153 : decode cX11_expression 153 = .ok (.ifCond .le 39, 3) := by decide +kernel
theorem dX11_expression_156 : decode cX11_expression 156 = .ok (.aload_n 0, 1) := by decide +kernel
theorem dX11_expression_157 : decode cX11_expression 157 = .ok (.iconst 1, 1) := by decide +kernel
theorem dX11_expression_158 : decode cX11_expression 158 = .ok (.invokevirtual 174, 3) := by decide +kernel
theorem dX11_expression_161 : decode cX11_expression 161 = .ok (.aload_n 0, 1) := by decide +kernel
theorem dX11_expression_162 : decode cX11_expression 162 = .ok (.dup, 1) := by decide +kernel
theorem dX11_expression_163 : decode cX11_expression 163 = .ok (.getfield 138, 3) := by decide +kernel
theorem dX11_expression_166 : decode cX11_expression 166 = .ok (.iconst 1, 1) := by decide +kernel
theorem dX11_expression_167 : decode cX11_expression 167 = .ok (.isub, 1) := by decide +kernel
theorem dX11_expression_168 : decode cX11_expression 168 = .ok (.putfield 138, 3) := by decide +kernel
theorem dX11_expression_171 : decode cX11_expression 171 = .ok (.aload_n 0, 1) := by decide +kernel
theorem dX11_expression_172 : decode cX11_expression 172 = .ok (.dup, 1) := by decide +kernel
theorem dX11_expression_173 : decode cX11_expression 173 = .ok (.getfield 151, 3) := by decide +kernel
theorem dX11_expression_176 : decode cX11_expression 176 = .ok (.iconst 1, 1) := by decide +kernel
theorem dX11_expression_177 : decode cX11_expression 177 = .ok (.isub, 1) := by decide +kernel
theorem dX11_expression_178 : decode cX11_expression 178 = .ok (.putfield 151, 3) := by decide +kernel
theorem dX11_expression_181 : decode cX11_expression 181 = .ok (.aload_n 0, 1) := by decide +kernel
theorem dX11_expression_182 : decode cX11_expression 182 = .ok (.invokevirtual 154, 3) := by decide +kernel
theorem dX11_expression_185 : decode cX11_expression 185 = .ok (.aload_n 0, 1) := by decide +kernel
theorem dX11_expression_186 : decode cX11_expression 186 = .ok (.invokevirtual 163, 3) := by decide +kernel
theorem dX11_expression_189 : decode cX11_expression 189 = .ok (.goto 16, 3) := by decide +kernel
theorem dX11_expression_192 : decode cX11_expression 192 = .ok (.iconst 0, 1) := by decide +kernel
theorem dX11_expression_193 : decode cX11_expression 193 = .ok (.istore_n 2, 1) := by decide +kernel
theorem dX11_expression_194 : decode cX11_expression 194 = .ok (.aload_n 0, 1) := by decide +kernel
theorem dX11_expression_195 : decode cX11_expression 195 = .ok (.getfield 151, 3) := by decide +kernel
theorem dX11_expression_198 : decode cX11_expression 198 = .ok (.ifCond .le 7, 3) := by decide +kernel
theorem dX11_expression_201 : decode cX11_expression 201 = .ok (.aload_n 0, 1) := by decide +kernel
theorem dX11_expression_202 : decode cX11_expression 202 = .ok (.invokevirtual 125, 3) := by decide +kernel
theorem dX11_expression_205 : decode cX11_expression 205 = .ok (.goto (-186), 3) := by decide +kernel
theorem dX11_expression_208 : decode cX11_expression 208 = .ok (.aload_n 0, 1) := by decide +kernel
theorem dX11_expression_209 : decode cX11_expression 209 = .ok (.getfield 103, 3) := by decide +kernel
theorem dX11_expression_212 : decode cX11_expression 212 = .ok (.ifCond .ne 8, 3) := by decide +kernel
theorem dX11_expression_215 : decode cX11_expression 215 = .ok (.aload_n 0, 1) := by decide +kernel
theorem dX11_expression_216 : decode cX11_expression 216 = .ok (.iconst 1, 1) := by decide +kernel
theorem dX11_expression_217 : decode cX11_expression 217 = .ok (.invokevirtual 174, 3) := by decide +kernel
theorem dX11_expression_220 : decode cX11_expression 220 = .ok (.return_, 1) := by decide +kernel
theorem dX11_reads_0 : decode cX11_reads 0 = .ok (.aload_n 0, 1) := by decide +kernel
theorem dX11_reads_1 : decode cX11_reads 1 = .ok (.getfield 103, 3) := by decide +kernel
theorem dX11_reads_4 : decode cX11_reads 4 = .ok (.ifCond .eq 4, 3) := by decide +kernel
theorem dX11_reads_7 : decode cX11_reads 7 = .ok (.return_, 1) := by decide +kernel
theorem dX11_reads_8 : decode cX11_reads 8 = .ok (.aload_n 0, 1) := by decide +kernel
theorem dX11_reads_9 : decode cX11_reads 9 = .ok (.iload_n 1, 1) := by decide +kernel
theorem dX11_reads_10 : decode cX11_reads 10 = .ok (.putfield 132, 3) := by decide +kernel
theorem dX11_reads_13 : decode cX11_reads 13 = .ok (.aload_n 0, 1) := by decide +kernel
theorem dX11_reads_14 : decode cX11_reads 14 = .ok (.iconst 0, 1) := by decide +kernel
theorem dX11_reads_15 : decode cX11_reads 15 = .ok (.putfield 135, 3) := by decide +kernel
theorem dX11_reads_18 : decode cX11_reads 18 = .ok (.iload_n 2, 1) := by decide +kernel
theorem dX11_reads_19 : decode cX11_reads 19 = .ok (.ifCond .ne 7, 3) := by decide +kernel
theorem dX11_reads_22 : decode cX11_reads 22 = .ok (.aload_n 0, 1) := by decide +kernel
theorem dX11_reads_23 : decode cX11_reads 23 = .ok (.invokevirtual 125, 3) := by decide +kernel
theorem dX11_reads_26 : decode cX11_reads 26 = .ok (.aload_n 0, 1) := by decide +kernel
theorem dX11_reads_27 : decode cX11_reads 27 = .ok (.invokevirtual 154, 3) := by decide +kernel
theorem dX11_reads_30 : decode cX11_reads 30 = .ok (.aload_n 0, 1) := by decide +kernel
theorem dX11_reads_31 : decode cX11_reads 31 = .ok (.invokevirtual 178, 3) := by decide +kernel
theorem dX11_reads_34 : decode cX11_reads 34 = .ok (.aload_n 0, 1) := by decide +kernel
theorem dX11_reads_35 : decode cX11_reads 35 = .ok (.getfield 19, 3) := by decide +kernel
theorem dX11_reads_38 : decode cX11_reads 38 = .ok (.sipush 241, 3) := by decide +kernel
theorem dX11_reads_41 : decode cX11_reads 41 = .ok (.iload_n 1, 1) := by decide +kernel
theorem dX11_reads_42 : decode cX11_reads 42 = .ok (.imul, 1) := by decide +kernel
theorem dX11_reads_43 : decode cX11_reads 43 = .ok (.aload_n 0, 1) := by decide +kernel
theorem dX11_reads_44 : decode cX11_reads 44 = .ok (.getfield 135, 3) := by decide +kernel
theorem dX11_reads_47 : decode cX11_reads 47 = .ok (.iastore, 1) := by decide +kernel
theorem dX11_reads_48 : decode cX11_reads 48 = .ok (.return_, 1) := by decide +kernel
theorem dX11_law_0 : decode cX11_law 0 = .ok (.aload_n 0, 1) := by decide +kernel
theorem dX11_law_1 : decode cX11_law 1 = .ok (.aload_n 0, 1) := by decide +kernel
theorem dX11_law_2 : decode cX11_law 2 = .ok (.getfield 99, 3) := by decide +kernel
theorem dX11_law_5 : decode cX11_law 5 = .ok (.putfield 116, 3) := by decide +kernel
theorem dX11_law_8 : decode cX11_law 8 = .ok (.aload_n 0, 1) := by decide +kernel
theorem dX11_law_9 : decode cX11_law 9 = .ok (.iconst 0, 1) := by decide +kernel
theorem dX11_law_10 : decode cX11_law 10 = .ok (.putfield 99, 3) := by decide +kernel
theorem dX11_law_13 : decode cX11_law 13 = .ok (.aload_n 0, 1) := by decide +kernel
theorem dX11_law_14 : decode cX11_law 14 = .ok (.iconst 0, 1) := by decide +kernel
theorem dX11_law_15 : decode cX11_law 15 = .ok (.putfield 113, 3) := by decide +kernel
theorem dX11_law_18 : decode cX11_law 18 = .ok (.aload_n 0, 1) := by decide +kernel
theorem dX11_law_19 : decode cX11_law 19 = .ok (.iconst 0, 1) := by decide +kernel
theorem dX11_law_20 : decode cX11_law 20 = .ok (.putfield 119, 3) := by decide +kernel
theorem dX11_law_23 : decode cX11_law 23 = .ok (.aload_n 0, 1) := by decide +kernel
theorem dX11_law_24 : decode cX11_law 24 = .ok (.iconst 0, 1) := by decide +kernel
theorem dX11_law_25 : decode cX11_law 25 = .ok (.putfield 103, 3) := by decide +kernel
theorem dX11_law_28 : decode cX11_law 28 = .ok (.aload_n 0, 1) := by decide +kernel
theorem dX11_law_29 : decode cX11_law 29 = .ok (.iconst 0, 1) := by decide +kernel
theorem dX11_law_30 : decode cX11_law 30 = .ok (.putfield 160, 3) := by decide +kernel
theorem dX11_law_33 : decode cX11_law 33 = .ok (.aload_n 0, 1) := by decide +kernel
theorem dX11_law_34 : decode cX11_law 34 = .ok (.invokevirtual 154, 3) := by decide +kernel
theorem dX11_law_37 : decode cX11_law 37 = .ok (.aload_n 0, 1) := by decide +kernel
theorem dX11_law_38 : decode cX11_law 38 = .ok (.iconst 0, 1) := by decide +kernel
theorem dX11_law_39 : decode cX11_law 39 = .ok (.aload_n 0, 1) := by decide +kernel
theorem dX11_law_40 : decode cX11_law 40 = .ok (.bipush 100, 2) := by decide +kernel
theorem dX11_law_42 : decode cX11_law 42 = .ok (.bipush 97, 2) := by decide +kernel
theorem dX11_law_44 : decode cX11_law 44 = .ok (.bipush 121, 2) := by decide +kernel
theorem dX11_law_46 : decode cX11_law 46 = .ok (.bipush 115, 2) := by decide +kernel
theorem dX11_law_48 : decode cX11_law 48 = .ok (.iconst 0, 1) := by decide +kernel
theorem dX11_law_49 : decode cX11_law 49 = .ok (.invokevirtual 181, 3) := by decide +kernel
theorem dX11_law_52 : decode cX11_law 52 = .ok (.invokevirtual 185, 3) := by decide +kernel
theorem dX11_law_55 : decode cX11_law 55 = .ok (.aload_n 0, 1) := by decide +kernel
theorem dX11_law_56 : decode cX11_law 56 = .ok (.iconst 1, 1) := by decide +kernel
theorem dX11_law_57 : decode cX11_law 57 = .ok (.aload_n 0, 1) := by decide +kernel
theorem dX11_law_58 : decode cX11_law 58 = .ok (.bipush 115, 2) := by decide +kernel
theorem dX11_law_60 : decode cX11_law 60 = .ok (.bipush 117, 2) := by decide +kernel
theorem dX11_law_62 : decode cX11_law 62 = .ok (.bipush 109, 2) := by decide +kernel
theorem dX11_law_64 : decode cX11_law 64 = .ok (.iconst 0, 1) := by decide +kernel
theorem dX11_law_65 : decode cX11_law 65 = .ok (.iconst 0, 1) := by decide +kernel
theorem dX11_law_66 : decode cX11_law 66 = .ok (.invokevirtual 181, 3) := by decide +kernel
theorem dX11_law_69 : decode cX11_law 69 = .ok (.invokevirtual 185, 3) := by decide +kernel
theorem dX11_law_72 : decode cX11_law 72 = .ok (.aload_n 0, 1) := by decide +kernel
theorem dX11_law_73 : decode cX11_law 73 = .ok (.iconst 2, 1) := by decide +kernel
theorem dX11_law_74 : decode cX11_law 74 = .ok (.aload_n 0, 1) := by decide +kernel
theorem dX11_law_75 : decode cX11_law 75 = .ok (.bipush 104, 2) := by decide +kernel
theorem dX11_law_77 : decode cX11_law 77 = .ok (.bipush 111, 2) := by decide +kernel
theorem dX11_law_79 : decode cX11_law 79 = .ok (.bipush 117, 2) := by decide +kernel
theorem dX11_law_81 : decode cX11_law 81 = .ok (.bipush 114, 2) := by decide +kernel
theorem dX11_law_83 : decode cX11_law 83 = .ok (.bipush 115, 2) := by decide +kernel
theorem dX11_law_85 : decode cX11_law 85 = .ok (.invokevirtual 181, 3) := by decide +kernel
theorem dX11_law_88 : decode cX11_law 88 = .ok (.invokevirtual 185, 3) := by decide +kernel
theorem dX11_law_91 : decode cX11_law 91 = .ok (.aload_n 0, 1) := by decide +kernel
theorem dX11_law_92 : decode cX11_law 92 = .ok (.getfield 103, 3) := by decide +kernel
theorem dX11_law_95 : decode cX11_law 95 = .ok (.ifCond .ne 14, 3) := by decide +kernel
theorem dX11_law_98 : decode cX11_law 98 = .ok (.aload_n 0, 1) := by decide +kernel
theorem dX11_law_99 : decode cX11_law 99 = .ok (.getfield 119, 3) := by decide +kernel
theorem dX11_law_102 : decode cX11_law 102 = .ok (.ifCond .eq 7, 3) := by decide +kernel
theorem dX11_law_105 : decode cX11_law 105 = .ok (.aload_n 0, 1) := by decide +kernel
theorem dX11_law_106 : decode cX11_law 106 = .ok (.invokevirtual 125, 3) := by decide +kernel
theorem dX11_law_109 : decode cX11_law 109 = .ok (.aload_n 0, 1) := by decide +kernel
theorem dX11_law_110 : decode cX11_law 110 = .ok (.getfield 103, 3) := by decide +kernel
theorem dX11_law_113 : decode cX11_law 113 = .ok (.ifCond .eq 11, 3) := by decide +kernel
theorem dX11_law_116 : decode cX11_law 116 = .ok (.bipush (-100), 2) := by decide +kernel
theorem dX11_law_118 : decode cX11_law 118 = .ok (.aload_n 0, 1) := by decide +kernel
theorem dX11_law_119 : decode cX11_law 119 = .ok (.getfield 110, 3) := by decide +kernel
theorem dX11_law_122 : decode cX11_law 122 = .ok (.isub, 1) := by decide +kernel
theorem dX11_law_123 : decode cX11_law 123 = .ok (.ireturn, 1) := by decide +kernel
theorem dX11_law_124 : decode cX11_law 124 = .ok (.iconst 0, 1) := by decide +kernel
theorem dX11_law_125 : decode cX11_law 125 = .ok (.istore_n 1, 1) := by decide +kernel
theorem dX11_law_126 : decode cX11_law 126 = .ok (.iload_n 1, 1) := by decide +kernel
theorem dX11_law_127 : decode cX11_law 127 = .ok (.sipush 723, 3) := by decide +kernel
theorem dX11_law_130 : decode cX11_law 130 = .ok (.if_icmp .ge 25, 3) := by decide +kernel
theorem dX11_law_133 : decode cX11_law 133 = .ok (.aload_n 0, 1) := by decide +kernel
theorem dX11_law_134 : decode cX11_law 134 = .ok (.getfield 7, 3) := by decide +kernel
theorem dX11_law_137 : decode cX11_law 137 = .ok (.sipush 952, 3) := by decide +kernel
theorem dX11_law_140 : decode cX11_law 140 = .ok (.iload_n 1, 1) := by decide +kernel
theorem dX11_law_141 : decode cX11_law 141 = .ok (.iadd, 1) := by decide +kernel
theorem dX11_law_142 : decode cX11_law 142 = .ok (.aload_n 0, 1) := by decide +kernel
theorem dX11_law_143 : decode cX11_law 143 = .ok (.getfield 19, 3) := by decide +kernel
theorem dX11_law_146 : decode cX11_law 146 = .ok (.iload_n 1, 1) := by decide +kernel
theorem dX11_law_147 : decode cX11_law 147 = .ok (.iaload, 1) := by decide +kernel
theorem dX11_law_148 : decode cX11_law 148 = .ok (.iastore, 1) := by decide +kernel
theorem dX11_law_149 : decode cX11_law 149 = .ok (.iinc 1 1, 3) := by decide +kernel
theorem dX11_law_152 : decode cX11_law 152 = .ok (.goto (-26), 3) := by decide +kernel
theorem dX11_law_155 : decode cX11_law 155 = .ok (.aload_n 0, 1) := by decide +kernel
theorem dX11_law_156 : decode cX11_law 156 = .ok (.getfield 7, 3) := by decide +kernel
theorem dX11_law_159 : decode cX11_law 159 = .ok (.bipush 21, 2) := by decide +kernel
theorem dX11_law_161 : decode cX11_law 161 = .ok (.iconst 1, 1) := by decide +kernel
theorem dX11_law_162 : decode cX11_law 162 = .ok (.iastore, 1) := by decide +kernel
theorem dX11_law_163 : decode cX11_law 163 = .ok (.aload_n 0, 1) := by decide +kernel
theorem dX11_law_164 : decode cX11_law 164 = .ok (.getfield 160, 3) := by decide +kernel
theorem dX11_law_167 : decode cX11_law 167 = .ok (.ireturn, 1) := by decide +kernel
theorem dX11_both_0 : decode cX11_both 0 = .ok (.iload_n 0, 1) := by decide +kernel
theorem dX11_both_1 : decode cX11_both 1 = .ok (.lookupswitch 148 #[(10, 75), (20, 89), (30, 103), (31, 114), (32, 125), (40, 136), (41, 140), (50, 144)], 75) := by decide +kernel
theorem dX11_both_76 : decode cX11_both 76 = .ok (.iload_n 1, 1) := by decide +kernel
theorem dX11_both_77 : decode cX11_both 77 = .ok (.ifCond .ne 7, 3) := by decide +kernel
theorem dX11_both_80 : decode cX11_both 80 = .ok (.iload_n 2, 1) := by decide +kernel
theorem dX11_both_81 : decode cX11_both 81 = .ok (.ifCond .eq 7, 3) := by decide +kernel
theorem dX11_both_84 : decode cX11_both 84 = .ok (.iconst 1, 1) := by decide +kernel
theorem dX11_both_85 : decode cX11_both 85 = .ok (.goto 4, 3) := by decide +kernel
theorem dX11_both_88 : decode cX11_both 88 = .ok (.iconst 0, 1) := by decide +kernel
theorem dX11_both_89 : decode cX11_both 89 = .ok (.ireturn, 1) := by decide +kernel
theorem dX11_both_90 : decode cX11_both 90 = .ok (.iload_n 1, 1) := by decide +kernel
theorem dX11_both_91 : decode cX11_both 91 = .ok (.ifCond .eq 11, 3) := by decide +kernel
theorem dX11_both_94 : decode cX11_both 94 = .ok (.iload_n 2, 1) := by decide +kernel
theorem dX11_both_95 : decode cX11_both 95 = .ok (.ifCond .eq 7, 3) := by decide +kernel
theorem dX11_both_98 : decode cX11_both 98 = .ok (.iconst 1, 1) := by decide +kernel
theorem dX11_both_99 : decode cX11_both 99 = .ok (.goto 4, 3) := by decide +kernel
theorem dX11_both_102 : decode cX11_both 102 = .ok (.iconst 0, 1) := by decide +kernel
theorem dX11_both_103 : decode cX11_both 103 = .ok (.ireturn, 1) := by decide +kernel
theorem dX11_both_104 : decode cX11_both 104 = .ok (.iload_n 1, 1) := by decide +kernel
theorem dX11_both_105 : decode cX11_both 105 = .ok (.iload_n 2, 1) := by decide +kernel
theorem dX11_both_106 : decode cX11_both 106 = .ok (.if_icmp .ge 7, 3) := by decide +kernel
theorem dX11_both_109 : decode cX11_both 109 = .ok (.iconst 1, 1) := by decide +kernel
theorem dX11_both_110 : decode cX11_both 110 = .ok (.goto 4, 3) := by decide +kernel
theorem dX11_both_113 : decode cX11_both 113 = .ok (.iconst 0, 1) := by decide +kernel
theorem dX11_both_114 : decode cX11_both 114 = .ok (.ireturn, 1) := by decide +kernel
theorem dX11_both_115 : decode cX11_both 115 = .ok (.iload_n 1, 1) := by decide +kernel
theorem dX11_both_116 : decode cX11_both 116 = .ok (.iload_n 2, 1) := by decide +kernel
theorem dX11_both_117 : decode cX11_both 117 = .ok (.if_icmp .ne 7, 3) := by decide +kernel
theorem dX11_both_120 : decode cX11_both 120 = .ok (.iconst 1, 1) := by decide +kernel
theorem dX11_both_121 : decode cX11_both 121 = .ok (.goto 4, 3) := by decide +kernel
theorem dX11_both_124 : decode cX11_both 124 = .ok (.iconst 0, 1) := by decide +kernel
theorem dX11_both_125 : decode cX11_both 125 = .ok (.ireturn, 1) := by decide +kernel
theorem dX11_both_126 : decode cX11_both 126 = .ok (.iload_n 1, 1) := by decide +kernel
theorem dX11_both_127 : decode cX11_both 127 = .ok (.iload_n 2, 1) := by decide +kernel
theorem dX11_both_128 : decode cX11_both 128 = .ok (.if_icmp .le 7, 3) := by decide +kernel
theorem dX11_both_131 : decode cX11_both 131 = .ok (.iconst 1, 1) := by decide +kernel
theorem dX11_both_132 : decode cX11_both 132 = .ok (.goto 4, 3) := by decide +kernel
theorem dX11_both_135 : decode cX11_both 135 = .ok (.iconst 0, 1) := by decide +kernel
theorem dX11_both_136 : decode cX11_both 136 = .ok (.ireturn, 1) := by decide +kernel
theorem dX11_both_137 : decode cX11_both 137 = .ok (.iload_n 1, 1) := by decide +kernel
theorem dX11_both_138 : decode cX11_both 138 = .ok (.iload_n 2, 1) := by decide +kernel
theorem dX11_both_139 : decode cX11_both 139 = .ok (.iadd, 1) := by decide +kernel
theorem dX11_both_140 : decode cX11_both 140 = .ok (.ireturn, 1) := by decide +kernel
theorem dX11_both_141 : decode cX11_both 141 = .ok (.iload_n 1, 1) := by decide +kernel
theorem dX11_both_142 : decode cX11_both 142 = .ok (.iload_n 2, 1) := by decide +kernel
theorem dX11_both_143 : decode cX11_both 143 = .ok (.isub, 1) := by decide +kernel
theorem dX11_both_144 : decode cX11_both 144 = .ok (.ireturn, 1) := by decide +kernel
theorem dX11_both_145 : decode cX11_both 145 = .ok (.iload_n 1, 1) := by decide +kernel
theorem dX11_both_146 : decode cX11_both 146 = .ok (.iload_n 2, 1) := by decide +kernel
theorem dX11_both_147 : decode cX11_both 147 = .ok (.imul, 1) := by decide +kernel
theorem dX11_both_148 : decode cX11_both 148 = .ok (.ireturn, 1) := by decide +kernel
theorem dX11_both_149 : decode cX11_both 149 = .ok (.iload_n 2, 1) := by decide +kernel
theorem dX11_both_150 : decode cX11_both 150 = .ok (.ifCond .ne 7, 3) := by decide +kernel
theorem dX11_both_153 : decode cX11_both 153 = .ok (.iconst 0, 1) := by decide +kernel
theorem dX11_both_154 : decode cX11_both 154 = .ok (.goto 6, 3) := by decide +kernel
theorem dX11_both_157 : decode cX11_both 157 = .ok (.iload_n 1, 1) := by decide +kernel
theorem dX11_both_158 : decode cX11_both 158 = .ok (.iload_n 2, 1) := by decide +kernel
theorem dX11_both_159 : decode cX11_both 159 = .ok (.idiv, 1) := by decide +kernel
theorem dX11_both_160 : decode cX11_both 160 = .ok (.ireturn, 1) := by decide +kernel
theorem dX11_worked_0 : decode cX11_worked 0 = .ok (.iconst 0, 1) := by decide +kernel
theorem dX11_worked_1 : decode cX11_worked 1 = .ok (.istore_n 2, 1) := by decide +kernel
theorem dX11_worked_2 : decode cX11_worked 2 = .ok (.sipush 952, 3) := by decide +kernel
theorem dX11_worked_5 : decode cX11_worked 5 = .ok (.sipush 241, 3) := by decide +kernel
theorem dX11_worked_8 : decode cX11_worked 8 = .ok (.iload_n 1, 1) := by decide +kernel
theorem dX11_worked_9 : decode cX11_worked 9 = .ok (.imul, 1) := by decide +kernel
theorem dX11_worked_10 : decode cX11_worked 10 = .ok (.iadd, 1) := by decide +kernel
theorem dX11_worked_11 : decode cX11_worked 11 = .ok (.istore_n 3, 1) := by decide +kernel
theorem dX11_worked_12 : decode cX11_worked 12 = .ok (.iconst 0, 1) := by decide +kernel
theorem dX11_worked_13 : decode cX11_worked 13 = .ok (.istore 4, 2) := by decide +kernel
theorem dX11_worked_15 : decode cX11_worked 15 = .ok (.iload 4, 2) := by decide +kernel
theorem dX11_worked_17 : decode cX11_worked 17 = .ok (.aload_n 0, 1) := by decide +kernel
theorem dX11_worked_18 : decode cX11_worked 18 = .ok (.getfield 7, 3) := by decide +kernel
theorem dX11_worked_21 : decode cX11_worked 21 = .ok (.iload_n 3, 1) := by decide +kernel
theorem dX11_worked_22 : decode cX11_worked 22 = .ok (.iaload, 1) := by decide +kernel
theorem dX11_worked_23 : decode cX11_worked 23 = .ok (.if_icmp .ge 144, 3) := by decide +kernel
theorem dX11_worked_26 : decode cX11_worked 26 = .ok (.aload_n 0, 1) := by decide +kernel
theorem dX11_worked_27 : decode cX11_worked 27 = .ok (.getfield 7, 3) := by decide +kernel
theorem dX11_worked_30 : decode cX11_worked 30 = .ok (.iload_n 3, 1) := by decide +kernel
theorem dX11_worked_31 : decode cX11_worked 31 = .ok (.iconst 1, 1) := by decide +kernel
theorem dX11_worked_32 : decode cX11_worked 32 = .ok (.iadd, 1) := by decide +kernel
theorem dX11_worked_33 : decode cX11_worked 33 = .ok (.iconst 2, 1) := by decide +kernel
theorem dX11_worked_34 : decode cX11_worked 34 = .ok (.iload 4, 2) := by decide +kernel
theorem dX11_worked_36 : decode cX11_worked 36 = .ok (.imul, 1) := by decide +kernel
theorem dX11_worked_37 : decode cX11_worked 37 = .ok (.iadd, 1) := by decide +kernel
theorem dX11_worked_38 : decode cX11_worked 38 = .ok (.iaload, 1) := by decide +kernel
theorem dX11_worked_39 : decode cX11_worked 39 = .ok (.istore 5, 2) := by decide +kernel
theorem dX11_worked_41 : decode cX11_worked 41 = .ok (.aload_n 0, 1) := by decide +kernel
theorem dX11_worked_42 : decode cX11_worked 42 = .ok (.getfield 7, 3) := by decide +kernel
theorem dX11_worked_45 : decode cX11_worked 45 = .ok (.iload_n 3, 1) := by decide +kernel
theorem dX11_worked_46 : decode cX11_worked 46 = .ok (.iconst 2, 1) := by decide +kernel
theorem dX11_worked_47 : decode cX11_worked 47 = .ok (.iadd, 1) := by decide +kernel
theorem dX11_worked_48 : decode cX11_worked 48 = .ok (.iconst 2, 1) := by decide +kernel
theorem dX11_worked_49 : decode cX11_worked 49 = .ok (.iload 4, 2) := by decide +kernel
theorem dX11_worked_51 : decode cX11_worked 51 = .ok (.imul, 1) := by decide +kernel
theorem dX11_worked_52 : decode cX11_worked 52 = .ok (.iadd, 1) := by decide +kernel
theorem dX11_worked_53 : decode cX11_worked 53 = .ok (.iaload, 1) := by decide +kernel
theorem dX11_worked_54 : decode cX11_worked 54 = .ok (.istore 6, 2) := by decide +kernel
theorem dX11_worked_56 : decode cX11_worked 56 = .ok (.iload 5, 2) := by decide +kernel
theorem dX11_worked_58 : decode cX11_worked 58 = .ok (.iconst 1, 1) := by decide +kernel
theorem dX11_worked_59 : decode cX11_worked 59 = .ok (.if_icmp .eq 9, 3) := by decide +kernel
theorem dX11_worked_62 : decode cX11_worked 62 = .ok (.iload 5, 2) := by decide +kernel
theorem dX11_worked_64 : decode cX11_worked 64 = .ok (.iconst 2, 1) := by decide +kernel
theorem dX11_worked_65 : decode cX11_worked 65 = .ok (.if_icmp .ne 33, 3) := by decide +kernel
theorem dX11_worked_68 : decode cX11_worked 68 = .ok (.aload_n 0, 1) := by decide +kernel
theorem dX11_worked_69 : decode cX11_worked 69 = .ok (.getfield 25, 3) := by decide +kernel
theorem dX11_worked_72 : decode cX11_worked 72 = .ok (.iload_n 2, 1) := by decide +kernel
theorem dX11_worked_73 : decode cX11_worked 73 = .ok (.iload 5, 2) := by decide +kernel
theorem dX11_worked_75 : decode cX11_worked 75 = .ok (.iconst 1, 1) := by decide +kernel
theorem dX11_worked_76 : decode cX11_worked 76 = .ok (.if_icmp .ne 8, 3) := by decide +kernel
theorem dX11_worked_79 : decode cX11_worked 79 = .ok (.iload 6, 2) := by decide +kernel
theorem dX11_worked_81 : decode cX11_worked 81 = .ok (.goto 10, 3) := by decide +kernel
theorem dX11_worked_84 : decode cX11_worked 84 = .ok (.aload_n 0, 1) := by decide +kernel
theorem dX11_worked_85 : decode cX11_worked 85 = .ok (.getfield 28, 3) := by decide +kernel
theorem dX11_worked_88 : decode cX11_worked 88 = .ok (.iload 6, 2) := by decide +kernel
theorem dX11_worked_90 : decode cX11_worked 90 = .ok (.iaload, 1) := by decide +kernel
theorem dX11_worked_91 : decode cX11_worked 91 = .ok (.iastore, 1) := by decide +kernel
theorem dX11_worked_92 : decode cX11_worked 92 = .ok (.iinc 2 1, 3) := by decide +kernel
theorem dX11_worked_95 : decode cX11_worked 95 = .ok (.goto 66, 3) := by decide +kernel
theorem dX11_worked_98 : decode cX11_worked 98 = .ok (.iload 5, 2) := by decide +kernel
theorem dX11_worked_100 : decode cX11_worked 100 = .ok (.iconst 3, 1) := by decide +kernel
theorem dX11_worked_101 : decode cX11_worked 101 = .ok (.if_icmp .ne 30, 3) := by decide +kernel
theorem dX11_worked_104 : decode cX11_worked 104 = .ok (.aload_n 0, 1) := by decide +kernel
theorem dX11_worked_105 : decode cX11_worked 105 = .ok (.getfield 25, 3) := by decide +kernel
theorem dX11_worked_108 : decode cX11_worked 108 = .ok (.iload_n 2, 1) := by decide +kernel
theorem dX11_worked_109 : decode cX11_worked 109 = .ok (.iconst 1, 1) := by decide +kernel
theorem dX11_worked_110 : decode cX11_worked 110 = .ok (.isub, 1) := by decide +kernel
theorem dX11_worked_111 : decode cX11_worked 111 = .ok (.aload_n 0, 1) := by decide +kernel
theorem dX11_worked_112 : decode cX11_worked 112 = .ok (.getfield 25, 3) := by decide +kernel
theorem dX11_worked_115 : decode cX11_worked 115 = .ok (.iload_n 2, 1) := by decide +kernel
theorem dX11_worked_116 : decode cX11_worked 116 = .ok (.iconst 1, 1) := by decide +kernel
theorem dX11_worked_117 : decode cX11_worked 117 = .ok (.isub, 1) := by decide +kernel
theorem dX11_worked_118 : decode cX11_worked 118 = .ok (.iaload, 1) := by decide +kernel
theorem dX11_worked_119 : decode cX11_worked 119 = .ok (.ifCond .ne 7, 3) := by decide +kernel
theorem dX11_worked_122 : decode cX11_worked 122 = .ok (.iconst 1, 1) := by decide +kernel
theorem dX11_worked_123 : decode cX11_worked 123 = .ok (.goto 4, 3) := by decide +kernel
theorem dX11_worked_126 : decode cX11_worked 126 = .ok (.iconst 0, 1) := by decide +kernel
theorem dX11_worked_127 : decode cX11_worked 127 = .ok (.iastore, 1) := by decide +kernel
theorem dX11_worked_128 : decode cX11_worked 128 = .ok (.goto 33, 3) := by decide +kernel
theorem dX11_worked_131 : decode cX11_worked 131 = .ok (.iinc 2 (-1), 3) := by decide +kernel
theorem dX11_worked_134 : decode cX11_worked 134 = .ok (.aload_n 0, 1) := by decide +kernel
theorem dX11_worked_135 : decode cX11_worked 135 = .ok (.getfield 25, 3) := by decide +kernel
theorem dX11_worked_138 : decode cX11_worked 138 = .ok (.iload_n 2, 1) := by decide +kernel
theorem dX11_worked_139 : decode cX11_worked 139 = .ok (.iconst 1, 1) := by decide +kernel
theorem dX11_worked_140 : decode cX11_worked 140 = .ok (.isub, 1) := by decide +kernel
theorem dX11_worked_141 : decode cX11_worked 141 = .ok (.iload 5, 2) := by decide +kernel
theorem dX11_worked_143 : decode cX11_worked 143 = .ok (.aload_n 0, 1) := by decide +kernel
theorem dX11_worked_144 : decode cX11_worked 144 = .ok (.getfield 25, 3) := by decide +kernel
theorem dX11_worked_147 : decode cX11_worked 147 = .ok (.iload_n 2, 1) := by decide +kernel
theorem dX11_worked_148 : decode cX11_worked 148 = .ok (.iconst 1, 1) := by decide +kernel
theorem dX11_worked_149 : decode cX11_worked 149 = .ok (.isub, 1) := by decide +kernel
theorem dX11_worked_150 : decode cX11_worked 150 = .ok (.iaload, 1) := by decide +kernel
theorem dX11_worked_151 : decode cX11_worked 151 = .ok (.aload_n 0, 1) := by decide +kernel
theorem dX11_worked_152 : decode cX11_worked 152 = .ok (.getfield 25, 3) := by decide +kernel
theorem dX11_worked_155 : decode cX11_worked 155 = .ok (.iload_n 2, 1) := by decide +kernel
theorem dX11_worked_156 : decode cX11_worked 156 = .ok (.iaload, 1) := by decide +kernel
theorem dX11_worked_157 : decode cX11_worked 157 = .ok (.invokestatic 189, 3) := by decide +kernel
theorem dX11_worked_160 : decode cX11_worked 160 = .ok (.iastore, 1) := by decide +kernel
theorem dX11_worked_161 : decode cX11_worked 161 = .ok (.iinc 4 1, 3) := by decide +kernel
theorem dX11_worked_164 : decode cX11_worked 164 = .ok (.goto (-149), 3) := by decide +kernel
theorem dX11_worked_167 : decode cX11_worked 167 = .ok (.aload_n 0, 1) := by decide +kernel
theorem dX11_worked_168 : decode cX11_worked 168 = .ok (.getfield 25, 3) := by decide +kernel
theorem dX11_worked_171 : decode cX11_worked 171 = .ok (.iconst 0, 1) := by decide +kernel
theorem dX11_worked_172 : decode cX11_worked 172 = .ok (.iaload, 1) := by decide +kernel
theorem dX11_worked_173 : decode cX11_worked 173 = .ok (.ireturn, 1) := by decide +kernel
theorem dX11_worthOf_0 : decode cX11_worthOf 0 = .ok (.sipush 642, 3) := by decide +kernel
theorem dX11_worthOf_3 : decode cX11_worthOf 3 = .ok (.iconst 5, 1) := by decide +kernel
theorem dX11_worthOf_4 : decode cX11_worthOf 4 = .ok (.iload_n 1, 1) := by decide +kernel
theorem dX11_worthOf_5 : decode cX11_worthOf 5 = .ok (.imul, 1) := by decide +kernel
theorem dX11_worthOf_6 : decode cX11_worthOf 6 = .ok (.iadd, 1) := by decide +kernel
theorem dX11_worthOf_7 : decode cX11_worthOf 7 = .ok (.istore_n 2, 1) := by decide +kernel
theorem dX11_worthOf_8 : decode cX11_worthOf 8 = .ok (.aload_n 0, 1) := by decide +kernel
theorem dX11_worthOf_9 : decode cX11_worthOf 9 = .ok (.getfield 28, 3) := by decide +kernel
theorem dX11_worthOf_12 : decode cX11_worthOf 12 = .ok (.bipush 103, 2) := by decide +kernel
theorem dX11_worthOf_14 : decode cX11_worthOf 14 = .ok (.aload_n 0, 1) := by decide +kernel
theorem dX11_worthOf_15 : decode cX11_worthOf 15 = .ok (.getfield 7, 3) := by decide +kernel
theorem dX11_worthOf_18 : decode cX11_worthOf 18 = .ok (.iload_n 2, 1) := by decide +kernel
theorem dX11_worthOf_19 : decode cX11_worthOf 19 = .ok (.iconst 3, 1) := by decide +kernel
theorem dX11_worthOf_20 : decode cX11_worthOf 20 = .ok (.iadd, 1) := by decide +kernel
theorem dX11_worthOf_21 : decode cX11_worthOf 21 = .ok (.iaload, 1) := by decide +kernel
theorem dX11_worthOf_22 : decode cX11_worthOf 22 = .ok (.iastore, 1) := by decide +kernel
theorem dX11_worthOf_23 : decode cX11_worthOf 23 = .ok (.aload_n 0, 1) := by decide +kernel
theorem dX11_worthOf_24 : decode cX11_worthOf 24 = .ok (.getfield 28, 3) := by decide +kernel
theorem dX11_worthOf_27 : decode cX11_worthOf 27 = .ok (.bipush 112, 2) := by decide +kernel
theorem dX11_worthOf_29 : decode cX11_worthOf 29 = .ok (.aload_n 0, 1) := by decide +kernel
theorem dX11_worthOf_30 : decode cX11_worthOf 30 = .ok (.iload_n 1, 1) := by decide +kernel
theorem dX11_worthOf_31 : decode cX11_worthOf 31 = .ok (.invokevirtual 93, 3) := by decide +kernel
theorem dX11_worthOf_34 : decode cX11_worthOf 34 = .ok (.iastore, 1) := by decide +kernel
theorem dX11_worthOf_35 : decode cX11_worthOf 35 = .ok (.aload_n 0, 1) := by decide +kernel
theorem dX11_worthOf_36 : decode cX11_worthOf 36 = .ok (.getfield 28, 3) := by decide +kernel
theorem dX11_worthOf_39 : decode cX11_worthOf 39 = .ok (.bipush 97, 2) := by decide +kernel
theorem dX11_worthOf_41 : decode cX11_worthOf 41 = .ok (.aload_n 0, 1) := by decide +kernel
theorem dX11_worthOf_42 : decode cX11_worthOf 42 = .ok (.getfield 7, 3) := by decide +kernel
theorem dX11_worthOf_45 : decode cX11_worthOf 45 = .ok (.iload_n 2, 1) := by decide +kernel
theorem dX11_worthOf_46 : decode cX11_worthOf 46 = .ok (.iaload, 1) := by decide +kernel
theorem dX11_worthOf_47 : decode cX11_worthOf 47 = .ok (.iconst 2, 1) := by decide +kernel
theorem dX11_worthOf_48 : decode cX11_worthOf 48 = .ok (.if_icmp .lt 7, 3) := by decide +kernel
theorem dX11_worthOf_51 : decode cX11_worthOf 51 = .ok (.iconst 1, 1) := by decide +kernel
theorem dX11_worthOf_52 : decode cX11_worthOf 52 = .ok (.goto 4, 3) := by decide +kernel
theorem dX11_worthOf_55 : decode cX11_worthOf 55 = .ok (.iconst 0, 1) := by decide +kernel
theorem dX11_worthOf_56 : decode cX11_worthOf 56 = .ok (.iastore, 1) := by decide +kernel
theorem dX11_worthOf_57 : decode cX11_worthOf 57 = .ok (.aload_n 0, 1) := by decide +kernel
theorem dX11_worthOf_58 : decode cX11_worthOf 58 = .ok (.getfield 28, 3) := by decide +kernel
theorem dX11_worthOf_61 : decode cX11_worthOf 61 = .ok (.bipush 107, 2) := by decide +kernel
theorem dX11_worthOf_63 : decode cX11_worthOf 63 = .ok (.aload_n 0, 1) := by decide +kernel
theorem dX11_worthOf_64 : decode cX11_worthOf 64 = .ok (.getfield 7, 3) := by decide +kernel
theorem dX11_worthOf_67 : decode cX11_worthOf 67 = .ok (.iload_n 2, 1) := by decide +kernel
theorem dX11_worthOf_68 : decode cX11_worthOf 68 = .ok (.iaload, 1) := by decide +kernel
theorem dX11_worthOf_69 : decode cX11_worthOf 69 = .ok (.iastore, 1) := by decide +kernel
theorem dX11_worthOf_70 : decode cX11_worthOf 70 = .ok (.aload_n 0, 1) := by decide +kernel
theorem dX11_worthOf_71 : decode cX11_worthOf 71 = .ok (.getfield 28, 3) := by decide +kernel
theorem dX11_worthOf_74 : decode cX11_worthOf 74 = .ok (.bipush 121, 2) := by decide +kernel
theorem dX11_worthOf_76 : decode cX11_worthOf 76 = .ok (.aload_n 0, 1) := by decide +kernel
theorem dX11_worthOf_77 : decode cX11_worthOf 77 = .ok (.aload_n 0, 1) := by decide +kernel
theorem dX11_worthOf_78 : decode cX11_worthOf 78 = .ok (.getfield 7, 3) := by decide +kernel
theorem dX11_worthOf_81 : decode cX11_worthOf 81 = .ok (.iload_n 2, 1) := by decide +kernel
theorem dX11_worthOf_82 : decode cX11_worthOf 82 = .ok (.iconst 1, 1) := by decide +kernel
theorem dX11_worthOf_83 : decode cX11_worthOf 83 = .ok (.iadd, 1) := by decide +kernel
theorem dX11_worthOf_84 : decode cX11_worthOf 84 = .ok (.iaload, 1) := by decide +kernel
theorem dX11_worthOf_85 : decode cX11_worthOf 85 = .ok (.invokevirtual 66, 3) := by decide +kernel
theorem dX11_worthOf_88 : decode cX11_worthOf 88 = .ok (.ifCond .eq 7, 3) := by decide +kernel
theorem dX11_worthOf_91 : decode cX11_worthOf 91 = .ok (.iconst 1, 1) := by decide +kernel
theorem dX11_worthOf_92 : decode cX11_worthOf 92 = .ok (.goto 4, 3) := by decide +kernel
theorem dX11_worthOf_95 : decode cX11_worthOf 95 = .ok (.iconst 0, 1) := by decide +kernel
theorem dX11_worthOf_96 : decode cX11_worthOf 96 = .ok (.iastore, 1) := by decide +kernel
theorem dX11_worthOf_97 : decode cX11_worthOf 97 = .ok (.aload_n 0, 1) := by decide +kernel
theorem dX11_worthOf_98 : decode cX11_worthOf 98 = .ok (.iconst 0, 1) := by decide +kernel
theorem dX11_worthOf_99 : decode cX11_worthOf 99 = .ok (.invokevirtual 192, 3) := by decide +kernel
theorem dX11_worthOf_102 : decode cX11_worthOf 102 = .ok (.aload_n 0, 1) := by decide +kernel
theorem dX11_worthOf_103 : decode cX11_worthOf 103 = .ok (.getfield 7, 3) := by decide +kernel
theorem dX11_worthOf_106 : decode cX11_worthOf 106 = .ok (.iconst 3, 1) := by decide +kernel
theorem dX11_worthOf_107 : decode cX11_worthOf 107 = .ok (.iaload, 1) := by decide +kernel
theorem dX11_worthOf_108 : decode cX11_worthOf 108 = .ok (.invokestatic 75, 3) := by decide +kernel
theorem dX11_worthOf_111 : decode cX11_worthOf 111 = .ok (.aload_n 0, 1) := by decide +kernel
theorem dX11_worthOf_112 : decode cX11_worthOf 112 = .ok (.getfield 7, 3) := by decide +kernel
theorem dX11_worthOf_115 : decode cX11_worthOf 115 = .ok (.iconst 4, 1) := by decide +kernel
theorem dX11_worthOf_116 : decode cX11_worthOf 116 = .ok (.iaload, 1) := by decide +kernel
theorem dX11_worthOf_117 : decode cX11_worthOf 117 = .ok (.invokestatic 195, 3) := by decide +kernel
theorem dX11_worthOf_120 : decode cX11_worthOf 120 = .ok (.ireturn, 1) := by decide +kernel
theorem dX11_worth_0 : decode cX11_worth 0 = .ok (.aload_n 0, 1) := by decide +kernel
theorem dX11_worth_1 : decode cX11_worth 1 = .ok (.iload_n 1, 1) := by decide +kernel
theorem dX11_worth_2 : decode cX11_worth 2 = .ok (.invokevirtual 90, 3) := by decide +kernel
theorem dX11_worth_5 : decode cX11_worth 5 = .ok (.ifCond .ne 6, 3) := by decide +kernel
theorem dX11_worth_8 : decode cX11_worth 8 = .ok (.ldc 60, 2) := by decide +kernel
theorem dX11_worth_10 : decode cX11_worth 10 = .ok (.ireturn, 1) := by decide +kernel
theorem dX11_worth_11 : decode cX11_worth 11 = .ok (.aload_n 0, 1) := by decide +kernel
theorem dX11_worth_12 : decode cX11_worth 12 = .ok (.getfield 7, 3) := by decide +kernel
theorem dX11_worth_15 : decode cX11_worth 15 = .ok (.bipush 21, 2) := by decide +kernel
theorem dX11_worth_17 : decode cX11_worth 17 = .ok (.iaload, 1) := by decide +kernel
theorem dX11_worth_18 : decode cX11_worth 18 = .ok (.ifCond .ne 8, 3) := by decide +kernel
theorem dX11_worth_21 : decode cX11_worth 21 = .ok (.ldc 69, 2) := by decide +kernel
theorem dX11_worth_23 : decode cX11_worth 23 = .ok (.goto 8, 3) := by decide +kernel
theorem dX11_worth_26 : decode cX11_worth 26 = .ok (.aload_n 0, 1) := by decide +kernel
theorem dX11_worth_27 : decode cX11_worth 27 = .ok (.iload_n 1, 1) := by decide +kernel
theorem dX11_worth_28 : decode cX11_worth 28 = .ok (.invokevirtual 198, 3) := by decide +kernel
theorem dX11_worth_31 : decode cX11_worth 31 = .ok (.ireturn, 1) := by decide +kernel
theorem dX11_sumOf_0 : decode cX11_sumOf 0 = .ok (.aload_n 0, 1) := by decide +kernel
theorem dX11_sumOf_1 : decode cX11_sumOf 1 = .ok (.getfield 28, 3) := by decide +kernel
theorem dX11_sumOf_4 : decode cX11_sumOf 4 = .ok (.bipush 105, 2) := by decide +kernel
theorem dX11_sumOf_6 : decode cX11_sumOf 6 = .ok (.aload_n 0, 1) := by decide +kernel
theorem dX11_sumOf_7 : decode cX11_sumOf 7 = .ok (.iload_n 1, 1) := by decide +kernel
theorem dX11_sumOf_8 : decode cX11_sumOf 8 = .ok (.iload_n 2, 1) := by decide +kernel
theorem dX11_sumOf_9 : decode cX11_sumOf 9 = .ok (.iload_n 3, 1) := by decide +kernel
theorem dX11_sumOf_10 : decode cX11_sumOf 10 = .ok (.invokevirtual 83, 3) := by decide +kernel
theorem dX11_sumOf_13 : decode cX11_sumOf 13 = .ok (.iastore, 1) := by decide +kernel
theorem dX11_sumOf_14 : decode cX11_sumOf 14 = .ok (.aload_n 0, 1) := by decide +kernel
theorem dX11_sumOf_15 : decode cX11_sumOf 15 = .ok (.getfield 28, 3) := by decide +kernel
theorem dX11_sumOf_18 : decode cX11_sumOf 18 = .ok (.bipush 110, 2) := by decide +kernel
theorem dX11_sumOf_20 : decode cX11_sumOf 20 = .ok (.aload_n 0, 1) := by decide +kernel
theorem dX11_sumOf_21 : decode cX11_sumOf 21 = .ok (.iload_n 1, 1) := by decide +kernel
theorem dX11_sumOf_22 : decode cX11_sumOf 22 = .ok (.iconst 1, 1) := by decide +kernel
theorem dX11_sumOf_23 : decode cX11_sumOf 23 = .ok (.iload_n 2, 1) := by decide +kernel
