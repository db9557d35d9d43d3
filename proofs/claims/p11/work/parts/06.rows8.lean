theorem dX8_throwsIf_0 : decode cX8_throwsIf 0 = .ok (.iload_n 1, 1) := by decide +kernel
theorem dX8_throwsIf_1 : decode cX8_throwsIf 1 = .ok (.ifCond .eq 8, 3) := by decide +kernel
theorem dX8_throwsIf_4 : decode cX8_throwsIf 4 = .ok (.aload_n 0, 1) := by decide +kernel
theorem dX8_throwsIf_5 : decode cX8_throwsIf 5 = .ok (.iload_n 2, 1) := by decide +kernel
theorem dX8_throwsIf_6 : decode cX8_throwsIf 6 = .ok (.putfield 1, 3) := by decide +kernel
theorem dX8_throwsIf_9 : decode cX8_throwsIf 9 = .ok (.iload_n 1, 1) := by decide +kernel
theorem dX8_throwsIf_10 : decode cX8_throwsIf 10 = .ok (.ireturn, 1) := by decide +kernel
theorem dX8_in_0 : decode cX8_in 0 = .ok (.iload_n 0, 1) := by decide +kernel
theorem dX8_in_1 : decode cX8_in 1 = .ok (.iload_n 1, 1) := by decide +kernel
theorem dX8_in_2 : decode cX8_in 2 = .ok (.if_icmp .lt 12, 3) := by decide +kernel
theorem dX8_in_5 : decode cX8_in 5 = .ok (.iload_n 0, 1) := by decide +kernel
theorem dX8_in_6 : decode cX8_in 6 = .ok (.iload_n 2, 1) := by decide +kernel
theorem dX8_in_7 : decode cX8_in 7 = .ok (.if_icmp .gt 7, 3) := by decide +kernel
theorem dX8_in_10 : decode cX8_in 10 = .ok (.iconst 1, 1) := by decide +kernel
theorem dX8_in_11 : decode cX8_in 11 = .ok (.goto 4, 3) := by decide +kernel
theorem dX8_in_14 : decode cX8_in 14 = .ok (.iconst 0, 1) := by decide +kernel
theorem dX8_in_15 : decode cX8_in 15 = .ok (.ireturn, 1) := by decide +kernel
theorem dX8_init_0 : decode cX8_init 0 = .ok (.aload_n 0, 1) := by decide +kernel
theorem dX8_init_1 : decode cX8_init 1 = .ok (.invokespecial 7, 3) := by decide +kernel
theorem dX8_init_4 : decode cX8_init 4 = .ok (.aload_n 0, 1) := by decide +kernel
theorem dX8_init_5 : decode cX8_init 5 = .ok (.bipush 60, 2) := by decide +kernel
theorem dX8_init_7 : decode cX8_init 7 = .ok (.newarray .int, 2) := by decide +kernel
theorem dX8_init_9 : decode cX8_init 9 = .ok (.putfield 13, 3) := by decide +kernel
theorem dX8_init_12 : decode cX8_init 12 = .ok (.aload_n 0, 1) := by decide +kernel
theorem dX8_init_13 : decode cX8_init 13 = .ok (.bipush 60, 2) := by decide +kernel
theorem dX8_init_15 : decode cX8_init 15 = .ok (.newarray .int, 2) := by decide +kernel
theorem dX8_init_17 : decode cX8_init 17 = .ok (.putfield 17, 3) := by decide +kernel
theorem dX8_init_20 : decode cX8_init 20 = .ok (.aload_n 0, 1) := by decide +kernel
theorem dX8_init_21 : decode cX8_init 21 = .ok (.bipush 60, 2) := by decide +kernel
theorem dX8_init_23 : decode cX8_init 23 = .ok (.newarray .int, 2) := by decide +kernel
theorem dX8_init_25 : decode cX8_init 25 = .ok (.putfield 20, 3) := by decide +kernel
theorem dX8_init_28 : decode cX8_init 28 = .ok (.aload_n 0, 1) := by decide +kernel
theorem dX8_init_29 : decode cX8_init 29 = .ok (.bipush 60, 2) := by decide +kernel
theorem dX8_init_31 : decode cX8_init 31 = .ok (.newarray .int, 2) := by decide +kernel
theorem dX8_init_33 : decode cX8_init 33 = .ok (.putfield 23, 3) := by decide +kernel
theorem dX8_init_36 : decode cX8_init 36 = .ok (.aload_n 0, 1) := by decide +kernel
theorem dX8_init_37 : decode cX8_init 37 = .ok (.bipush 60, 2) := by decide +kernel
theorem dX8_init_39 : decode cX8_init 39 = .ok (.newarray .int, 2) := by decide +kernel
theorem dX8_init_41 : decode cX8_init 41 = .ok (.putfield 26, 3) := by decide +kernel
theorem dX8_init_44 : decode cX8_init 44 = .ok (.aload_n 0, 1) := by decide +kernel
theorem dX8_init_45 : decode cX8_init 45 = .ok (.bipush 60, 2) := by decide +kernel
theorem dX8_init_47 : decode cX8_init 47 = .ok (.newarray .int, 2) := by decide +kernel
theorem dX8_init_49 : decode cX8_init 49 = .ok (.putfield 29, 3) := by decide +kernel
theorem dX8_init_52 : decode cX8_init 52 = .ok (.aload_n 0, 1) := by decide +kernel
theorem dX8_init_53 : decode cX8_init 53 = .ok (.bipush 60, 2) := by decide +kernel
theorem dX8_init_55 : decode cX8_init 55 = .ok (.newarray .int, 2) := by decide +kernel
theorem dX8_init_57 : decode cX8_init 57 = .ok (.putfield 32, 3) := by decide +kernel
theorem dX8_init_60 : decode cX8_init 60 = .ok (.aload_n 0, 1) := by decide +kernel
theorem dX8_init_61 : decode cX8_init 61 = .ok (.bipush 60, 2) := by decide +kernel
theorem dX8_init_63 : decode cX8_init 63 = .ok (.newarray .boolean, 2) := by decide +kernel
theorem dX8_init_65 : decode cX8_init 65 = .ok (.putfield 35, 3) := by decide +kernel
theorem dX8_init_68 : decode cX8_init 68 = .ok (.aload_n 0, 1) := by decide +kernel
theorem dX8_init_69 : decode cX8_init 69 = .ok (.bipush 60, 2) := by decide +kernel
theorem dX8_init_71 : decode cX8_init 71 = .ok (.newarray .boolean, 2) := by decide +kernel
theorem dX8_init_73 : decode cX8_init 73 = .ok (.putfield 39, 3) := by decide +kernel
theorem dX8_init_76 : decode cX8_init 76 = .ok (.aload_n 0, 1) := by decide +kernel
theorem dX8_init_77 : decode cX8_init 77 = .ok (.bipush 60, 2) := by decide +kernel
theorem dX8_init_79 : decode cX8_init 79 = .ok (.newarray .int, 2) := by decide +kernel
theorem dX8_init_81 : decode cX8_init 81 = .ok (.putfield 42, 3) := by decide +kernel
theorem dX8_init_84 : decode cX8_init 84 = .ok (.aload_n 0, 1) := by decide +kernel
theorem dX8_init_85 : decode cX8_init 85 = .ok (.bipush 60, 2) := by decide +kernel
theorem dX8_init_87 : decode cX8_init 87 = .ok (.newarray .int, 2) := by decide +kernel
theorem dX8_init_89 : decode cX8_init 89 = .ok (.putfield 45, 3) := by decide +kernel
theorem dX8_init_92 : decode cX8_init 92 = .ok (.aload_n 0, 1) := by decide +kernel
theorem dX8_init_93 : decode cX8_init 93 = .ok (.bipush 60, 2) := by decide +kernel
theorem dX8_init_95 : decode cX8_init 95 = .ok (.newarray .int, 2) := by decide +kernel
theorem dX8_init_97 : decode cX8_init 97 = .ok (.putfield 48, 3) := by decide +kernel
theorem dX8_init_100 : decode cX8_init 100 = .ok (.aload_n 0, 1) := by decide +kernel
theorem dX8_init_101 : decode cX8_init 101 = .ok (.bipush 60, 2) := by decide +kernel
theorem dX8_init_103 : decode cX8_init 103 = .ok (.newarray .int, 2) := by decide +kernel
theorem dX8_init_105 : decode cX8_init 105 = .ok (.putfield 51, 3) := by decide +kernel
theorem dX8_init_108 : decode cX8_init 108 = .ok (.aload_n 0, 1) := by decide +kernel
theorem dX8_init_109 : decode cX8_init 109 = .ok (.bipush 6, 2) := by decide +kernel
theorem dX8_init_111 : decode cX8_init 111 = .ok (.newarray .int, 2) := by decide +kernel
theorem dX8_init_113 : decode cX8_init 113 = .ok (.dup, 1) := by decide +kernel
theorem dX8_init_114 : decode cX8_init 114 = .ok (.iconst 0, 1) := by decide +kernel
theorem dX8_init_115 : decode cX8_init 115 = .ok (.bipush 15, 2) := by decide +kernel
theorem dX8_init_117 : decode cX8_init 117 = .ok (.iastore, 1) := by decide +kernel
theorem dX8_init_118 : decode cX8_init 118 = .ok (.dup, 1) := by decide +kernel
theorem dX8_init_119 : decode cX8_init 119 = .ok (.iconst 1, 1) := by decide +kernel
theorem dX8_init_120 : decode cX8_init 120 = .ok (.bipush 15, 2) := by decide +kernel
theorem dX8_init_122 : decode cX8_init 122 = .ok (.iastore, 1) := by decide +kernel
theorem dX8_init_123 : decode cX8_init 123 = .ok (.dup, 1) := by decide +kernel
theorem dX8_init_124 : decode cX8_init 124 = .ok (.iconst 2, 1) := by decide +kernel
theorem dX8_init_125 : decode cX8_init 125 = .ok (.bipush 15, 2) := by decide +kernel
theorem dX8_init_127 : decode cX8_init 127 = .ok (.iastore, 1) := by decide +kernel
theorem dX8_init_128 : decode cX8_init 128 = .ok (.dup, 1) := by decide +kernel
theorem dX8_init_129 : decode cX8_init 129 = .ok (.iconst 3, 1) := by decide +kernel
theorem dX8_init_130 : decode cX8_init 130 = .ok (.bipush 15, 2) := by decide +kernel
theorem dX8_init_132 : decode cX8_init 132 = .ok (.iastore, 1) := by decide +kernel
theorem dX8_init_133 : decode cX8_init 133 = .ok (.dup, 1) := by decide +kernel
theorem dX8_init_134 : decode cX8_init 134 = .ok (.iconst 4, 1) := by decide +kernel
theorem dX8_init_135 : decode cX8_init 135 = .ok (.bipush 15, 2) := by decide +kernel
theorem dX8_init_137 : decode cX8_init 137 = .ok (.iastore, 1) := by decide +kernel
theorem dX8_init_138 : decode cX8_init 138 = .ok (.dup, 1) := by decide +kernel
theorem dX8_init_139 : decode cX8_init 139 = .ok (.iconst 5, 1) := by decide +kernel
theorem dX8_init_140 : decode cX8_init 140 = .ok (.bipush 15, 2) := by decide +kernel
theorem dX8_init_142 : decode cX8_init 142 = .ok (.iastore, 1) := by decide +kernel
theorem dX8_init_143 : decode cX8_init 143 = .ok (.putfield 54, 3) := by decide +kernel
theorem dX8_init_146 : decode cX8_init 146 = .ok (.aload_n 0, 1) := by decide +kernel
theorem dX8_init_147 : decode cX8_init 147 = .ok (.bipush 6, 2) := by decide +kernel
theorem dX8_init_149 : decode cX8_init 149 = .ok (.newarray .int, 2) := by decide +kernel
theorem dX8_init_151 : decode cX8_init 151 = .ok (.dup, 1) := by decide +kernel
theorem dX8_init_152 : decode cX8_init 152 = .ok (.iconst 0, 1) := by decide +kernel
theorem dX8_init_153 : decode cX8_init 153 = .ok (.bipush 60, 2) := by decide +kernel
theorem dX8_init_155 : decode cX8_init 155 = .ok (.iastore, 1) := by decide +kernel
theorem dX8_init_156 : decode cX8_init 156 = .ok (.dup, 1) := by decide +kernel
theorem dX8_init_157 : decode cX8_init 157 = .ok (.iconst 1, 1) := by decide +kernel
theorem dX8_init_158 : decode cX8_init 158 = .ok (.bipush 60, 2) := by decide +kernel
theorem dX8_init_160 : decode cX8_init 160 = .ok (.iastore, 1) := by decide +kernel
theorem dX8_init_161 : decode cX8_init 161 = .ok (.dup, 1) := by decide +kernel
theorem dX8_init_162 : decode cX8_init 162 = .ok (.iconst 2, 1) := by decide +kernel
theorem dX8_init_163 : decode cX8_init 163 = .ok (.bipush 60, 2) := by decide +kernel
theorem dX8_init_165 : decode cX8_init 165 = .ok (.iastore, 1) := by decide +kernel
theorem dX8_init_166 : decode cX8_init 166 = .ok (.dup, 1) := by decide +kernel
theorem dX8_init_167 : decode cX8_init 167 = .ok (.iconst 3, 1) := by decide +kernel
theorem dX8_init_168 : decode cX8_init 168 = .ok (.bipush 60, 2) := by decide +kernel
theorem dX8_init_170 : decode cX8_init 170 = .ok (.iastore, 1) := by decide +kernel
theorem dX8_init_171 : decode cX8_init 171 = .ok (.dup, 1) := by decide +kernel
theorem dX8_init_172 : decode cX8_init 172 = .ok (.iconst 4, 1) := by decide +kernel
theorem dX8_init_173 : decode cX8_init 173 = .ok (.bipush 60, 2) := by decide +kernel
theorem dX8_init_175 : decode cX8_init 175 = .ok (.iastore, 1) := by decide +kernel
theorem dX8_init_176 : decode cX8_init 176 = .ok (.dup, 1) := by decide +kernel
theorem dX8_init_177 : decode cX8_init 177 = .ok (.iconst 5, 1) := by decide +kernel
theorem dX8_init_178 : decode cX8_init 178 = .ok (.bipush 60, 2) := by decide +kernel
theorem dX8_init_180 : decode cX8_init 180 = .ok (.iastore, 1) := by decide +kernel
theorem dX8_init_181 : decode cX8_init 181 = .ok (.putfield 57, 3) := by decide +kernel
theorem dX8_init_184 : decode cX8_init 184 = .ok (.aload_n 0, 1) := by decide +kernel
theorem dX8_init_185 : decode cX8_init 185 = .ok (.bipush 6, 2) := by decide +kernel
theorem dX8_init_187 : decode cX8_init 187 = .ok (.newarray .boolean, 2) := by decide +kernel
theorem dX8_init_189 : decode cX8_init 189 = .ok (.putfield 60, 3) := by decide +kernel
theorem dX8_init_192 : decode cX8_init 192 = .ok (.aload_n 0, 1) := by decide +kernel
theorem dX8_init_193 : decode cX8_init 193 = .ok (.bipush 60, 2) := by decide +kernel
theorem dX8_init_195 : decode cX8_init 195 = .ok (.newarray .int, 2) := by decide +kernel
theorem dX8_init_197 : decode cX8_init 197 = .ok (.putfield 63, 3) := by decide +kernel
theorem dX8_init_200 : decode cX8_init 200 = .ok (.aload_n 0, 1) := by decide +kernel
theorem dX8_init_201 : decode cX8_init 201 = .ok (.bipush 60, 2) := by decide +kernel
theorem dX8_init_203 : decode cX8_init 203 = .ok (.newarray .int, 2) := by decide +kernel
theorem dX8_init_205 : decode cX8_init 205 = .ok (.putfield 66, 3) := by decide +kernel
theorem dX8_init_208 : decode cX8_init 208 = .ok (.aload_n 0, 1) := by decide +kernel
theorem dX8_init_209 : decode cX8_init 209 = .ok (.bipush 60, 2) := by decide +kernel
theorem dX8_init_211 : decode cX8_init 211 = .ok (.newarray .int, 2) := by decide +kernel
theorem dX8_init_213 : decode cX8_init 213 = .ok (.putfield 69, 3) := by decide +kernel
theorem dX8_init_216 : decode cX8_init 216 = .ok (.aload_n 0, 1) := by decide +kernel
theorem dX8_init_217 : decode cX8_init 217 = .ok (.bipush 60, 2) := by decide +kernel
theorem dX8_init_219 : decode cX8_init 219 = .ok (.newarray .int, 2) := by decide +kernel
theorem dX8_init_221 : decode cX8_init 221 = .ok (.putfield 72, 3) := by decide +kernel
theorem dX8_init_224 : decode cX8_init 224 = .ok (.aload_n 0, 1) := by decide +kernel
theorem dX8_init_225 : decode cX8_init 225 = .ok (.iconst 5, 1) := by decide +kernel
theorem dX8_init_226 : decode cX8_init 226 = .ok (.newarray .int, 2) := by decide +kernel
theorem dX8_init_228 : decode cX8_init 228 = .ok (.putfield 75, 3) := by decide +kernel
theorem dX8_init_231 : decode cX8_init 231 = .ok (.aload_n 0, 1) := by decide +kernel
theorem dX8_init_232 : decode cX8_init 232 = .ok (.iconst 5, 1) := by decide +kernel
theorem dX8_init_233 : decode cX8_init 233 = .ok (.newarray .int, 2) := by decide +kernel
theorem dX8_init_235 : decode cX8_init 235 = .ok (.putfield 78, 3) := by decide +kernel
theorem dX8_init_238 : decode cX8_init 238 = .ok (.aload_n 0, 1) := by decide +kernel
theorem dX8_init_239 : decode cX8_init 239 = .ok (.sipush 400, 3) := by decide +kernel
theorem dX8_init_242 : decode cX8_init 242 = .ok (.newarray .byte, 2) := by decide +kernel
theorem dX8_init_244 : decode cX8_init 244 = .ok (.putfield 81, 3) := by decide +kernel
theorem dX8_init_247 : decode cX8_init 247 = .ok (.aload_n 0, 1) := by decide +kernel
theorem dX8_init_248 : decode cX8_init 248 = .ok (.iconst (-1), 1) := by decide +kernel
theorem dX8_init_249 : decode cX8_init 249 = .ok (.putfield 85, 3) := by decide +kernel
theorem dX8_init_252 : decode cX8_init 252 = .ok (.aload_n 0, 1) := by decide +kernel
theorem dX8_init_253 : decode cX8_init 253 = .ok (.iconst 5, 1) := by decide +kernel
theorem dX8_init_254 : decode cX8_init 254 = .ok (.newarray .int, 2) := by decide +kernel
theorem dX8_init_256 : decode cX8_init 256 = .ok (.putfield 88, 3) := by decide +kernel
theorem dX8_init_259 : decode cX8_init 259 = .ok (.aload_n 0, 1) := by decide +kernel
theorem dX8_init_260 : decode cX8_init 260 = .ok (.bipush 14, 2) := by decide +kernel
theorem dX8_init_262 : decode cX8_init 262 = .ok (.newarray .int, 2) := by decide +kernel
theorem dX8_init_264 : decode cX8_init 264 = .ok (.putfield 91, 3) := by decide +kernel
theorem dX8_init_267 : decode cX8_init 267 = .ok (.iconst 0, 1) := by decide +kernel
theorem dX8_init_268 : decode cX8_init 268 = .ok (.istore_n 1, 1) := by decide +kernel
theorem dX8_init_269 : decode cX8_init 269 = .ok (.iload_n 1, 1) := by decide +kernel
theorem dX8_init_270 : decode cX8_init 270 = .ok (.bipush 60, 2) := by decide +kernel
theorem dX8_init_272 : decode cX8_init 272 = .ok (.if_icmp .ge 16, 3) := by decide +kernel
theorem dX8_init_275 : decode cX8_init 275 = .ok (.aload_n 0, 1) := by decide +kernel
theorem dX8_init_276 : decode cX8_init 276 = .ok (.getfield 51, 3) := by decide +kernel
theorem dX8_init_279 : decode cX8_init 279 = .ok (.iload_n 1, 1) := by decide +kernel
theorem dX8_init_280 : decode cX8_init 280 = .ok (.iconst (-1), 1) := by decide +kernel
theorem dX8_init_281 : decode cX8_init 281 = .ok (.iastore, 1) := by decide +kernel
theorem dX8_init_282 : decode cX8_init 282 = .ok (.iinc 1 1, 3) := by decide +kernel
theorem dX8_init_285 : decode cX8_init 285 = .ok (.goto (-16), 3) := by decide +kernel
theorem dX8_init_288 : decode cX8_init 288 = .ok (.return_, 1) := by decide +kernel
set_option maxRecDepth 20000 in
theorem ggX8_noLeg_X8_in : GoodIn wsX8_noLeg wsX8_in := goodIn_r _ [5] rfl (by decide +kernel)
set_option maxRecDepth 20000 in
theorem gX8_noLeg_X8_in : GoodIn wsX8_noLeg (va_wsS RX8 97 yX8_in wsX8_in) := goodIn_app (goodIn_of _ (by decide +kernel)) ggX8_noLeg_X8_in
theorem dX8_noLeg_0 : decode cX8_noLeg 0 = .ok (.iload_n 1, 1) := by decide +kernel
theorem dX8_noLeg_1 : decode cX8_noLeg 1 = .ok (.iconst 0, 1) := by decide +kernel
theorem dX8_noLeg_2 : decode cX8_noLeg 2 = .ok (.aload_n 0, 1) := by decide +kernel
theorem dX8_noLeg_3 : decode cX8_noLeg 3 = .ok (.getfield 94, 3) := by decide +kernel
theorem dX8_noLeg_6 : decode cX8_noLeg 6 = .ok (.iconst 1, 1) := by decide +kernel
theorem dX8_noLeg_7 : decode cX8_noLeg 7 = .ok (.isub, 1) := by decide +kernel
theorem dX8_noLeg_8 : decode cX8_noLeg 8 = .ok (.invokestatic 97, 3) := by decide +kernel
theorem dX8_noLeg_11 : decode cX8_noLeg 11 = .ok (.ifCond .ne 7, 3) := by decide +kernel
theorem dX8_noLeg_14 : decode cX8_noLeg 14 = .ok (.iconst 1, 1) := by decide +kernel
theorem dX8_noLeg_15 : decode cX8_noLeg 15 = .ok (.goto 4, 3) := by decide +kernel
theorem dX8_noLeg_18 : decode cX8_noLeg 18 = .ok (.iconst 0, 1) := by decide +kernel
theorem dX8_noLeg_19 : decode cX8_noLeg 19 = .ok (.ireturn, 1) := by decide +kernel
set_option maxRecDepth 20000 in
theorem ggX8_noHook_X8_in : GoodIn wsX8_noHook wsX8_in := goodIn_r _ [4] rfl (by decide +kernel)
set_option maxRecDepth 20000 in
theorem gX8_noHook_X8_in : GoodIn wsX8_noHook (va_wsS RX8 97 yX8_in wsX8_in) := goodIn_app (goodIn_of _ (by decide +kernel)) ggX8_noHook_X8_in
theorem dX8_noHook_0 : decode cX8_noHook 0 = .ok (.iload_n 0, 1) := by decide +kernel
theorem dX8_noHook_1 : decode cX8_noHook 1 = .ok (.iconst 0, 1) := by decide +kernel
theorem dX8_noHook_2 : decode cX8_noHook 2 = .ok (.iconst 5, 1) := by decide +kernel
theorem dX8_noHook_3 : decode cX8_noHook 3 = .ok (.invokestatic 97, 3) := by decide +kernel
theorem dX8_noHook_6 : decode cX8_noHook 6 = .ok (.ifCond .eq 13, 3) := by decide +kernel
theorem dX8_noHook_9 : decode cX8_noHook 9 = .ok (.iload_n 1, 1) := by decide +kernel
theorem dX8_noHook_10 : decode cX8_noHook 10 = .ok (.iconst 0, 1) := by decide +kernel
theorem dX8_noHook_11 : decode cX8_noHook 11 = .ok (.bipush 9, 2) := by decide +kernel
theorem dX8_noHook_13 : decode cX8_noHook 13 = .ok (.invokestatic 97, 3) := by decide +kernel
theorem dX8_noHook_16 : decode cX8_noHook 16 = .ok (.ifCond .ne 7, 3) := by decide +kernel
theorem dX8_noHook_19 : decode cX8_noHook 19 = .ok (.iconst 1, 1) := by decide +kernel
theorem dX8_noHook_20 : decode cX8_noHook 20 = .ok (.goto 4, 3) := by decide +kernel
theorem dX8_noHook_23 : decode cX8_noHook 23 = .ok (.iconst 0, 1) := by decide +kernel
theorem dX8_noHook_24 : decode cX8_noHook 24 = .ok (.ireturn, 1) := by decide +kernel
set_option maxRecDepth 20000 in
theorem ggX8_leg_X8_in : GoodIn wsX8_leg wsX8_in := goodIn_r _ [15] rfl (by decide +kernel)
set_option maxRecDepth 20000 in
theorem gX8_leg_X8_in : GoodIn wsX8_leg (va_wsS RX8 97 yX8_in wsX8_in) := goodIn_app (goodIn_of _ (by decide +kernel)) ggX8_leg_X8_in
set_option maxRecDepth 20000 in
theorem ggX8_leg_X8_throwsIf : GoodIn wsX8_leg wsX8_throwsIf := goodIn_r _ [19, 1, 20, 21, 22, 23, 24, 25, 26, 27, 28, 29, 30, 31, 32, 33, 34, 35, 36, 37, 38, 39, 40, 41, 42, 43, 44, 45, 46, 47, 48, 49, 50, 51, 52, 53] rfl (by decide +kernel)
set_option maxRecDepth 20000 in
theorem gX8_leg_X8_throwsIf : GoodIn wsX8_leg (wsV RX8 101 RX8 yX8_throwsIf wsX8_throwsIf) := goodIn_app (goodIn_of _ (by decide +kernel)) ggX8_leg_X8_throwsIf
theorem dX8_leg_0 : decode cX8_leg 0 = .ok (.aload_n 0, 1) := by decide +kernel
theorem dX8_leg_1 : decode cX8_leg 1 = .ok (.iconst 0, 1) := by decide +kernel
theorem dX8_leg_2 : decode cX8_leg 2 = .ok (.putfield 1, 3) := by decide +kernel
theorem dX8_leg_5 : decode cX8_leg 5 = .ok (.aload_n 0, 1) := by decide +kernel
theorem dX8_leg_6 : decode cX8_leg 6 = .ok (.iload_n 1, 1) := by decide +kernel
theorem dX8_leg_7 : decode cX8_leg 7 = .ok (.iconst 0, 1) := by decide +kernel
theorem dX8_leg_8 : decode cX8_leg 8 = .ok (.bipush 9, 2) := by decide +kernel
theorem dX8_leg_10 : decode cX8_leg 10 = .ok (.invokestatic 97, 3) := by decide +kernel
theorem dX8_leg_13 : decode cX8_leg 13 = .ok (.ifCond .ne 7, 3) := by decide +kernel
theorem dX8_leg_16 : decode cX8_leg 16 = .ok (.iconst 1, 1) := by decide +kernel
theorem dX8_leg_17 : decode cX8_leg 17 = .ok (.goto 4, 3) := by decide +kernel
theorem dX8_leg_20 : decode cX8_leg 20 = .ok (.iconst 0, 1) := by decide +kernel
theorem dX8_leg_21 : decode cX8_leg 21 = .ok (.iconst 1, 1) := by decide +kernel
theorem dX8_leg_22 : decode cX8_leg 22 = .ok (.invokevirtual 101, 3) := by decide +kernel
theorem dX8_leg_25 : decode cX8_leg 25 = .ok (.ifCond .ne 62, 3) := by decide +kernel
theorem dX8_leg_28 : decode cX8_leg 28 = .ok (.aload_n 0, 1) := by decide +kernel
theorem dX8_leg_29 : decode cX8_leg 29 = .ok (.iload_n 2, 1) := by decide +kernel
theorem dX8_leg_30 : decode cX8_leg 30 = .ok (.iconst 0, 1) := by decide +kernel
theorem dX8_leg_31 : decode cX8_leg 31 = .ok (.sipush 9999, 3) := by decide +kernel
theorem dX8_leg_34 : decode cX8_leg 34 = .ok (.invokestatic 97, 3) := by decide +kernel
theorem dX8_leg_37 : decode cX8_leg 37 = .ok (.ifCond .eq 16, 3) := by decide +kernel
theorem dX8_leg_40 : decode cX8_leg 40 = .ok (.iload_n 3, 1) := by decide +kernel
theorem dX8_leg_41 : decode cX8_leg 41 = .ok (.sipush 5000, 3) := by decide +kernel
theorem dX8_leg_44 : decode cX8_leg 44 = .ok (.sipush 15000, 3) := by decide +kernel
theorem dX8_leg_47 : decode cX8_leg 47 = .ok (.invokestatic 97, 3) := by decide +kernel
theorem dX8_leg_50 : decode cX8_leg 50 = .ok (.ifCond .ne 7, 3) := by decide +kernel
theorem dX8_leg_53 : decode cX8_leg 53 = .ok (.iconst 1, 1) := by decide +kernel
theorem dX8_leg_54 : decode cX8_leg 54 = .ok (.goto 4, 3) := by decide +kernel
theorem dX8_leg_57 : decode cX8_leg 57 = .ok (.iconst 0, 1) := by decide +kernel
theorem dX8_leg_58 : decode cX8_leg 58 = .ok (.iconst 2, 1) := by decide +kernel
theorem dX8_leg_59 : decode cX8_leg 59 = .ok (.invokevirtual 101, 3) := by decide +kernel
theorem dX8_leg_62 : decode cX8_leg 62 = .ok (.ifCond .ne 25, 3) := by decide +kernel
theorem dX8_leg_65 : decode cX8_leg 65 = .ok (.aload_n 0, 1) := by decide +kernel
theorem dX8_leg_66 : decode cX8_leg 66 = .ok (.aload_n 0, 1) := by decide +kernel
theorem dX8_leg_67 : decode cX8_leg 67 = .ok (.getfield 94, 3) := by decide +kernel
theorem dX8_leg_70 : decode cX8_leg 70 = .ok (.bipush 60, 2) := by decide +kernel
theorem dX8_leg_72 : decode cX8_leg 72 = .ok (.if_icmp .ne 7, 3) := by decide +kernel
theorem dX8_leg_75 : decode cX8_leg 75 = .ok (.iconst 1, 1) := by decide +kernel
theorem dX8_leg_76 : decode cX8_leg 76 = .ok (.goto 4, 3) := by decide +kernel
theorem dX8_leg_79 : decode cX8_leg 79 = .ok (.iconst 0, 1) := by decide +kernel
theorem dX8_leg_80 : decode cX8_leg 80 = .ok (.iconst 3, 1) := by decide +kernel
theorem dX8_leg_81 : decode cX8_leg 81 = .ok (.invokevirtual 101, 3) := by decide +kernel
theorem dX8_leg_84 : decode cX8_leg 84 = .ok (.ifCond .eq 5, 3) := by decide +kernel
theorem dX8_leg_87 : decode cX8_leg 87 = .ok (.iconst 0, 1) := by decide +kernel
theorem dX8_leg_88 : decode cX8_leg 88 = .ok (.ireturn, 1) := by decide +kernel
theorem dX8_leg_89 : decode cX8_leg 89 = .ok (.iconst 0, 1) := by decide +kernel
theorem dX8_leg_90 : decode cX8_leg 90 = .ok (.istore 4, 2) := by decide +kernel
theorem dX8_leg_92 : decode cX8_leg 92 = .ok (.iconst 0, 1) := by decide +kernel
theorem dX8_leg_93 : decode cX8_leg 93 = .ok (.istore 5, 2) := by decide +kernel
theorem dX8_leg_95 : decode cX8_leg 95 = .ok (.iload 5, 2) := by decide +kernel
theorem dX8_leg_97 : decode cX8_leg 97 = .ok (.aload_n 0, 1) := by decide +kernel
theorem dX8_leg_98 : decode cX8_leg 98 = .ok (.getfield 94, 3) := by decide +kernel
theorem dX8_leg_101 : decode cX8_leg 101 = .ok (.if_icmp .ge 30, 3) := by decide +kernel
theorem dX8_leg_104 : decode cX8_leg 104 = .ok (.iload 4, 2) := by decide +kernel
theorem dX8_leg_106 : decode cX8_leg 106 = .ok (.aload_n 0, 1) := by decide +kernel
theorem dX8_leg_107 : decode cX8_leg 107 = .ok (.getfield 17, 3) := by decide +kernel
theorem dX8_leg_110 : decode cX8_leg 110 = .ok (.iload 5, 2) := by decide +kernel
theorem dX8_leg_112 : decode cX8_leg 112 = .ok (.iaload, 1) := by decide +kernel
theorem dX8_leg_113 : decode cX8_leg 113 = .ok (.iload_n 2, 1) := by decide +kernel
theorem dX8_leg_114 : decode cX8_leg 114 = .ok (.if_icmp .ne 7, 3) := by decide +kernel
theorem dX8_leg_117 : decode cX8_leg 117 = .ok (.iconst 1, 1) := by decide +kernel
theorem dX8_leg_118 : decode cX8_leg 118 = .ok (.goto 4, 3) := by decide +kernel
theorem dX8_leg_121 : decode cX8_leg 121 = .ok (.iconst 0, 1) := by decide +kernel
theorem dX8_leg_122 : decode cX8_leg 122 = .ok (.iadd, 1) := by decide +kernel
theorem dX8_leg_123 : decode cX8_leg 123 = .ok (.istore 4, 2) := by decide +kernel
theorem dX8_leg_125 : decode cX8_leg 125 = .ok (.iinc 5 1, 3) := by decide +kernel
theorem dX8_leg_128 : decode cX8_leg 128 = .ok (.goto (-33), 3) := by decide +kernel
theorem dX8_leg_131 : decode cX8_leg 131 = .ok (.iload 4, 2) := by decide +kernel
theorem dX8_leg_133 : decode cX8_leg 133 = .ok (.iconst 2, 1) := by decide +kernel
theorem dX8_leg_134 : decode cX8_leg 134 = .ok (.if_icmp .ne 5, 3) := by decide +kernel
theorem dX8_leg_137 : decode cX8_leg 137 = .ok (.iconst (-1), 1) := by decide +kernel
theorem dX8_leg_138 : decode cX8_leg 138 = .ok (.ireturn, 1) := by decide +kernel
theorem dX8_leg_139 : decode cX8_leg 139 = .ok (.aload_n 0, 1) := by decide +kernel
theorem dX8_leg_140 : decode cX8_leg 140 = .ok (.getfield 13, 3) := by decide +kernel
theorem dX8_leg_143 : decode cX8_leg 143 = .ok (.aload_n 0, 1) := by decide +kernel
theorem dX8_leg_144 : decode cX8_leg 144 = .ok (.getfield 94, 3) := by decide +kernel
theorem dX8_leg_147 : decode cX8_leg 147 = .ok (.iload_n 1, 1) := by decide +kernel
theorem dX8_leg_148 : decode cX8_leg 148 = .ok (.iastore, 1) := by decide +kernel
theorem dX8_leg_149 : decode cX8_leg 149 = .ok (.aload_n 0, 1) := by decide +kernel
theorem dX8_leg_150 : decode cX8_leg 150 = .ok (.getfield 17, 3) := by decide +kernel
theorem dX8_leg_153 : decode cX8_leg 153 = .ok (.aload_n 0, 1) := by decide +kernel
theorem dX8_leg_154 : decode cX8_leg 154 = .ok (.getfield 94, 3) := by decide +kernel
theorem dX8_leg_157 : decode cX8_leg 157 = .ok (.iload_n 2, 1) := by decide +kernel
theorem dX8_leg_158 : decode cX8_leg 158 = .ok (.iastore, 1) := by decide +kernel
theorem dX8_leg_159 : decode cX8_leg 159 = .ok (.aload_n 0, 1) := by decide +kernel
theorem dX8_leg_160 : decode cX8_leg 160 = .ok (.getfield 20, 3) := by decide +kernel
theorem dX8_leg_163 : decode cX8_leg 163 = .ok (.aload_n 0, 1) := by decide +kernel
theorem dX8_leg_164 : decode cX8_leg 164 = .ok (.getfield 94, 3) := by decide +kernel
theorem dX8_leg_167 : decode cX8_leg 167 = .ok (.aload_n 0, 1) := by decide +kernel
theorem dX8_leg_168 : decode cX8_leg 168 = .ok (.getfield 105, 3) := by decide +kernel
theorem dX8_leg_171 : decode cX8_leg 171 = .ok (.iastore, 1) := by decide +kernel
theorem dX8_leg_172 : decode cX8_leg 172 = .ok (.aload_n 0, 1) := by decide +kernel
theorem dX8_leg_173 : decode cX8_leg 173 = .ok (.getfield 23, 3) := by decide +kernel
theorem dX8_leg_176 : decode cX8_leg 176 = .ok (.aload_n 0, 1) := by decide +kernel
theorem dX8_leg_177 : decode cX8_leg 177 = .ok (.getfield 94, 3) := by decide +kernel
theorem dX8_leg_180 : decode cX8_leg 180 = .ok (.iload_n 3, 1) := by decide +kernel
theorem dX8_leg_181 : decode cX8_leg 181 = .ok (.iastore, 1) := by decide +kernel
theorem dX8_leg_182 : decode cX8_leg 182 = .ok (.aload_n 0, 1) := by decide +kernel
theorem dX8_leg_183 : decode cX8_leg 183 = .ok (.getfield 26, 3) := by decide +kernel
theorem dX8_leg_186 : decode cX8_leg 186 = .ok (.aload_n 0, 1) := by decide +kernel
theorem dX8_leg_187 : decode cX8_leg 187 = .ok (.getfield 94, 3) := by decide +kernel
theorem dX8_leg_190 : decode cX8_leg 190 = .ok (.iload_n 3, 1) := by decide +kernel
theorem dX8_leg_191 : decode cX8_leg 191 = .ok (.iastore, 1) := by decide +kernel
theorem dX8_leg_192 : decode cX8_leg 192 = .ok (.aload_n 0, 1) := by decide +kernel
theorem dX8_leg_193 : decode cX8_leg 193 = .ok (.getfield 42, 3) := by decide +kernel
theorem dX8_leg_196 : decode cX8_leg 196 = .ok (.aload_n 0, 1) := by decide +kernel
theorem dX8_leg_197 : decode cX8_leg 197 = .ok (.getfield 94, 3) := by decide +kernel
theorem dX8_leg_200 : decode cX8_leg 200 = .ok (.iconst (-1), 1) := by decide +kernel
theorem dX8_leg_201 : decode cX8_leg 201 = .ok (.iastore, 1) := by decide +kernel
theorem dX8_leg_202 : decode cX8_leg 202 = .ok (.aload_n 0, 1) := by decide +kernel
theorem dX8_leg_203 : decode cX8_leg 203 = .ok (.getfield 45, 3) := by decide +kernel
theorem dX8_leg_206 : decode cX8_leg 206 = .ok (.aload_n 0, 1) := by decide +kernel
theorem dX8_leg_207 : decode cX8_leg 207 = .ok (.getfield 94, 3) := by decide +kernel
theorem dX8_leg_210 : decode cX8_leg 210 = .ok (.iconst (-1), 1) := by decide +kernel
theorem dX8_leg_211 : decode cX8_leg 211 = .ok (.iastore, 1) := by decide +kernel
theorem dX8_leg_212 : decode cX8_leg 212 = .ok (.aload_n 0, 1) := by decide +kernel
theorem dX8_leg_213 : decode cX8_leg 213 = .ok (.getfield 48, 3) := by decide +kernel
theorem dX8_leg_216 : decode cX8_leg 216 = .ok (.aload_n 0, 1) := by decide +kernel
theorem dX8_leg_217 : decode cX8_leg 217 = .ok (.getfield 94, 3) := by decide +kernel
theorem dX8_leg_220 : decode cX8_leg 220 = .ok (.iconst (-1), 1) := by decide +kernel
theorem dX8_leg_221 : decode cX8_leg 221 = .ok (.iastore, 1) := by decide +kernel
theorem dX8_leg_222 : decode cX8_leg 222 = .ok (.aload_n 0, 1) := by decide +kernel
theorem dX8_leg_223 : decode cX8_leg 223 = .ok (.dup, 1) := by decide +kernel
theorem dX8_leg_224 : decode cX8_leg 224 = .ok (.getfield 94, 3) := by decide +kernel
theorem dX8_leg_227 : decode cX8_leg 227 = .ok (.iconst 1, 1) := by decide +kernel
theorem dX8_leg_228 : decode cX8_leg 228 = .ok (.iadd, 1) := by decide +kernel
theorem dX8_leg_229 : decode cX8_leg 229 = .ok (.putfield 94, 3) := by decide +kernel
theorem dX8_leg_232 : decode cX8_leg 232 = .ok (.aload_n 0, 1) := by decide +kernel
theorem dX8_leg_233 : decode cX8_leg 233 = .ok (.getfield 94, 3) := by decide +kernel
theorem dX8_leg_236 : decode cX8_leg 236 = .ok (.iconst 1, 1) := by decide +kernel
theorem dX8_leg_237 : decode cX8_leg 237 = .ok (.isub, 1) := by decide +kernel
theorem dX8_leg_238 : decode cX8_leg 238 = .ok (.ireturn, 1) := by decide +kernel
theorem dX8_leaves_0 : decode cX8_leaves 0 = .ok (.aload_n 0, 1) := by decide +kernel
theorem dX8_leaves_1 : decode cX8_leaves 1 = .ok (.getfield 45, 3) := by decide +kernel
theorem dX8_leaves_4 : decode cX8_leaves 4 = .ok (.iload_n 1, 1) := by decide +kernel
theorem dX8_leaves_5 : decode cX8_leaves 5 = .ok (.iaload, 1) := by decide +kernel
theorem dX8_leaves_6 : decode cX8_leaves 6 = .ok (.ifCond .lt 15, 3) := by decide +kernel
theorem dX8_leaves_9 : decode cX8_leaves 9 = .ok (.aload_n 0, 1) := by decide +kernel
theorem dX8_leaves_10 : decode cX8_leaves 10 = .ok (.getfield 51, 3) := by decide +kernel
theorem dX8_leaves_13 : decode cX8_leaves 13 = .ok (.aload_n 0, 1) := by decide +kernel
theorem dX8_leaves_14 : decode cX8_leaves 14 = .ok (.getfield 45, 3) := by decide +kernel
theorem dX8_leaves_17 : decode cX8_leaves 17 = .ok (.iload_n 1, 1) := by decide +kernel
theorem dX8_leaves_18 : decode cX8_leaves 18 = .ok (.iaload, 1) := by decide +kernel
theorem dX8_leaves_19 : decode cX8_leaves 19 = .ok (.iconst (-1), 1) := by decide +kernel
theorem dX8_leaves_20 : decode cX8_leaves 20 = .ok (.iastore, 1) := by decide +kernel
theorem dX8_leaves_21 : decode cX8_leaves 21 = .ok (.aload_n 0, 1) := by decide +kernel
theorem dX8_leaves_22 : decode cX8_leaves 22 = .ok (.getfield 45, 3) := by decide +kernel
theorem dX8_leaves_25 : decode cX8_leaves 25 = .ok (.iload_n 1, 1) := by decide +kernel
theorem dX8_leaves_26 : decode cX8_leaves 26 = .ok (.iconst (-1), 1) := by decide +kernel
theorem dX8_leaves_27 : decode cX8_leaves 27 = .ok (.iastore, 1) := by decide +kernel
theorem dX8_leaves_28 : decode cX8_leaves 28 = .ok (.return_, 1) := by decide +kernel
set_option maxRecDepth 20000 in
theorem ggX8_hang_X8_noLeg : GoodIn wsX8_hang wsX8_noLeg := goodIn_r _ [9, 10, 11, 12, 8, 13, 25, 26, 27, 28, 29, 30, 31, 32, 33, 34, 35, 36, 37, 38, 39, 40, 41, 42, 43, 44, 45, 46, 47, 48, 49, 50, 51, 52, 53, 54, 55, 56, 57, 58] rfl (by decide +kernel)
set_option maxRecDepth 20000 in
theorem gX8_hang_X8_noLeg : GoodIn wsX8_hang (wsV RX8 108 RX8 yX8_noLeg wsX8_noLeg) := goodIn_app (goodIn_of _ (by decide +kernel)) ggX8_hang_X8_noLeg
set_option maxRecDepth 20000 in
theorem ggX8_hang_X8_noHook : GoodIn wsX8_hang wsX8_noHook := goodIn_r _ [16, 11, 12, 8, 13] rfl (by decide +kernel)
set_option maxRecDepth 20000 in
theorem gX8_hang_X8_noHook : GoodIn wsX8_hang (va_wsS RX8 112 yX8_noHook wsX8_noHook) := goodIn_app (goodIn_of _ (by decide +kernel)) ggX8_hang_X8_noHook
set_option maxRecDepth 20000 in
theorem ggX8_hang_X8_throwsIf : GoodIn wsX8_hang wsX8_throwsIf := goodIn_r _ [20, 1, 25, 26, 27, 28, 29, 30, 31, 32, 33, 34, 35, 36, 37, 38, 39, 40, 41, 42, 43, 44, 45, 46, 47, 48, 49, 50, 51, 52, 53, 54, 55, 56, 57, 58] rfl (by decide +kernel)
set_option maxRecDepth 20000 in
theorem gX8_hang_X8_throwsIf : GoodIn wsX8_hang (wsV RX8 101 RX8 yX8_throwsIf wsX8_throwsIf) := goodIn_app (goodIn_of _ (by decide +kernel)) ggX8_hang_X8_throwsIf
set_option maxRecDepth 20000 in
theorem ggX8_hang_X8_leaves : GoodIn wsX8_hang wsX8_leaves := goodIn_r _ [24, 4, 3, 25, 26, 27, 28, 29, 30, 31, 32, 33, 34, 35, 36, 37, 38, 39, 40, 41, 42, 43, 44, 45, 46, 47, 48, 49, 50, 51, 52, 53, 54, 55, 56, 57, 58] rfl (by decide +kernel)
set_option maxRecDepth 20000 in
theorem gX8_hang_X8_leaves : GoodIn wsX8_hang (wsV RX8 116 RX8 yX8_leaves wsX8_leaves) := goodIn_app (goodIn_of _ (by decide +kernel)) ggX8_hang_X8_leaves
theorem dX8_hang_0 : decode cX8_hang 0 = .ok (.aload_n 0, 1) := by decide +kernel
theorem dX8_hang_1 : decode cX8_hang 1 = .ok (.iconst 0, 1) := by decide +kernel
theorem dX8_hang_2 : decode cX8_hang 2 = .ok (.putfield 1, 3) := by decide +kernel
theorem dX8_hang_5 : decode cX8_hang 5 = .ok (.aload_n 0, 1) := by decide +kernel
theorem dX8_hang_6 : decode cX8_hang 6 = .ok (.aload_n 0, 1) := by decide +kernel
theorem dX8_hang_7 : decode cX8_hang 7 = .ok (.iload_n 1, 1) := by decide +kernel
theorem dX8_hang_8 : decode cX8_hang 8 = .ok (.invokevirtual 108, 3) := by decide +kernel
theorem dX8_hang_11 : decode cX8_hang 11 = .ok (.ifCond .ne 11, 3) := by decide +kernel
theorem dX8_hang_14 : decode cX8_hang 14 = .ok (.iload_n 2, 1) := by decide +kernel
theorem dX8_hang_15 : decode cX8_hang 15 = .ok (.iload_n 3, 1) := by decide +kernel
theorem dX8_hang_16 : decode cX8_hang 16 = .ok (.invokestatic 112, 3) := by decide +kernel
theorem dX8_hang_19 : decode cX8_hang 19 = .ok (.ifCond .eq 7, 3) := by decide +kernel
theorem dX8_hang_22 : decode cX8_hang 22 = .ok (.iconst 1, 1) := by decide +kernel
theorem dX8_hang_23 : decode cX8_hang 23 = .ok (.goto 4, 3) := by decide +kernel
theorem dX8_hang_26 : decode cX8_hang 26 = .ok (.iconst 0, 1) := by decide +kernel
theorem dX8_hang_27 : decode cX8_hang 27 = .ok (.iconst 1, 1) := by decide +kernel
theorem dX8_hang_28 : decode cX8_hang 28 = .ok (.invokevirtual 101, 3) := by decide +kernel
theorem dX8_hang_31 : decode cX8_hang 31 = .ok (.ifCond .ne 26, 3) := by decide +kernel
theorem dX8_hang_34 : decode cX8_hang 34 = .ok (.aload_n 0, 1) := by decide +kernel
theorem dX8_hang_35 : decode cX8_hang 35 = .ok (.getfield 39, 3) := by decide +kernel
theorem dX8_hang_38 : decode cX8_hang 38 = .ok (.iload_n 1, 1) := by decide +kernel
theorem dX8_hang_39 : decode cX8_hang 39 = .ok (.baload, 1) := by decide +kernel
theorem dX8_hang_40 : decode cX8_hang 40 = .ok (.ifCond .ne 17, 3) := by decide +kernel
theorem dX8_hang_43 : decode cX8_hang 43 = .ok (.aload_n 0, 1) := by decide +kernel
theorem dX8_hang_44 : decode cX8_hang 44 = .ok (.getfield 51, 3) := by decide +kernel
theorem dX8_hang_47 : decode cX8_hang 47 = .ok (.bipush 10, 2) := by decide +kernel
theorem dX8_hang_49 : decode cX8_hang 49 = .ok (.iload_n 2, 1) := by decide +kernel
theorem dX8_hang_50 : decode cX8_hang 50 = .ok (.imul, 1) := by decide +kernel
theorem dX8_hang_51 : decode cX8_hang 51 = .ok (.iload_n 3, 1) := by decide +kernel
theorem dX8_hang_52 : decode cX8_hang 52 = .ok (.iadd, 1) := by decide +kernel
theorem dX8_hang_53 : decode cX8_hang 53 = .ok (.iaload, 1) := by decide +kernel
theorem dX8_hang_54 : decode cX8_hang 54 = .ok (.ifCond .lt 5, 3) := by decide +kernel
theorem dX8_hang_57 : decode cX8_hang 57 = .ok (.iconst 0, 1) := by decide +kernel
theorem dX8_hang_58 : decode cX8_hang 58 = .ok (.ireturn, 1) := by decide +kernel
theorem dX8_hang_59 : decode cX8_hang 59 = .ok (.aload_n 0, 1) := by decide +kernel
theorem dX8_hang_60 : decode cX8_hang 60 = .ok (.iload_n 1, 1) := by decide +kernel
theorem dX8_hang_61 : decode cX8_hang 61 = .ok (.invokevirtual 116, 3) := by decide +kernel
theorem dX8_hang_64 : decode cX8_hang 64 = .ok (.aload_n 0, 1) := by decide +kernel
theorem dX8_hang_65 : decode cX8_hang 65 = .ok (.getfield 45, 3) := by decide +kernel
theorem dX8_hang_68 : decode cX8_hang 68 = .ok (.iload_n 1, 1) := by decide +kernel
theorem dX8_hang_69 : decode cX8_hang 69 = .ok (.bipush 10, 2) := by decide +kernel
theorem dX8_hang_71 : decode cX8_hang 71 = .ok (.iload_n 2, 1) := by decide +kernel
theorem dX8_hang_72 : decode cX8_hang 72 = .ok (.imul, 1) := by decide +kernel
theorem dX8_hang_73 : decode cX8_hang 73 = .ok (.iload_n 3, 1) := by decide +kernel
theorem dX8_hang_74 : decode cX8_hang 74 = .ok (.iadd, 1) := by decide +kernel
theorem dX8_hang_75 : decode cX8_hang 75 = .ok (.iastore, 1) := by decide +kernel
theorem dX8_hang_76 : decode cX8_hang 76 = .ok (.aload_n 0, 1) := by decide +kernel
theorem dX8_hang_77 : decode cX8_hang 77 = .ok (.getfield 51, 3) := by decide +kernel
theorem dX8_hang_80 : decode cX8_hang 80 = .ok (.aload_n 0, 1) := by decide +kernel
theorem dX8_hang_81 : decode cX8_hang 81 = .ok (.getfield 45, 3) := by decide +kernel
theorem dX8_hang_84 : decode cX8_hang 84 = .ok (.iload_n 1, 1) := by decide +kernel
theorem dX8_hang_85 : decode cX8_hang 85 = .ok (.iaload, 1) := by decide +kernel
theorem dX8_hang_86 : decode cX8_hang 86 = .ok (.iload_n 1, 1) := by decide +kernel
theorem dX8_hang_87 : decode cX8_hang 87 = .ok (.iastore, 1) := by decide +kernel
theorem dX8_hang_88 : decode cX8_hang 88 = .ok (.iconst 1, 1) := by decide +kernel
theorem dX8_hang_89 : decode cX8_hang 89 = .ok (.ireturn, 1) := by decide +kernel
set_option maxRecDepth 20000 in
theorem ggX8_take_X8_noLeg : GoodIn wsX8_take wsX8_noLeg := goodIn_r _ [7, 8, 9, 10, 6, 11, 21, 22, 23, 24, 25, 26, 27, 28, 29, 30, 31, 32, 33, 34, 35, 36, 37, 38, 39, 40, 41, 42, 43, 44, 45, 46, 47, 48, 49, 50, 51, 52, 53, 54] rfl (by decide +kernel)
set_option maxRecDepth 20000 in
theorem gX8_take_X8_noLeg : GoodIn wsX8_take (wsV RX8 108 RX8 yX8_noLeg wsX8_noLeg) := goodIn_app (goodIn_of _ (by decide +kernel)) ggX8_take_X8_noLeg
set_option maxRecDepth 20000 in
theorem ggX8_take_X8_throwsIf : GoodIn wsX8_take wsX8_throwsIf := goodIn_r _ [15, 1, 21, 22, 23, 24, 25, 26, 27, 28, 29, 30, 31, 32, 33, 34, 35, 36, 37, 38, 39, 40, 41, 42, 43, 44, 45, 46, 47, 48, 49, 50, 51, 52, 53, 54] rfl (by decide +kernel)
set_option maxRecDepth 20000 in
theorem gX8_take_X8_throwsIf : GoodIn wsX8_take (wsV RX8 101 RX8 yX8_throwsIf wsX8_throwsIf) := goodIn_app (goodIn_of _ (by decide +kernel)) ggX8_take_X8_throwsIf
set_option maxRecDepth 20000 in
theorem ggX8_take_X8_leaves : GoodIn wsX8_take wsX8_leaves := goodIn_r _ [19, 2, 20, 21, 22, 23, 24, 25, 26, 27, 28, 29, 30, 31, 32, 33, 34, 35, 36, 37, 38, 39, 40, 41, 42, 43, 44, 45, 46, 47, 48, 49, 50, 51, 52, 53, 54] rfl (by decide +kernel)
set_option maxRecDepth 20000 in
theorem gX8_take_X8_leaves : GoodIn wsX8_take (wsV RX8 116 RX8 yX8_leaves wsX8_leaves) := goodIn_app (goodIn_of _ (by decide +kernel)) ggX8_take_X8_leaves
theorem dX8_take_0 : decode cX8_take 0 = .ok (.aload_n 0, 1) := by decide +kernel
theorem dX8_take_1 : decode cX8_take 1 = .ok (.iconst 0, 1) := by decide +kernel
theorem dX8_take_2 : decode cX8_take 2 = .ok (.putfield 1, 3) := by decide +kernel
theorem dX8_take_5 : decode cX8_take 5 = .ok (.aload_n 0, 1) := by decide +kernel
theorem dX8_take_6 : decode cX8_take 6 = .ok (.aload_n 0, 1) := by decide +kernel
theorem dX8_take_7 : decode cX8_take 7 = .ok (.iload_n 1, 1) := by decide +kernel
theorem dX8_take_8 : decode cX8_take 8 = .ok (.invokevirtual 108, 3) := by decide +kernel
theorem dX8_take_11 : decode cX8_take 11 = .ok (.iconst 1, 1) := by decide +kernel
theorem dX8_take_12 : decode cX8_take 12 = .ok (.invokevirtual 101, 3) := by decide +kernel
theorem dX8_take_15 : decode cX8_take 15 = .ok (.ifCond .ne 12, 3) := by decide +kernel
theorem dX8_take_18 : decode cX8_take 18 = .ok (.aload_n 0, 1) := by decide +kernel
theorem dX8_take_19 : decode cX8_take 19 = .ok (.getfield 45, 3) := by decide +kernel
theorem dX8_take_22 : decode cX8_take 22 = .ok (.iload_n 1, 1) := by decide +kernel
theorem dX8_take_23 : decode cX8_take 23 = .ok (.iaload, 1) := by decide +kernel
theorem dX8_take_24 : decode cX8_take 24 = .ok (.ifCond .ge 5, 3) := by decide +kernel
theorem dX8_take_27 : decode cX8_take 27 = .ok (.iconst 0, 1) := by decide +kernel
theorem dX8_take_28 : decode cX8_take 28 = .ok (.ireturn, 1) := by decide +kernel
theorem dX8_take_29 : decode cX8_take 29 = .ok (.aload_n 0, 1) := by decide +kernel
theorem dX8_take_30 : decode cX8_take 30 = .ok (.iload_n 1, 1) := by decide +kernel
theorem dX8_take_31 : decode cX8_take 31 = .ok (.invokevirtual 116, 3) := by decide +kernel
theorem dX8_take_34 : decode cX8_take 34 = .ok (.iconst 1, 1) := by decide +kernel
theorem dX8_take_35 : decode cX8_take 35 = .ok (.ireturn, 1) := by decide +kernel
set_option maxRecDepth 20000 in
theorem ggX8_air_X8_in : GoodIn wsX8_air wsX8_in := goodIn_r _ [7] rfl (by decide +kernel)
set_option maxRecDepth 20000 in
theorem gX8_air_X8_in : GoodIn wsX8_air (va_wsS RX8 97 yX8_in wsX8_in) := goodIn_app (goodIn_of _ (by decide +kernel)) ggX8_air_X8_in
set_option maxRecDepth 20000 in
theorem ggX8_air_X8_throwsIf : GoodIn wsX8_air wsX8_throwsIf := goodIn_r _ [11, 1, 12, 13, 14, 15, 16, 17, 18, 19, 20, 21, 22, 23, 24, 25, 26, 27, 28, 29, 30, 31, 32, 33, 34, 35, 36, 37, 38, 39, 40, 41, 42, 43, 44, 45] rfl (by decide +kernel)
set_option maxRecDepth 20000 in
theorem gX8_air_X8_throwsIf : GoodIn wsX8_air (wsV RX8 101 RX8 yX8_throwsIf wsX8_throwsIf) := goodIn_app (goodIn_of _ (by decide +kernel)) ggX8_air_X8_throwsIf
theorem dX8_air_0 : decode cX8_air 0 = .ok (.aload_n 0, 1) := by decide +kernel
theorem dX8_air_1 : decode cX8_air 1 = .ok (.iconst 0, 1) := by decide +kernel
theorem dX8_air_2 : decode cX8_air 2 = .ok (.putfield 1, 3) := by decide +kernel
theorem dX8_air_5 : decode cX8_air 5 = .ok (.aload_n 0, 1) := by decide +kernel
theorem dX8_air_6 : decode cX8_air 6 = .ok (.iload_n 1, 1) := by decide +kernel
theorem dX8_air_7 : decode cX8_air 7 = .ok (.iconst 0, 1) := by decide +kernel
theorem dX8_air_8 : decode cX8_air 8 = .ok (.iconst 5, 1) := by decide +kernel
theorem dX8_air_9 : decode cX8_air 9 = .ok (.invokestatic 97, 3) := by decide +kernel
theorem dX8_air_12 : decode cX8_air 12 = .ok (.ifCond .ne 7, 3) := by decide +kernel
theorem dX8_air_15 : decode cX8_air 15 = .ok (.iconst 1, 1) := by decide +kernel
theorem dX8_air_16 : decode cX8_air 16 = .ok (.goto 4, 3) := by decide +kernel
theorem dX8_air_19 : decode cX8_air 19 = .ok (.iconst 0, 1) := by decide +kernel
theorem dX8_air_20 : decode cX8_air 20 = .ok (.iconst 1, 1) := by decide +kernel
theorem dX8_air_21 : decode cX8_air 21 = .ok (.invokevirtual 101, 3) := by decide +kernel
theorem dX8_air_24 : decode cX8_air 24 = .ok (.ifCond .ne 37, 3) := by decide +kernel
theorem dX8_air_27 : decode cX8_air 27 = .ok (.aload_n 0, 1) := by decide +kernel
theorem dX8_air_28 : decode cX8_air 28 = .ok (.iload_n 2, 1) := by decide +kernel
theorem dX8_air_29 : decode cX8_air 29 = .ok (.bipush (-5), 2) := by decide +kernel
theorem dX8_air_31 : decode cX8_air 31 = .ok (.bipush 40, 2) := by decide +kernel
theorem dX8_air_33 : decode cX8_air 33 = .ok (.invokestatic 97, 3) := by decide +kernel
theorem dX8_air_36 : decode cX8_air 36 = .ok (.ifCond .eq 13, 3) := by decide +kernel
theorem dX8_air_39 : decode cX8_air 39 = .ok (.iload_n 3, 1) := by decide +kernel
theorem dX8_air_40 : decode cX8_air 40 = .ok (.iconst 0, 1) := by decide +kernel
theorem dX8_air_41 : decode cX8_air 41 = .ok (.bipush 100, 2) := by decide +kernel
theorem dX8_air_43 : decode cX8_air 43 = .ok (.invokestatic 97, 3) := by decide +kernel
theorem dX8_air_46 : decode cX8_air 46 = .ok (.ifCond .ne 7, 3) := by decide +kernel
theorem dX8_air_49 : decode cX8_air 49 = .ok (.iconst 1, 1) := by decide +kernel
theorem dX8_air_50 : decode cX8_air 50 = .ok (.goto 4, 3) := by decide +kernel
theorem dX8_air_53 : decode cX8_air 53 = .ok (.iconst 0, 1) := by decide +kernel
theorem dX8_air_54 : decode cX8_air 54 = .ok (.iconst 2, 1) := by decide +kernel
theorem dX8_air_55 : decode cX8_air 55 = .ok (.invokevirtual 101, 3) := by decide +kernel
theorem dX8_air_58 : decode cX8_air 58 = .ok (.ifCond .eq 4, 3) := by decide +kernel
theorem dX8_air_61 : decode cX8_air 61 = .ok (.return_, 1) := by decide +kernel
theorem dX8_air_62 : decode cX8_air 62 = .ok (.aload_n 0, 1) := by decide +kernel
theorem dX8_air_63 : decode cX8_air 63 = .ok (.getfield 54, 3) := by decide +kernel
theorem dX8_air_66 : decode cX8_air 66 = .ok (.iload_n 1, 1) := by decide +kernel
theorem dX8_air_67 : decode cX8_air 67 = .ok (.iload_n 2, 1) := by decide +kernel
theorem dX8_air_68 : decode cX8_air 68 = .ok (.iastore, 1) := by decide +kernel
theorem dX8_air_69 : decode cX8_air 69 = .ok (.aload_n 0, 1) := by decide +kernel
theorem dX8_air_70 : decode cX8_air 70 = .ok (.getfield 57, 3) := by decide +kernel
theorem dX8_air_73 : decode cX8_air 73 = .ok (.iload_n 1, 1) := by decide +kernel
theorem dX8_air_74 : decode cX8_air 74 = .ok (.iload_n 3, 1) := by decide +kernel
theorem dX8_air_75 : decode cX8_air 75 = .ok (.iastore, 1) := by decide +kernel
theorem dX8_air_76 : decode cX8_air 76 = .ok (.return_, 1) := by decide +kernel
set_option maxRecDepth 20000 in
theorem ggX8_open_X8_in : GoodIn wsX8_open wsX8_in := goodIn_r _ [6] rfl (by decide +kernel)
set_option maxRecDepth 20000 in
theorem gX8_open_X8_in : GoodIn wsX8_open (va_wsS RX8 97 yX8_in wsX8_in) := goodIn_app (goodIn_of _ (by decide +kernel)) ggX8_open_X8_in
set_option maxRecDepth 20000 in
theorem ggX8_open_X8_throwsIf : GoodIn wsX8_open wsX8_throwsIf := goodIn_r _ [10, 1, 11, 12, 13, 14, 15, 16, 17, 18, 19, 20, 21, 22, 23, 24, 25, 26, 27, 28, 29, 30, 31, 32, 33, 34, 35, 36, 37, 38, 39, 40, 41, 42, 43, 44] rfl (by decide +kernel)
set_option maxRecDepth 20000 in
theorem gX8_open_X8_throwsIf : GoodIn wsX8_open (wsV RX8 101 RX8 yX8_throwsIf wsX8_throwsIf) := goodIn_app (goodIn_of _ (by decide +kernel)) ggX8_open_X8_throwsIf
theorem dX8_open_0 : decode cX8_open 0 = .ok (.aload_n 0, 1) := by decide +kernel
theorem dX8_open_1 : decode cX8_open 1 = .ok (.iconst 0, 1) := by decide +kernel
theorem dX8_open_2 : decode cX8_open 2 = .ok (.putfield 1, 3) := by decide +kernel
theorem dX8_open_5 : decode cX8_open 5 = .ok (.aload_n 0, 1) := by decide +kernel
theorem dX8_open_6 : decode cX8_open 6 = .ok (.iload_n 1, 1) := by decide +kernel
theorem dX8_open_7 : decode cX8_open 7 = .ok (.iconst 1, 1) := by decide +kernel
theorem dX8_open_8 : decode cX8_open 8 = .ok (.iconst 5, 1) := by decide +kernel
theorem dX8_open_9 : decode cX8_open 9 = .ok (.invokestatic 97, 3) := by decide +kernel
theorem dX8_open_12 : decode cX8_open 12 = .ok (.ifCond .ne 7, 3) := by decide +kernel
theorem dX8_open_15 : decode cX8_open 15 = .ok (.iconst 1, 1) := by decide +kernel
theorem dX8_open_16 : decode cX8_open 16 = .ok (.goto 4, 3) := by decide +kernel
theorem dX8_open_19 : decode cX8_open 19 = .ok (.iconst 0, 1) := by decide +kernel
theorem dX8_open_20 : decode cX8_open 20 = .ok (.iconst 1, 1) := by decide +kernel
theorem dX8_open_21 : decode cX8_open 21 = .ok (.invokevirtual 101, 3) := by decide +kernel
theorem dX8_open_24 : decode cX8_open 24 = .ok (.ifCond .eq 5, 3) := by decide +kernel
theorem dX8_open_27 : decode cX8_open 27 = .ok (.iconst 0, 1) := by decide +kernel
theorem dX8_open_28 : decode cX8_open 28 = .ok (.ireturn, 1) := by decide +kernel
theorem dX8_open_29 : decode cX8_open 29 = .ok (.aload_n 0, 1) := by decide +kernel
theorem dX8_open_30 : decode cX8_open 30 = .ok (.getfield 60, 3) := by decide +kernel
theorem dX8_open_33 : decode cX8_open 33 = .ok (.iload_n 1, 1) := by decide +kernel
theorem dX8_open_34 : decode cX8_open 34 = .ok (.baload, 1) := by decide +kernel
theorem dX8_open_35 : decode cX8_open 35 = .ok (.istore_n 3, 1) := by decide +kernel
theorem dX8_open_36 : decode cX8_open 36 = .ok (.aload_n 0, 1) := by decide +kernel
theorem dX8_open_37 : decode cX8_open 37 = .ok (.getfield 60, 3) := by decide +kernel
theorem dX8_open_40 : decode cX8_open 40 = .ok (.iload_n 1, 1) := by decide +kernel
theorem dX8_open_41 : decode cX8_open 41 = .ok (.iload_n 2, 1) := by decide +kernel
theorem dX8_open_42 : decode cX8_open 42 = .ok (.bastore, 1) := by decide +kernel
theorem dX8_open_43 : decode cX8_open 43 = .ok (.iload_n 3, 1) := by decide +kernel
theorem dX8_open_44 : decode cX8_open 44 = .ok (.iload_n 2, 1) := by decide +kernel
theorem dX8_open_45 : decode cX8_open 45 = .ok (.if_icmp .eq 7, 3) := by decide +kernel
theorem dX8_open_48 : decode cX8_open 48 = .ok (.iconst 1, 1) := by decide +kernel
theorem dX8_open_49 : decode cX8_open 49 = .ok (.goto 4, 3) := by decide +kernel
theorem dX8_open_52 : decode cX8_open 52 = .ok (.iconst 0, 1) := by decide +kernel
theorem dX8_open_53 : decode cX8_open 53 = .ok (.ireturn, 1) := by decide +kernel
theorem dX8_legDay_0 : decode cX8_legDay 0 = .ok (.aload_n 0, 1) := by decide +kernel
theorem dX8_legDay_1 : decode cX8_legDay 1 = .ok (.getfield 45, 3) := by decide +kernel
theorem dX8_legDay_4 : decode cX8_legDay 4 = .ok (.iload_n 1, 1) := by decide +kernel
theorem dX8_legDay_5 : decode cX8_legDay 5 = .ok (.iaload, 1) := by decide +kernel
theorem dX8_legDay_6 : decode cX8_legDay 6 = .ok (.ifCond .ge 7, 3) := by decide +kernel
theorem dX8_legDay_9 : decode cX8_legDay 9 = .ok (.iconst (-1), 1) := by decide +kernel
theorem dX8_legDay_10 : decode cX8_legDay 10 = .ok (.goto 12, 3) := by decide +kernel
theorem dX8_legDay_13 : decode cX8_legDay 13 = .ok (.aload_n 0, 1) := by decide +kernel
theorem dX8_legDay_14 : decode cX8_legDay 14 = .ok (.getfield 45, 3) := by decide +kernel
theorem dX8_legDay_17 : decode cX8_legDay 17 = .ok (.iload_n 1, 1) := by decide +kernel
theorem dX8_legDay_18 : decode cX8_legDay 18 = .ok (.iaload, 1) := by decide +kernel
theorem dX8_legDay_19 : decode cX8_legDay 19 = .ok (.bipush 10, 2) := by decide +kernel
theorem dX8_legDay_21 : decode cX8_legDay 21 = .ok (.idiv, 1) := by decide +kernel
theorem dX8_legDay_22 : decode cX8_legDay 22 = .ok (.istore_n 2, 1) := by decide +kernel
theorem dX8_legDay_23 : decode cX8_legDay 23 = .ok (.iload_n 2, 1) := by decide +kernel
theorem dX8_legDay_24 : decode cX8_legDay 24 = .ok (.ifCond .ne 33, 3) := by decide +kernel
theorem dX8_legDay_27 : decode cX8_legDay 27 = .ok (.aload_n 0, 1) := by decide +kernel
theorem dX8_legDay_28 : decode cX8_legDay 28 = .ok (.getfield 29, 3) := by decide +kernel
theorem dX8_legDay_31 : decode cX8_legDay 31 = .ok (.iload_n 1, 1) := by decide +kernel
theorem dX8_legDay_32 : decode cX8_legDay 32 = .ok (.dup2, 1) := by decide +kernel
theorem dX8_legDay_33 : decode cX8_legDay 33 = .ok (.iaload, 1) := by decide +kernel
theorem dX8_legDay_34 : decode cX8_legDay 34 = .ok (.iconst 1, 1) := by decide +kernel
theorem dX8_legDay_35 : decode cX8_legDay 35 = .ok (.iadd, 1) := by decide +kernel
theorem dX8_legDay_36 : decode cX8_legDay 36 = .ok (.iastore, 1) := by decide +kernel
theorem dX8_legDay_37 : decode cX8_legDay 37 = .ok (.aload_n 0, 1) := by decide +kernel
theorem dX8_legDay_38 : decode cX8_legDay 38 = .ok (.getfield 26, 3) := by decide +kernel
theorem dX8_legDay_41 : decode cX8_legDay 41 = .ok (.iload_n 1, 1) := by decide +kernel
theorem dX8_legDay_42 : decode cX8_legDay 42 = .ok (.dup2, 1) := by decide +kernel
theorem dX8_legDay_43 : decode cX8_legDay 43 = .ok (.iaload, 1) := by decide +kernel
theorem dX8_legDay_44 : decode cX8_legDay 44 = .ok (.aload_n 0, 1) := by decide +kernel
theorem dX8_legDay_45 : decode cX8_legDay 45 = .ok (.getfield 26, 3) := by decide +kernel
theorem dX8_legDay_48 : decode cX8_legDay 48 = .ok (.iload_n 1, 1) := by decide +kernel
theorem dX8_legDay_49 : decode cX8_legDay 49 = .ok (.iaload, 1) := by decide +kernel
theorem dX8_legDay_50 : decode cX8_legDay 50 = .ok (.sipush 1000, 3) := by decide +kernel
theorem dX8_legDay_53 : decode cX8_legDay 53 = .ok (.idiv, 1) := by decide +kernel
theorem dX8_legDay_54 : decode cX8_legDay 54 = .ok (.isub, 1) := by decide +kernel
theorem dX8_legDay_55 : decode cX8_legDay 55 = .ok (.iastore, 1) := by decide +kernel
theorem dX8_legDay_56 : decode cX8_legDay 56 = .ok (.return_, 1) := by decide +kernel
theorem dX8_legDay_57 : decode cX8_legDay 57 = .ok (.iload_n 2, 1) := by decide +kernel
theorem dX8_legDay_58 : decode cX8_legDay 58 = .ok (.ifCond .le 51, 3) := by decide +kernel
theorem dX8_legDay_61 : decode cX8_legDay 61 = .ok (.aload_n 0, 1) := by decide +kernel
theorem dX8_legDay_62 : decode cX8_legDay 62 = .ok (.getfield 26, 3) := by decide +kernel
theorem dX8_legDay_65 : decode cX8_legDay 65 = .ok (.iload_n 1, 1) := by decide +kernel
theorem dX8_legDay_66 : decode cX8_legDay 66 = .ok (.dup2, 1) := by decide +kernel
theorem dX8_legDay_67 : decode cX8_legDay 67 = .ok (.iaload, 1) := by decide +kernel
theorem dX8_legDay_68 : decode cX8_legDay 68 = .ok (.aload_n 0, 1) := by decide +kernel
theorem dX8_legDay_69 : decode cX8_legDay 69 = .ok (.getfield 26, 3) := by decide +kernel
theorem dX8_legDay_72 : decode cX8_legDay 72 = .ok (.iload_n 1, 1) := by decide +kernel
theorem dX8_legDay_73 : decode cX8_legDay 73 = .ok (.iaload, 1) := by decide +kernel
theorem dX8_legDay_74 : decode cX8_legDay 74 = .ok (.i2l, 1) := by decide +kernel
theorem dX8_legDay_75 : decode cX8_legDay 75 = .ok (.bipush 100, 2) := by decide +kernel
theorem dX8_legDay_77 : decode cX8_legDay 77 = .ok (.aload_n 0, 1) := by decide +kernel
theorem dX8_legDay_78 : decode cX8_legDay 78 = .ok (.getfield 57, 3) := by decide +kernel
theorem dX8_legDay_81 : decode cX8_legDay 81 = .ok (.iload_n 2, 1) := by decide +kernel
theorem dX8_legDay_82 : decode cX8_legDay 82 = .ok (.iaload, 1) := by decide +kernel
theorem dX8_legDay_83 : decode cX8_legDay 83 = .ok (.isub, 1) := by decide +kernel
theorem dX8_legDay_84 : decode cX8_legDay 84 = .ok (.iconst 5, 1) := by decide +kernel
theorem dX8_legDay_85 : decode cX8_legDay 85 = .ok (.iconst 0, 1) := by decide +kernel
theorem dX8_legDay_86 : decode cX8_legDay 86 = .ok (.aload_n 0, 1) := by decide +kernel
theorem dX8_legDay_87 : decode cX8_legDay 87 = .ok (.getfield 54, 3) := by decide +kernel
theorem dX8_legDay_90 : decode cX8_legDay 90 = .ok (.iload_n 2, 1) := by decide +kernel
theorem dX8_legDay_91 : decode cX8_legDay 91 = .ok (.iaload, 1) := by decide +kernel
theorem dX8_legDay_92 : decode cX8_legDay 92 = .ok (.invokestatic 120, 3) := by decide +kernel
theorem dX8_legDay_95 : decode cX8_legDay 95 = .ok (.iadd, 1) := by decide +kernel
theorem dX8_legDay_96 : decode cX8_legDay 96 = .ok (.imul, 1) := by decide +kernel
theorem dX8_legDay_97 : decode cX8_legDay 97 = .ok (.bipush 10, 2) := by decide +kernel
theorem dX8_legDay_99 : decode cX8_legDay 99 = .ok (.idiv, 1) := by decide +kernel
theorem dX8_legDay_100 : decode cX8_legDay 100 = .ok (.i2l, 1) := by decide +kernel
theorem dX8_legDay_101 : decode cX8_legDay 101 = .ok (.lmul, 1) := by decide +kernel
theorem dX8_legDay_102 : decode cX8_legDay 102 = .ok (.ldc2_w 126, 3) := by decide +kernel
theorem dX8_legDay_105 : decode cX8_legDay 105 = .ok (.ldiv, 1) := by decide +kernel
theorem dX8_legDay_106 : decode cX8_legDay 106 = .ok (.l2i, 1) := by decide +kernel
theorem dX8_legDay_107 : decode cX8_legDay 107 = .ok (.isub, 1) := by decide +kernel
theorem dX8_legDay_108 : decode cX8_legDay 108 = .ok (.iastore, 1) := by decide +kernel
theorem dX8_legDay_109 : decode cX8_legDay 109 = .ok (.aload_n 0, 1) := by decide +kernel
theorem dX8_legDay_110 : decode cX8_legDay 110 = .ok (.getfield 32, 3) := by decide +kernel
theorem dX8_legDay_113 : decode cX8_legDay 113 = .ok (.iload_n 1, 1) := by decide +kernel
theorem dX8_legDay_114 : decode cX8_legDay 114 = .ok (.dup2, 1) := by decide +kernel
theorem dX8_legDay_115 : decode cX8_legDay 115 = .ok (.iaload, 1) := by decide +kernel
theorem dX8_legDay_116 : decode cX8_legDay 116 = .ok (.iload_n 2, 1) := by decide +kernel
theorem dX8_legDay_117 : decode cX8_legDay 117 = .ok (.ifCond .le 19, 3) := by decide +kernel
theorem dX8_legDay_120 : decode cX8_legDay 120 = .ok (.iconst 0, 1) := by decide +kernel
theorem dX8_legDay_121 : decode cX8_legDay 121 = .ok (.aload_n 0, 1) := by decide +kernel
theorem dX8_legDay_122 : decode cX8_legDay 122 = .ok (.getfield 54, 3) := by decide +kernel
theorem dX8_legDay_125 : decode cX8_legDay 125 = .ok (.iload_n 2, 1) := by decide +kernel
theorem dX8_legDay_126 : decode cX8_legDay 126 = .ok (.iaload, 1) := by decide +kernel
theorem dX8_legDay_127 : decode cX8_legDay 127 = .ok (.bipush 12, 2) := by decide +kernel
theorem dX8_legDay_129 : decode cX8_legDay 129 = .ok (.isub, 1) := by decide +kernel
theorem dX8_legDay_130 : decode cX8_legDay 130 = .ok (.invokestatic 120, 3) := by decide +kernel
theorem dX8_legDay_133 : decode cX8_legDay 133 = .ok (.goto 5, 3) := by decide +kernel
theorem dX8_legDay_136 : decode cX8_legDay 136 = .ok (.bipush 8, 2) := by decide +kernel
theorem dX8_legDay_138 : decode cX8_legDay 138 = .ok (.iadd, 1) := by decide +kernel
theorem dX8_legDay_139 : decode cX8_legDay 139 = .ok (.iastore, 1) := by decide +kernel
theorem dX8_legDay_140 : decode cX8_legDay 140 = .ok (.aload_n 0, 1) := by decide +kernel
theorem dX8_legDay_141 : decode cX8_legDay 141 = .ok (.getfield 32, 3) := by decide +kernel
theorem dX8_legDay_144 : decode cX8_legDay 144 = .ok (.iload_n 1, 1) := by decide +kernel
theorem dX8_legDay_145 : decode cX8_legDay 145 = .ok (.iaload, 1) := by decide +kernel
theorem dX8_legDay_146 : decode cX8_legDay 146 = .ok (.bipush 20, 2) := by decide +kernel
theorem dX8_legDay_148 : decode cX8_legDay 148 = .ok (.aload_n 0, 1) := by decide +kernel
theorem dX8_legDay_149 : decode cX8_legDay 149 = .ok (.getfield 29, 3) := by decide +kernel
theorem dX8_legDay_152 : decode cX8_legDay 152 = .ok (.iload_n 1, 1) := by decide +kernel
theorem dX8_legDay_153 : decode cX8_legDay 153 = .ok (.iaload, 1) := by decide +kernel
theorem dX8_legDay_154 : decode cX8_legDay 154 = .ok (.imul, 1) := by decide +kernel
theorem dX8_legDay_155 : decode cX8_legDay 155 = .ok (.if_icmp .le 29, 3) := by decide +kernel
theorem dX8_legDay_158 : decode cX8_legDay 158 = .ok (.aload_n 0, 1) := by decide +kernel
theorem dX8_legDay_159 : decode cX8_legDay 159 = .ok (.getfield 29, 3) := by decide +kernel
theorem dX8_legDay_162 : decode cX8_legDay 162 = .ok (.iload_n 1, 1) := by decide +kernel
theorem dX8_legDay_163 : decode cX8_legDay 163 = .ok (.iaload, 1) := by decide +kernel
theorem dX8_legDay_164 : decode cX8_legDay 164 = .ok (.aload_n 0, 1) := by decide +kernel
theorem dX8_legDay_165 : decode cX8_legDay 165 = .ok (.getfield 23, 3) := by decide +kernel
theorem dX8_legDay_168 : decode cX8_legDay 168 = .ok (.iload_n 1, 1) := by decide +kernel
theorem dX8_legDay_169 : decode cX8_legDay 169 = .ok (.iaload, 1) := by decide +kernel
theorem dX8_legDay_170 : decode cX8_legDay 170 = .ok (.sipush 1000, 3) := by decide +kernel
theorem dX8_legDay_173 : decode cX8_legDay 173 = .ok (.idiv, 1) := by decide +kernel
theorem dX8_legDay_174 : decode cX8_legDay 174 = .ok (.if_icmp .ge 10, 3) := by decide +kernel
theorem dX8_legDay_177 : decode cX8_legDay 177 = .ok (.aload_n 0, 1) := by decide +kernel
theorem dX8_legDay_178 : decode cX8_legDay 178 = .ok (.getfield 35, 3) := by decide +kernel
theorem dX8_legDay_181 : decode cX8_legDay 181 = .ok (.iload_n 1, 1) := by decide +kernel
theorem dX8_legDay_182 : decode cX8_legDay 182 = .ok (.iconst 1, 1) := by decide +kernel
theorem dX8_legDay_183 : decode cX8_legDay 183 = .ok (.bastore, 1) := by decide +kernel
theorem dX8_legDay_184 : decode cX8_legDay 184 = .ok (.return_, 1) := by decide +kernel
set_option maxRecDepth 20000 in
theorem ggX8_days_X8_in : GoodIn wsX8_days wsX8_in := goodIn_r _ [11] rfl (by decide +kernel)
set_option maxRecDepth 20000 in
theorem gX8_days_X8_in : GoodIn wsX8_days (va_wsS RX8 97 yX8_in wsX8_in) := goodIn_app (goodIn_of _ (by decide +kernel)) ggX8_days_X8_in
set_option maxRecDepth 20000 in
theorem ggX8_days_X8_throwsIf : GoodIn wsX8_days wsX8_throwsIf := goodIn_r _ [15, 1, 31, 32, 33, 34, 35, 36, 37, 38, 39, 40, 41, 42, 43, 44, 45, 46, 47, 48, 49, 50, 51, 52, 53, 54, 55, 56, 57, 58, 59, 60, 61, 62, 63, 64] rfl (by decide +kernel)
set_option maxRecDepth 20000 in
theorem gX8_days_X8_throwsIf : GoodIn wsX8_days (wsV RX8 101 RX8 yX8_throwsIf wsX8_throwsIf) := goodIn_app (goodIn_of _ (by decide +kernel)) ggX8_days_X8_throwsIf
set_option maxRecDepth 20000 in
theorem ggX8_days_X8_legDay : GoodIn wsX8_days wsX8_legDay := goodIn_r _ [19, 20, 21, 22, 5, 4, 23, 24, 25, 26, 27, 28, 29, 30, 31, 32, 33, 34, 35, 36, 37, 38, 39, 40, 41, 42, 43, 44, 45, 46, 47, 48, 49, 50, 51, 52, 53, 54, 55, 56, 57, 58, 59, 60, 61, 62, 63, 64] rfl (by decide +kernel)
set_option maxRecDepth 20000 in
theorem gX8_days_X8_legDay : GoodIn wsX8_days (wsV RX8 128 RX8 yX8_legDay wsX8_legDay) := goodIn_app (goodIn_of _ (by decide +kernel)) ggX8_days_X8_legDay
theorem dX8_days_0 : decode cX8_days 0 = .ok (.aload_n 0, 1) := by decide +kernel
theorem dX8_days_1 : decode cX8_days 1 = .ok (.iconst 0, 1) := by decide +kernel
theorem dX8_days_2 : decode cX8_days 2 = .ok (.putfield 1, 3) := by decide +kernel
theorem dX8_days_5 : decode cX8_days 5 = .ok (.aload_n 0, 1) := by decide +kernel
theorem dX8_days_6 : decode cX8_days 6 = .ok (.iload_n 1, 1) := by decide +kernel
theorem dX8_days_7 : decode cX8_days 7 = .ok (.iconst 0, 1) := by decide +kernel
theorem dX8_days_8 : decode cX8_days 8 = .ok (.sipush 200, 3) := by decide +kernel
theorem dX8_days_11 : decode cX8_days 11 = .ok (.invokestatic 97, 3) := by decide +kernel
theorem dX8_days_14 : decode cX8_days 14 = .ok (.ifCond .ne 7, 3) := by decide +kernel
theorem dX8_days_17 : decode cX8_days 17 = .ok (.iconst 1, 1) := by decide +kernel
theorem dX8_days_18 : decode cX8_days 18 = .ok (.goto 4, 3) := by decide +kernel
theorem dX8_days_21 : decode cX8_days 21 = .ok (.iconst 0, 1) := by decide +kernel
theorem dX8_days_22 : decode cX8_days 22 = .ok (.iconst 1, 1) := by decide +kernel
theorem dX8_days_23 : decode cX8_days 23 = .ok (.invokevirtual 101, 3) := by decide +kernel
theorem dX8_days_26 : decode cX8_days 26 = .ok (.ifCond .eq 5, 3) := by decide +kernel
theorem dX8_days_29 : decode cX8_days 29 = .ok (.iconst 0, 1) := by decide +kernel
theorem dX8_days_30 : decode cX8_days 30 = .ok (.ireturn, 1) := by decide +kernel
theorem dX8_days_31 : decode cX8_days 31 = .ok (.iconst 0, 1) := by decide +kernel
theorem dX8_days_32 : decode cX8_days 32 = .ok (.istore_n 2, 1) := by decide +kernel
theorem dX8_days_33 : decode cX8_days 33 = .ok (.iload_n 2, 1) := by decide +kernel
theorem dX8_days_34 : decode cX8_days 34 = .ok (.iload_n 1, 1) := by decide +kernel
theorem dX8_days_35 : decode cX8_days 35 = .ok (.if_icmp .ge 109, 3) := by decide +kernel
theorem dX8_days_38 : decode cX8_days 38 = .ok (.aload_n 0, 1) := by decide +kernel
theorem dX8_days_39 : decode cX8_days 39 = .ok (.getfield 105, 3) := by decide +kernel
theorem dX8_days_42 : decode cX8_days 42 = .ok (.sipush 2000, 3) := by decide +kernel
theorem dX8_days_45 : decode cX8_days 45 = .ok (.if_icmp .ge 99, 3) := by decide +kernel
theorem dX8_days_48 : decode cX8_days 48 = .ok (.aload_n 0, 1) := by decide +kernel
theorem dX8_days_49 : decode cX8_days 49 = .ok (.dup, 1) := by decide +kernel
theorem dX8_days_50 : decode cX8_days 50 = .ok (.getfield 105, 3) := by decide +kernel
theorem dX8_days_53 : decode cX8_days 53 = .ok (.iconst 1, 1) := by decide +kernel
theorem dX8_days_54 : decode cX8_days 54 = .ok (.iadd, 1) := by decide +kernel
theorem dX8_days_55 : decode cX8_days 55 = .ok (.putfield 105, 3) := by decide +kernel
theorem dX8_days_58 : decode cX8_days 58 = .ok (.iconst 1, 1) := by decide +kernel
theorem dX8_days_59 : decode cX8_days 59 = .ok (.istore_n 3, 1) := by decide +kernel
theorem dX8_days_60 : decode cX8_days 60 = .ok (.iload_n 3, 1) := by decide +kernel
theorem dX8_days_61 : decode cX8_days 61 = .ok (.bipush 6, 2) := by decide +kernel
theorem dX8_days_63 : decode cX8_days 63 = .ok (.if_icmp .ge 45, 3) := by decide +kernel
theorem dX8_days_66 : decode cX8_days 66 = .ok (.aload_n 0, 1) := by decide +kernel
theorem dX8_days_67 : decode cX8_days 67 = .ok (.getfield 60, 3) := by decide +kernel
theorem dX8_days_70 : decode cX8_days 70 = .ok (.iload_n 3, 1) := by decide +kernel
theorem dX8_days_71 : decode cX8_days 71 = .ok (.baload, 1) := by decide +kernel
theorem dX8_days_72 : decode cX8_days 72 = .ok (.ifCond .ne 6, 3) := by decide +kernel
theorem dX8_days_75 : decode cX8_days 75 = .ok (.goto 27, 3) := by decide +kernel
theorem dX8_days_78 : decode cX8_days 78 = .ok (.aload_n 0, 1) := by decide +kernel
theorem dX8_days_79 : decode cX8_days 79 = .ok (.getfield 54, 3) := by decide +kernel
theorem dX8_days_82 : decode cX8_days 82 = .ok (.iload_n 3, 1) := by decide +kernel
theorem dX8_days_83 : decode cX8_days 83 = .ok (.aload_n 0, 1) := by decide +kernel
theorem dX8_days_84 : decode cX8_days 84 = .ok (.getfield 54, 3) := by decide +kernel
theorem dX8_days_87 : decode cX8_days 87 = .ok (.iconst 0, 1) := by decide +kernel
theorem dX8_days_88 : decode cX8_days 88 = .ok (.iaload, 1) := by decide +kernel
theorem dX8_days_89 : decode cX8_days 89 = .ok (.iastore, 1) := by decide +kernel
theorem dX8_days_90 : decode cX8_days 90 = .ok (.aload_n 0, 1) := by decide +kernel
theorem dX8_days_91 : decode cX8_days 91 = .ok (.getfield 57, 3) := by decide +kernel
theorem dX8_days_94 : decode cX8_days 94 = .ok (.iload_n 3, 1) := by decide +kernel
theorem dX8_days_95 : decode cX8_days 95 = .ok (.aload_n 0, 1) := by decide +kernel
theorem dX8_days_96 : decode cX8_days 96 = .ok (.getfield 57, 3) := by decide +kernel
theorem dX8_days_99 : decode cX8_days 99 = .ok (.iconst 0, 1) := by decide +kernel
theorem dX8_days_100 : decode cX8_days 100 = .ok (.iaload, 1) := by decide +kernel
theorem dX8_days_101 : decode cX8_days 101 = .ok (.iastore, 1) := by decide +kernel
theorem dX8_days_102 : decode cX8_days 102 = .ok (.iinc 3 1, 3) := by decide +kernel
theorem dX8_days_105 : decode cX8_days 105 = .ok (.goto (-45), 3) := by decide +kernel
theorem dX8_days_108 : decode cX8_days 108 = .ok (.iconst 0, 1) := by decide +kernel
theorem dX8_days_109 : decode cX8_days 109 = .ok (.istore_n 3, 1) := by decide +kernel
theorem dX8_days_110 : decode cX8_days 110 = .ok (.iload_n 3, 1) := by decide +kernel
theorem dX8_days_111 : decode cX8_days 111 = .ok (.aload_n 0, 1) := by decide +kernel
theorem dX8_days_112 : decode cX8_days 112 = .ok (.getfield 94, 3) := by decide +kernel
theorem dX8_days_115 : decode cX8_days 115 = .ok (.if_icmp .ge 23, 3) := by decide +kernel
theorem dX8_days_118 : decode cX8_days 118 = .ok (.aload_n 0, 1) := by decide +kernel
theorem dX8_days_119 : decode cX8_days 119 = .ok (.getfield 39, 3) := by decide +kernel
theorem dX8_days_122 : decode cX8_days 122 = .ok (.iload_n 3, 1) := by decide +kernel
theorem dX8_days_123 : decode cX8_days 123 = .ok (.baload, 1) := by decide +kernel
theorem dX8_days_124 : decode cX8_days 124 = .ok (.ifCond .ne 8, 3) := by decide +kernel
theorem dX8_days_127 : decode cX8_days 127 = .ok (.aload_n 0, 1) := by decide +kernel
theorem dX8_days_128 : decode cX8_days 128 = .ok (.iload_n 3, 1) := by decide +kernel
theorem dX8_days_129 : decode cX8_days 129 = .ok (.invokevirtual 128, 3) := by decide +kernel
theorem dX8_days_132 : decode cX8_days 132 = .ok (.iinc 3 1, 3) := by decide +kernel
theorem dX8_days_135 : decode cX8_days 135 = .ok (.goto (-25), 3) := by decide +kernel
theorem dX8_days_138 : decode cX8_days 138 = .ok (.iinc 2 1, 3) := by decide +kernel
theorem dX8_days_141 : decode cX8_days 141 = .ok (.goto (-108), 3) := by decide +kernel
theorem dX8_days_144 : decode cX8_days 144 = .ok (.aload_n 0, 1) := by decide +kernel
theorem dX8_days_145 : decode cX8_days 145 = .ok (.getfield 105, 3) := by decide +kernel
theorem dX8_days_148 : decode cX8_days 148 = .ok (.ireturn, 1) := by decide +kernel
theorem dX8_feed_0 : decode cX8_feed 0 = .ok (.aload_n 0, 1) := by decide +kernel
theorem dX8_feed_1 : decode cX8_feed 1 = .ok (.iconst 0, 1) := by decide +kernel
theorem dX8_feed_2 : decode cX8_feed 2 = .ok (.putfield 1, 3) := by decide +kernel
theorem dX8_feed_5 : decode cX8_feed 5 = .ok (.aload_n 0, 1) := by decide +kernel
theorem dX8_feed_6 : decode cX8_feed 6 = .ok (.getfield 131, 3) := by decide +kernel
theorem dX8_feed_9 : decode cX8_feed 9 = .ok (.bipush 20, 2) := by decide +kernel
theorem dX8_feed_11 : decode cX8_feed 11 = .ok (.iadd, 1) := by decide +kernel
theorem dX8_feed_12 : decode cX8_feed 12 = .ok (.sipush 400, 3) := by decide +kernel
theorem dX8_feed_15 : decode cX8_feed 15 = .ok (.if_icmp .le 5, 3) := by decide +kernel
theorem dX8_feed_18 : decode cX8_feed 18 = .ok (.iconst (-1), 1) := by decide +kernel
theorem dX8_feed_19 : decode cX8_feed 19 = .ok (.ireturn, 1) := by decide +kernel
theorem dX8_feed_20 : decode cX8_feed 20 = .ok (.aload_n 0, 1) := by decide +kernel
theorem dX8_feed_21 : decode cX8_feed 21 = .ok (.getfield 88, 3) := by decide +kernel
theorem dX8_feed_24 : decode cX8_feed 24 = .ok (.iconst 0, 1) := by decide +kernel
theorem dX8_feed_25 : decode cX8_feed 25 = .ok (.iload_n 1, 1) := by decide +kernel
theorem dX8_feed_26 : decode cX8_feed 26 = .ok (.iastore, 1) := by decide +kernel
theorem dX8_feed_27 : decode cX8_feed 27 = .ok (.aload_n 0, 1) := by decide +kernel
theorem dX8_feed_28 : decode cX8_feed 28 = .ok (.getfield 88, 3) := by decide +kernel
theorem dX8_feed_31 : decode cX8_feed 31 = .ok (.iconst 1, 1) := by decide +kernel
theorem dX8_feed_32 : decode cX8_feed 32 = .ok (.iload_n 2, 1) := by decide +kernel
theorem dX8_feed_33 : decode cX8_feed 33 = .ok (.iastore, 1) := by decide +kernel
theorem dX8_feed_34 : decode cX8_feed 34 = .ok (.aload_n 0, 1) := by decide +kernel
theorem dX8_feed_35 : decode cX8_feed 35 = .ok (.getfield 88, 3) := by decide +kernel
theorem dX8_feed_38 : decode cX8_feed 38 = .ok (.iconst 2, 1) := by decide +kernel
theorem dX8_feed_39 : decode cX8_feed 39 = .ok (.iload_n 3, 1) := by decide +kernel
theorem dX8_feed_40 : decode cX8_feed 40 = .ok (.iastore, 1) := by decide +kernel
theorem dX8_feed_41 : decode cX8_feed 41 = .ok (.aload_n 0, 1) := by decide +kernel
theorem dX8_feed_42 : decode cX8_feed 42 = .ok (.getfield 88, 3) := by decide +kernel
theorem dX8_feed_45 : decode cX8_feed 45 = .ok (.iconst 3, 1) := by decide +kernel
theorem dX8_feed_46 : decode cX8_feed 46 = .ok (.iload 4, 2) := by decide +kernel
theorem dX8_feed_48 : decode cX8_feed 48 = .ok (.iastore, 1) := by decide +kernel
theorem dX8_feed_49 : decode cX8_feed 49 = .ok (.aload_n 0, 1) := by decide +kernel
theorem dX8_feed_50 : decode cX8_feed 50 = .ok (.getfield 88, 3) := by decide +kernel
theorem dX8_feed_53 : decode cX8_feed 53 = .ok (.iconst 4, 1) := by decide +kernel
theorem dX8_feed_54 : decode cX8_feed 54 = .ok (.iload 5, 2) := by decide +kernel
theorem dX8_feed_56 : decode cX8_feed 56 = .ok (.iastore, 1) := by decide +kernel
theorem dX8_feed_57 : decode cX8_feed 57 = .ok (.iconst 0, 1) := by decide +kernel
theorem dX8_feed_58 : decode cX8_feed 58 = .ok (.istore 6, 2) := by decide +kernel
theorem dX8_feed_60 : decode cX8_feed 60 = .ok (.iload 6, 2) := by decide +kernel
theorem dX8_feed_62 : decode cX8_feed 62 = .ok (.bipush 20, 2) := by decide +kernel
theorem dX8_feed_64 : decode cX8_feed 64 = .ok (.if_icmp .ge 42, 3) := by decide +kernel
theorem dX8_feed_67 : decode cX8_feed 67 = .ok (.aload_n 0, 1) := by decide +kernel
theorem dX8_feed_68 : decode cX8_feed 68 = .ok (.getfield 81, 3) := by decide +kernel
theorem dX8_feed_71 : decode cX8_feed 71 = .ok (.aload_n 0, 1) := by decide +kernel
theorem dX8_feed_72 : decode cX8_feed 72 = .ok (.getfield 131, 3) := by decide +kernel
theorem dX8_feed_75 : decode cX8_feed 75 = .ok (.iload 6, 2) := by decide +kernel
theorem dX8_feed_77 : decode cX8_feed 77 = .ok (.iadd, 1) := by decide +kernel
theorem dX8_feed_78 : decode cX8_feed 78 = .ok (.aload_n 0, 1) := by decide +kernel
theorem dX8_feed_79 : decode cX8_feed 79 = .ok (.getfield 88, 3) := by decide +kernel
theorem dX8_feed_82 : decode cX8_feed 82 = .ok (.iload 6, 2) := by decide +kernel
theorem dX8_feed_84 : decode cX8_feed 84 = .ok (.iconst 4, 1) := by decide +kernel
theorem dX8_feed_85 : decode cX8_feed 85 = .ok (.idiv, 1) := by decide +kernel
theorem dX8_feed_86 : decode cX8_feed 86 = .ok (.iaload, 1) := by decide +kernel
theorem dX8_feed_87 : decode cX8_feed 87 = .ok (.bipush 24, 2) := by decide +kernel
theorem dX8_feed_89 : decode cX8_feed 89 = .ok (.bipush 8, 2) := by decide +kernel
theorem dX8_feed_91 : decode cX8_feed 91 = .ok (.iload 6, 2) := by decide +kernel
theorem dX8_feed_93 : decode cX8_feed 93 = .ok (.iconst 4, 1) := by decide +kernel
theorem dX8_feed_94 : decode cX8_feed 94 = .ok (.irem, 1) := by decide +kernel
theorem dX8_feed_95 : decode cX8_feed 95 = .ok (.imul, 1) := by decide +kernel
theorem dX8_feed_96 : decode cX8_feed 96 = .ok (.isub, 1) := by decide +kernel
theorem dX8_feed_97 : decode cX8_feed 97 = .ok (.ishr, 1) := by decide +kernel
theorem dX8_feed_98 : decode cX8_feed 98 = .ok (.i2b, 1) := by decide +kernel
theorem dX8_feed_99 : decode cX8_feed 99 = .ok (.bastore, 1) := by decide +kernel
theorem dX8_feed_100 : decode cX8_feed 100 = .ok (.iinc 6 1, 3) := by decide +kernel
theorem dX8_feed_103 : decode cX8_feed 103 = .ok (.goto (-43), 3) := by decide +kernel
theorem dX8_feed_106 : decode cX8_feed 106 = .ok (.aload_n 0, 1) := by decide +kernel
theorem dX8_feed_107 : decode cX8_feed 107 = .ok (.dup, 1) := by decide +kernel
theorem dX8_feed_108 : decode cX8_feed 108 = .ok (.getfield 131, 3) := by decide +kernel
theorem dX8_feed_111 : decode cX8_feed 111 = .ok (.bipush 20, 2) := by decide +kernel
theorem dX8_feed_113 : decode cX8_feed 113 = .ok (.iadd, 1) := by decide +kernel
theorem dX8_feed_114 : decode cX8_feed 114 = .ok (.putfield 131, 3) := by decide +kernel
theorem dX8_feed_117 : decode cX8_feed 117 = .ok (.aload_n 0, 1) := by decide +kernel
theorem dX8_feed_118 : decode cX8_feed 118 = .ok (.getfield 131, 3) := by decide +kernel
theorem dX8_feed_121 : decode cX8_feed 121 = .ok (.ireturn, 1) := by decide +kernel
theorem dX8_end_0 : decode cX8_end 0 = .ok (.aload_n 0, 1) := by decide +kernel
theorem dX8_end_1 : decode cX8_end 1 = .ok (.iconst 0, 1) := by decide +kernel
theorem dX8_end_2 : decode cX8_end 2 = .ok (.putfield 1, 3) := by decide +kernel
theorem dX8_end_5 : decode cX8_end 5 = .ok (.iload_n 1, 1) := by decide +kernel
theorem dX8_end_6 : decode cX8_end 6 = .ok (.ifCond .lt 11, 3) := by decide +kernel
theorem dX8_end_9 : decode cX8_end 9 = .ok (.iload_n 1, 1) := by decide +kernel
theorem dX8_end_10 : decode cX8_end 10 = .ok (.aload_n 0, 1) := by decide +kernel
theorem dX8_end_11 : decode cX8_end 11 = .ok (.getfield 131, 3) := by decide +kernel
theorem dX8_end_14 : decode cX8_end 14 = .ok (.if_icmp .le 5, 3) := by decide +kernel
theorem dX8_end_17 : decode cX8_end 17 = .ok (.iconst 0, 1) := by decide +kernel
theorem dX8_end_18 : decode cX8_end 18 = .ok (.ireturn, 1) := by decide +kernel
theorem dX8_end_19 : decode cX8_end 19 = .ok (.aload_n 0, 1) := by decide +kernel
theorem dX8_end_20 : decode cX8_end 20 = .ok (.iload_n 1, 1) := by decide +kernel
theorem dX8_end_21 : decode cX8_end 21 = .ok (.putfield 131, 3) := by decide +kernel
theorem dX8_end_24 : decode cX8_end 24 = .ok (.iconst 1, 1) := by decide +kernel
theorem dX8_end_25 : decode cX8_end 25 = .ok (.ireturn, 1) := by decide +kernel
theorem dX8_isAt_0 : decode cX8_isAt 0 = .ok (.aload_n 0, 1) := by decide +kernel
theorem dX8_isAt_1 : decode cX8_isAt 1 = .ok (.getfield 134, 3) := by decide +kernel
theorem dX8_isAt_4 : decode cX8_isAt 4 = .ok (.aload_n 0, 1) := by decide +kernel
theorem dX8_isAt_5 : decode cX8_isAt 5 = .ok (.getfield 137, 3) := by decide +kernel
theorem dX8_isAt_8 : decode cX8_isAt 8 = .ok (.if_icmp .ge 33, 3) := by decide +kernel
theorem dX8_isAt_11 : decode cX8_isAt 11 = .ok (.aload_n 0, 1) := by decide +kernel
theorem dX8_isAt_12 : decode cX8_isAt 12 = .ok (.getfield 81, 3) := by decide +kernel
theorem dX8_isAt_15 : decode cX8_isAt 15 = .ok (.aload_n 0, 1) := by decide +kernel
theorem dX8_isAt_16 : decode cX8_isAt 16 = .ok (.getfield 134, 3) := by decide +kernel
theorem dX8_isAt_19 : decode cX8_isAt 19 = .ok (.baload, 1) := by decide +kernel
theorem dX8_isAt_20 : decode cX8_isAt 20 = .ok (.iload_n 1, 1) := by decide +kernel
theorem dX8_isAt_21 : decode cX8_isAt 21 = .ok (.if_icmp .lt 20, 3) := by decide +kernel
theorem dX8_isAt_24 : decode cX8_isAt 24 = .ok (.aload_n 0, 1) := by decide +kernel
theorem dX8_isAt_25 : decode cX8_isAt 25 = .ok (.getfield 81, 3) := by decide +kernel
theorem dX8_isAt_28 : decode cX8_isAt 28 = .ok (.aload_n 0, 1) := by decide +kernel
theorem dX8_isAt_29 : decode cX8_isAt 29 = .ok (.getfield 134, 3) := by decide +kernel
theorem dX8_isAt_32 : decode cX8_isAt 32 = .ok (.baload, 1) := by decide +kernel
theorem dX8_isAt_33 : decode cX8_isAt 33 = .ok (.iload_n 2, 1) := by decide +kernel
theorem dX8_isAt_34 : decode cX8_isAt 34 = .ok (.if_icmp .gt 7, 3) := by decide +kernel
theorem dX8_isAt_37 : decode cX8_isAt 37 = .ok (.iconst 1, 1) := by decide +kernel
theorem dX8_isAt_38 : decode cX8_isAt 38 = .ok (.goto 4, 3) := by decide +kernel
theorem dX8_isAt_41 : decode cX8_isAt 41 = .ok (.iconst 0, 1) := by decide +kernel
theorem dX8_isAt_42 : decode cX8_isAt 42 = .ok (.ireturn, 1) := by decide +kernel
set_option maxRecDepth 20000 in
theorem ggX8_blanks_X8_isAt : GoodIn wsX8_blanks wsX8_isAt := goodIn_r _ [7, 1, 8, 9, 10, 11, 12, 13, 14, 15, 16, 17, 18, 19, 20, 21, 22, 23, 24, 25, 26, 27, 28, 29, 30, 31, 32, 33, 34, 35, 36, 37, 38, 39, 40, 41, 42, 43] rfl (by decide +kernel)
set_option maxRecDepth 20000 in
theorem gX8_blanks_X8_isAt : GoodIn wsX8_blanks (wsV RX8 140 RX8 yX8_isAt wsX8_isAt) := goodIn_app (goodIn_of _ (by decide +kernel)) ggX8_blanks_X8_isAt
theorem dX8_blanks_0 : decode cX8_blanks 0 = .ok (.aload_n 0, 1) := by decide +kernel
theorem dX8_blanks_1 : decode cX8_blanks 1 = .ok (.bipush 32, 2) := by decide +kernel
theorem dX8_blanks_3 : decode cX8_blanks 3 = .ok (.bipush 32, 2) := by decide +kernel
theorem dX8_blanks_5 : decode cX8_blanks 5 = .ok (.invokevirtual 140, 3) := by decide +kernel
theorem dX8_blanks_8 : decode cX8_blanks 8 = .ok (.ifCond .eq 16, 3) := by decide +kernel
theorem dX8_blanks_11 : decode cX8_blanks 11 = .ok (.aload_n 0, 1) := by decide +kernel
theorem dX8_blanks_12 : decode cX8_blanks 12 = .ok (.dup, 1) := by decide +kernel
theorem dX8_blanks_13 : decode cX8_blanks 13 = .ok (.getfield 134, 3) := by decide +kernel
theorem dX8_blanks_16 : decode cX8_blanks 16 = .ok (.iconst 1, 1) := by decide +kernel
theorem dX8_blanks_17 : decode cX8_blanks 17 = .ok (.iadd, 1) := by decide +kernel
theorem dX8_blanks_18 : decode cX8_blanks 18 = .ok (.putfield 134, 3) := by decide +kernel
theorem dX8_blanks_21 : decode cX8_blanks 21 = .ok (.goto (-21), 3) := by decide +kernel
theorem dX8_blanks_24 : decode cX8_blanks 24 = .ok (.aload_n 0, 1) := by decide +kernel
theorem dX8_blanks_25 : decode cX8_blanks 25 = .ok (.aload_n 0, 1) := by decide +kernel
theorem dX8_blanks_26 : decode cX8_blanks 26 = .ok (.getfield 134, 3) := by decide +kernel
theorem dX8_blanks_29 : decode cX8_blanks 29 = .ok (.putfield 143, 3) := by decide +kernel
theorem dX8_blanks_32 : decode cX8_blanks 32 = .ok (.return_, 1) := by decide +kernel
set_option maxRecDepth 20000 in
theorem ggX8_isWord_J0_length_8abf5 : GoodIn wsX8_isWord wsJ0_length_8abf5 := goodIn_r _ [8, 9, 10, 11, 12, 7, 13, 14, 15] rfl (by decide +kernel)
set_option maxRecDepth 20000 in
theorem gX8_isWord_J0_length_8abf5 : GoodIn wsX8_isWord (wsV RX8 146 RJ0 yJ0_length_8abf5 wsJ0_length_8abf5) := goodIn_app (goodIn_of _ (by decide +kernel)) ggX8_isWord_J0_length_8abf5
set_option maxRecDepth 20000 in
theorem ggX8_isWord_J0_charAt_5068e : GoodIn wsX8_isWord wsJ0_charAt_5068e := goodIn_r _ [19, 9, 20, 21, 22, 7, 23, 14, 15, 24, 25, 26, 27, 28, 29, 30, 31, 32, 33, 34, 35, 36, 37, 38, 39, 40, 41, 42, 43, 44, 45, 46, 47, 48, 49, 50, 51, 52] rfl (by decide +kernel)
set_option maxRecDepth 20000 in
theorem gX8_isWord_J0_charAt_5068e : GoodIn wsX8_isWord (wsV RX8 152 RJ0 yJ0_charAt_5068e wsJ0_charAt_5068e) := goodIn_app (goodIn_of _ (by decide +kernel)) ggX8_isWord_J0_charAt_5068e
theorem dX8_isWord_0 : decode cX8_isWord 0 = .ok (.aload_n 0, 1) := by decide +kernel
theorem dX8_isWord_1 : decode cX8_isWord 1 = .ok (.getfield 134, 3) := by decide +kernel
theorem dX8_isWord_4 : decode cX8_isWord 4 = .ok (.aload_n 0, 1) := by decide +kernel
theorem dX8_isWord_5 : decode cX8_isWord 5 = .ok (.getfield 143, 3) := by decide +kernel
theorem dX8_isWord_8 : decode cX8_isWord 8 = .ok (.isub, 1) := by decide +kernel
theorem dX8_isWord_9 : decode cX8_isWord 9 = .ok (.aload_n 1, 1) := by decide +kernel
theorem dX8_isWord_10 : decode cX8_isWord 10 = .ok (.invokevirtual 146, 3) := by decide +kernel
theorem dX8_isWord_13 : decode cX8_isWord 13 = .ok (.if_icmp .ne 7, 3) := by decide +kernel
theorem dX8_isWord_16 : decode cX8_isWord 16 = .ok (.iconst 1, 1) := by decide +kernel
theorem dX8_isWord_17 : decode cX8_isWord 17 = .ok (.goto 4, 3) := by decide +kernel
theorem dX8_isWord_20 : decode cX8_isWord 20 = .ok (.iconst 0, 1) := by decide +kernel
theorem dX8_isWord_21 : decode cX8_isWord 21 = .ok (.istore_n 2, 1) := by decide +kernel
theorem dX8_isWord_22 : decode cX8_isWord 22 = .ok (.iconst 0, 1) := by decide +kernel
theorem dX8_isWord_23 : decode cX8_isWord 23 = .ok (.istore_n 3, 1) := by decide +kernel
theorem dX8_isWord_24 : decode cX8_isWord 24 = .ok (.iload_n 2, 1) := by decide +kernel
theorem dX8_isWord_25 : decode cX8_isWord 25 = .ok (.ifCond .eq 42, 3) := by decide +kernel
theorem dX8_isWord_28 : decode cX8_isWord 28 = .ok (.iload_n 3, 1) := by decide +kernel
theorem dX8_isWord_29 : decode cX8_isWord 29 = .ok (.aload_n 1, 1) := by decide +kernel
theorem dX8_isWord_30 : decode cX8_isWord 30 = .ok (.invokevirtual 146, 3) := by decide +kernel
theorem dX8_isWord_33 : decode cX8_isWord 33 = .ok (.if_icmp .ge 34, 3) := by decide +kernel
theorem dX8_isWord_36 : decode cX8_isWord 36 = .ok (.aload_n 0, 1) := by decide +kernel
theorem dX8_isWord_37 : decode cX8_isWord 37 = .ok (.getfield 81, 3) := by decide +kernel
theorem dX8_isWord_40 : decode cX8_isWord 40 = .ok (.aload_n 0, 1) := by decide +kernel
theorem dX8_isWord_41 : decode cX8_isWord 41 = .ok (.getfield 143, 3) := by decide +kernel
theorem dX8_isWord_44 : decode cX8_isWord 44 = .ok (.iload_n 3, 1) := by decide +kernel
theorem dX8_isWord_45 : decode cX8_isWord 45 = .ok (.iadd, 1) := by decide +kernel
theorem dX8_isWord_46 : decode cX8_isWord 46 = .ok (.baload, 1) := by decide +kernel
theorem dX8_isWord_47 : decode cX8_isWord 47 = .ok (.aload_n 1, 1) := by decide +kernel
theorem dX8_isWord_48 : decode cX8_isWord 48 = .ok (.iload_n 3, 1) := by decide +kernel
theorem dX8_isWord_49 : decode cX8_isWord 49 = .ok (.invokevirtual 152, 3) := by decide +kernel
theorem dX8_isWord_52 : decode cX8_isWord 52 = .ok (.if_icmp .ne 7, 3) := by decide +kernel
theorem dX8_isWord_55 : decode cX8_isWord 55 = .ok (.iconst 1, 1) := by decide +kernel
theorem dX8_isWord_56 : decode cX8_isWord 56 = .ok (.goto 4, 3) := by decide +kernel
theorem dX8_isWord_59 : decode cX8_isWord 59 = .ok (.iconst 0, 1) := by decide +kernel
theorem dX8_isWord_60 : decode cX8_isWord 60 = .ok (.istore_n 2, 1) := by decide +kernel
theorem dX8_isWord_61 : decode cX8_isWord 61 = .ok (.iinc 3 1, 3) := by decide +kernel
theorem dX8_isWord_64 : decode cX8_isWord 64 = .ok (.goto (-40), 3) := by decide +kernel
theorem dX8_isWord_67 : decode cX8_isWord 67 = .ok (.iload_n 2, 1) := by decide +kernel
theorem dX8_isWord_68 : decode cX8_isWord 68 = .ok (.ireturn, 1) := by decide +kernel
set_option maxRecDepth 20000 in
theorem ggX8_number_X8_blanks : GoodIn wsX8_number wsX8_blanks := goodIn_r _ [9, 1, 2, 10, 11, 12, 8, 13, 14, 3, 15, 16, 17, 18, 19, 20, 21, 22, 23, 24, 25, 26, 27, 28, 29, 30, 31, 32, 33, 34, 35, 36, 37, 38, 39, 40, 41, 42, 43, 44, 45, 46, 47, 48] rfl (by decide +kernel)
set_option maxRecDepth 20000 in
theorem gX8_number_X8_blanks : GoodIn wsX8_number (wsV RX8 156 RX8 yX8_blanks wsX8_blanks) := goodIn_app (goodIn_of _ (by decide +kernel)) ggX8_number_X8_blanks
set_option maxRecDepth 20000 in
theorem ggX8_number_X8_isAt : GoodIn wsX8_number wsX8_isAt := goodIn_r _ [13, 1, 14, 3, 15, 16, 17, 18, 19, 20, 21, 22, 23, 24, 25, 26, 27, 28, 29, 30, 31, 32, 33, 34, 35, 36, 37, 38, 39, 40, 41, 42, 43, 44, 45, 46, 47, 48] rfl (by decide +kernel)
set_option maxRecDepth 20000 in
theorem gX8_number_X8_isAt : GoodIn wsX8_number (wsV RX8 140 RX8 yX8_isAt wsX8_isAt) := goodIn_app (goodIn_of _ (by decide +kernel)) ggX8_number_X8_isAt
theorem dX8_number_0 : decode cX8_number 0 = .ok (.aload_n 0, 1) := by decide +kernel
theorem dX8_number_1 : decode cX8_number 1 = .ok (.invokevirtual 156, 3) := by decide +kernel
theorem dX8_number_4 : decode cX8_number 4 = .ok (.iconst 0, 1) := by decide +kernel
theorem dX8_number_5 : decode cX8_number 5 = .ok (.istore_n 3, 1) := by decide +kernel
theorem dX8_number_6 : decode cX8_number 6 = .ok (.aload_n 0, 1) := by decide +kernel
theorem dX8_number_7 : decode cX8_number 7 = .ok (.bipush 48, 2) := by decide +kernel
theorem dX8_number_9 : decode cX8_number 9 = .ok (.bipush 57, 2) := by decide +kernel
theorem dX8_number_11 : decode cX8_number 11 = .ok (.invokevirtual 140, 3) := by decide +kernel
theorem dX8_number_14 : decode cX8_number 14 = .ok (.ifCond .eq 51, 3) := by decide +kernel
theorem dX8_number_17 : decode cX8_number 17 = .ok (.aload_n 0, 1) := by decide +kernel
theorem dX8_number_18 : decode cX8_number 18 = .ok (.getfield 134, 3) := by decide +kernel
theorem dX8_number_21 : decode cX8_number 21 = .ok (.aload_n 0, 1) := by decide +kernel
theorem dX8_number_22 : decode cX8_number 22 = .ok (.getfield 143, 3) := by decide +kernel
theorem dX8_number_25 : decode cX8_number 25 = .ok (.isub, 1) := by decide +kernel
theorem dX8_number_26 : decode cX8_number 26 = .ok (.iconst 5, 1) := by decide +kernel
theorem dX8_number_27 : decode cX8_number 27 = .ok (.if_icmp .ge 23, 3) := by decide +kernel
theorem dX8_number_30 : decode cX8_number 30 = .ok (.bipush 10, 2) := by decide +kernel
theorem dX8_number_32 : decode cX8_number 32 = .ok (.iload_n 3, 1) := by decide +kernel
theorem dX8_number_33 : decode cX8_number 33 = .ok (.imul, 1) := by decide +kernel
theorem dX8_number_34 : decode cX8_number 34 = .ok (.aload_n 0, 1) := by decide +kernel
theorem dX8_number_35 : decode cX8_number 35 = .ok (.getfield 81, 3) := by decide +kernel
theorem dX8_number_38 : decode cX8_number 38 = .ok (.aload_n 0, 1) := by decide +kernel
theorem dX8_number_39 : decode cX8_number 39 = .ok (.getfield 134, 3) := by decide +kernel
theorem dX8_number_42 : decode cX8_number 42 = .ok (.baload, 1) := by decide +kernel
theorem dX8_number_43 : decode cX8_number 43 = .ok (.iadd, 1) := by decide +kernel
theorem dX8_number_44 : decode cX8_number 44 = .ok (.bipush 48, 2) := by decide +kernel
theorem dX8_number_46 : decode cX8_number 46 = .ok (.isub, 1) := by decide +kernel
theorem dX8_number_47 : decode cX8_number 47 = .ok (.goto 4, 3) := by decide +kernel
theorem dX8_number_50 : decode cX8_number 50 = .ok (.iload_n 3, 1) := by decide +kernel
theorem dX8_number_51 : decode cX8_number 51 = .ok (.istore_n 3, 1) := by decide +kernel
theorem dX8_number_52 : decode cX8_number 52 = .ok (.aload_n 0, 1) := by decide +kernel
theorem dX8_number_53 : decode cX8_number 53 = .ok (.dup, 1) := by decide +kernel
theorem dX8_number_54 : decode cX8_number 54 = .ok (.getfield 134, 3) := by decide +kernel
theorem dX8_number_57 : decode cX8_number 57 = .ok (.iconst 1, 1) := by decide +kernel
theorem dX8_number_58 : decode cX8_number 58 = .ok (.iadd, 1) := by decide +kernel
theorem dX8_number_59 : decode cX8_number 59 = .ok (.putfield 134, 3) := by decide +kernel
theorem dX8_number_62 : decode cX8_number 62 = .ok (.goto (-56), 3) := by decide +kernel
theorem dX8_number_65 : decode cX8_number 65 = .ok (.aload_n 0, 1) := by decide +kernel
theorem dX8_number_66 : decode cX8_number 66 = .ok (.getfield 78, 3) := by decide +kernel
theorem dX8_number_69 : decode cX8_number 69 = .ok (.iload_n 1, 1) := by decide +kernel
theorem dX8_number_70 : decode cX8_number 70 = .ok (.iload_n 3, 1) := by decide +kernel
theorem dX8_number_71 : decode cX8_number 71 = .ok (.iastore, 1) := by decide +kernel
theorem dX8_number_72 : decode cX8_number 72 = .ok (.aload_n 0, 1) := by decide +kernel
theorem dX8_number_73 : decode cX8_number 73 = .ok (.getfield 134, 3) := by decide +kernel
theorem dX8_number_76 : decode cX8_number 76 = .ok (.aload_n 0, 1) := by decide +kernel
theorem dX8_number_77 : decode cX8_number 77 = .ok (.getfield 143, 3) := by decide +kernel
theorem dX8_number_80 : decode cX8_number 80 = .ok (.if_icmp .le 26, 3) := by decide +kernel
theorem dX8_number_83 : decode cX8_number 83 = .ok (.aload_n 0, 1) := by decide +kernel
theorem dX8_number_84 : decode cX8_number 84 = .ok (.getfield 134, 3) := by decide +kernel
theorem dX8_number_87 : decode cX8_number 87 = .ok (.aload_n 0, 1) := by decide +kernel
theorem dX8_number_88 : decode cX8_number 88 = .ok (.getfield 143, 3) := by decide +kernel
theorem dX8_number_91 : decode cX8_number 91 = .ok (.isub, 1) := by decide +kernel
theorem dX8_number_92 : decode cX8_number 92 = .ok (.bipush 6, 2) := by decide +kernel
theorem dX8_number_94 : decode cX8_number 94 = .ok (.if_icmp .ge 12, 3) := by decide +kernel
theorem dX8_number_97 : decode cX8_number 97 = .ok (.iload_n 3, 1) := by decide +kernel
theorem dX8_number_98 : decode cX8_number 98 = .ok (.iload_n 2, 1) := by decide +kernel
theorem dX8_number_99 : decode cX8_number 99 = .ok (.if_icmp .gt 7, 3) := by decide +kernel
theorem dX8_number_102 : decode cX8_number 102 = .ok (.iconst 1, 1) := by decide +kernel
theorem dX8_number_103 : decode cX8_number 103 = .ok (.goto 4, 3) := by decide +kernel
theorem dX8_number_106 : decode cX8_number 106 = .ok (.iconst 0, 1) := by decide +kernel
theorem dX8_number_107 : decode cX8_number 107 = .ok (.ireturn, 1) := by decide +kernel
set_option maxRecDepth 20000 in
theorem ggX8_readRule_X8_blanks : GoodIn wsX8_readRule wsX8_blanks := goodIn_r _ [6, 1, 7, 8, 9, 10, 5, 11, 12, 13, 72, 73, 74, 75, 76, 77, 78, 79, 80, 81, 82, 83, 84, 85, 86, 87, 88, 89, 90, 91, 92, 93, 94, 95, 96, 97, 98, 99, 100, 101, 102, 103, 104, 105] rfl (by decide +kernel)
set_option maxRecDepth 20000 in
theorem gX8_readRule_X8_blanks : GoodIn wsX8_readRule (wsV RX8 156 RX8 yX8_blanks wsX8_blanks) := goodIn_app (goodIn_of _ (by decide +kernel)) ggX8_readRule_X8_blanks
set_option maxRecDepth 20000 in
theorem ggX8_readRule_X8_isAt : GoodIn wsX8_readRule wsX8_isAt := goodIn_r _ [11, 1, 12, 13, 72, 73, 74, 75, 76, 77, 78, 79, 80, 81, 82, 83, 84, 85, 86, 87, 88, 89, 90, 91, 92, 93, 94, 95, 96, 97, 98, 99, 100, 101, 102, 103, 104, 105] rfl (by decide +kernel)
set_option maxRecDepth 20000 in
theorem gX8_readRule_X8_isAt : GoodIn wsX8_readRule (wsV RX8 140 RX8 yX8_isAt wsX8_isAt) := goodIn_app (goodIn_of _ (by decide +kernel)) ggX8_readRule_X8_isAt
set_option maxRecDepth 20000 in
theorem ggX8_readRule_X8_isWord : GoodIn wsX8_readRule wsX8_isWord := goodIn_r _ [17, 1, 7, 13, 18, 19, 20, 21, 22, 23, 24, 25, 26, 27, 28, 29, 30, 31, 32, 33, 34, 35, 36, 37, 38, 39, 40, 41, 42, 43, 44, 45, 46, 47, 48, 49, 50, 51, 52, 53, 54, 55, 56, 57, 58, 59, 60, 61, 62, 63, 64, 65, 66, 72, 73, 74, 75, 76, 77, 78, 79, 80, 81, 82, 83, 84, 85, 86, 87, 88, 89, 90, 91, 92, 93, 94, 95, 96, 97, 98, 99, 100, 101, 102, 103, 104, 105] rfl (by decide +kernel)
set_option maxRecDepth 20000 in
theorem gX8_readRule_X8_isWord : GoodIn wsX8_readRule (wsV RX8 161 RX8 yX8_isWord wsX8_isWord) := goodIn_app (goodIn_of _ (by decide +kernel)) ggX8_readRule_X8_isWord
set_option maxRecDepth 20000 in
theorem ggX8_readRule_X8_number : GoodIn wsX8_readRule wsX8_number := goodIn_r _ [70, 1, 7, 13, 71, 2, 3, 4, 5, 6, 8, 9, 10, 11, 12, 72, 73, 74, 75, 76, 77, 78, 79, 80, 81, 82, 83, 84, 85, 86, 87, 88, 89, 90, 91, 92, 93, 94, 95, 96, 97, 98, 99, 100, 101, 102, 103, 104, 105] rfl (by decide +kernel)
set_option maxRecDepth 20000 in
theorem gX8_readRule_X8_number : GoodIn wsX8_readRule (wsV RX8 165 RX8 yX8_number wsX8_number) := goodIn_app (goodIn_of _ (by decide +kernel)) ggX8_readRule_X8_number
theorem dX8_readRule_0 : decode cX8_readRule 0 = .ok (.aload_n 0, 1) := by decide +kernel
theorem dX8_readRule_1 : decode cX8_readRule 1 = .ok (.invokevirtual 156, 3) := by decide +kernel
theorem dX8_readRule_4 : decode cX8_readRule 4 = .ok (.aload_n 0, 1) := by decide +kernel
theorem dX8_readRule_5 : decode cX8_readRule 5 = .ok (.bipush 97, 2) := by decide +kernel
theorem dX8_readRule_7 : decode cX8_readRule 7 = .ok (.bipush 122, 2) := by decide +kernel
theorem dX8_readRule_9 : decode cX8_readRule 9 = .ok (.invokevirtual 140, 3) := by decide +kernel
theorem dX8_readRule_12 : decode cX8_readRule 12 = .ok (.ifCond .eq 16, 3) := by decide +kernel
theorem dX8_readRule_15 : decode cX8_readRule 15 = .ok (.aload_n 0, 1) := by decide +kernel
theorem dX8_readRule_16 : decode cX8_readRule 16 = .ok (.dup, 1) := by decide +kernel
theorem dX8_readRule_17 : decode cX8_readRule 17 = .ok (.getfield 134, 3) := by decide +kernel
theorem dX8_readRule_20 : decode cX8_readRule 20 = .ok (.iconst 1, 1) := by decide +kernel
theorem dX8_readRule_21 : decode cX8_readRule 21 = .ok (.iadd, 1) := by decide +kernel
theorem dX8_readRule_22 : decode cX8_readRule 22 = .ok (.putfield 134, 3) := by decide +kernel
theorem dX8_readRule_25 : decode cX8_readRule 25 = .ok (.goto (-21), 3) := by decide +kernel
theorem dX8_readRule_28 : decode cX8_readRule 28 = .ok (.aload_n 0, 1) := by decide +kernel
theorem dX8_readRule_29 : decode cX8_readRule 29 = .ok (.ldc 159, 2) := by decide +kernel
theorem dX8_readRule_31 : decode cX8_readRule 31 = .ok (.invokevirtual 161, 3) := by decide +kernel
theorem dX8_readRule_34 : decode cX8_readRule 34 = .ok (.ifCond .eq 12, 3) := by decide +kernel
theorem dX8_readRule_37 : decode cX8_readRule 37 = .ok (.aload_n 0, 1) := by decide +kernel
theorem dX8_readRule_38 : decode cX8_readRule 38 = .ok (.iconst 0, 1) := by decide +kernel
theorem dX8_readRule_39 : decode cX8_readRule 39 = .ok (.sipush 2000, 3) := by decide +kernel
theorem dX8_readRule_42 : decode cX8_readRule 42 = .ok (.invokevirtual 165, 3) := by decide +kernel
theorem dX8_readRule_45 : decode cX8_readRule 45 = .ok (.ireturn, 1) := by decide +kernel
theorem dX8_readRule_46 : decode cX8_readRule 46 = .ok (.aload_n 0, 1) := by decide +kernel
theorem dX8_readRule_47 : decode cX8_readRule 47 = .ok (.ldc 168, 2) := by decide +kernel
theorem dX8_readRule_49 : decode cX8_readRule 49 = .ok (.invokevirtual 161, 3) := by decide +kernel
theorem dX8_readRule_52 : decode cX8_readRule 52 = .ok (.ifCond .eq 11, 3) := by decide +kernel
theorem dX8_readRule_55 : decode cX8_readRule 55 = .ok (.aload_n 0, 1) := by decide +kernel
theorem dX8_readRule_56 : decode cX8_readRule 56 = .ok (.iconst 1, 1) := by decide +kernel
theorem dX8_readRule_57 : decode cX8_readRule 57 = .ok (.bipush 100, 2) := by decide +kernel
theorem dX8_readRule_59 : decode cX8_readRule 59 = .ok (.invokevirtual 165, 3) := by decide +kernel
theorem dX8_readRule_62 : decode cX8_readRule 62 = .ok (.ireturn, 1) := by decide +kernel
theorem dX8_readRule_63 : decode cX8_readRule 63 = .ok (.aload_n 0, 1) := by decide +kernel
theorem dX8_readRule_64 : decode cX8_readRule 64 = .ok (.ldc 170, 2) := by decide +kernel
theorem dX8_readRule_66 : decode cX8_readRule 66 = .ok (.invokevirtual 161, 3) := by decide +kernel
theorem dX8_readRule_69 : decode cX8_readRule 69 = .ok (.ifCond .eq 11, 3) := by decide +kernel
theorem dX8_readRule_72 : decode cX8_readRule 72 = .ok (.aload_n 0, 1) := by decide +kernel
theorem dX8_readRule_73 : decode cX8_readRule 73 = .ok (.iconst 2, 1) := by decide +kernel
theorem dX8_readRule_74 : decode cX8_readRule 74 = .ok (.bipush 99, 2) := by decide +kernel
theorem dX8_readRule_76 : decode cX8_readRule 76 = .ok (.invokevirtual 165, 3) := by decide +kernel
theorem dX8_readRule_79 : decode cX8_readRule 79 = .ok (.ireturn, 1) := by decide +kernel
theorem dX8_readRule_80 : decode cX8_readRule 80 = .ok (.aload_n 0, 1) := by decide +kernel
theorem dX8_readRule_81 : decode cX8_readRule 81 = .ok (.ldc 172, 2) := by decide +kernel
theorem dX8_readRule_83 : decode cX8_readRule 83 = .ok (.invokevirtual 161, 3) := by decide +kernel
theorem dX8_readRule_86 : decode cX8_readRule 86 = .ok (.ifCond .eq 10, 3) := by decide +kernel
theorem dX8_readRule_89 : decode cX8_readRule 89 = .ok (.aload_n 0, 1) := by decide +kernel
theorem dX8_readRule_90 : decode cX8_readRule 90 = .ok (.iconst 3, 1) := by decide +kernel
theorem dX8_readRule_91 : decode cX8_readRule 91 = .ok (.iconst 3, 1) := by decide +kernel
theorem dX8_readRule_92 : decode cX8_readRule 92 = .ok (.invokevirtual 165, 3) := by decide +kernel
theorem dX8_readRule_95 : decode cX8_readRule 95 = .ok (.ireturn, 1) := by decide +kernel
theorem dX8_readRule_96 : decode cX8_readRule 96 = .ok (.aload_n 0, 1) := by decide +kernel
theorem dX8_readRule_97 : decode cX8_readRule 97 = .ok (.ldc 174, 2) := by decide +kernel
theorem dX8_readRule_99 : decode cX8_readRule 99 = .ok (.invokevirtual 161, 3) := by decide +kernel
theorem dX8_readRule_102 : decode cX8_readRule 102 = .ok (.ifCond .eq 18, 3) := by decide +kernel
theorem dX8_readRule_105 : decode cX8_readRule 105 = .ok (.aload_n 0, 1) := by decide +kernel
theorem dX8_readRule_106 : decode cX8_readRule 106 = .ok (.iconst 4, 1) := by decide +kernel
theorem dX8_readRule_107 : decode cX8_readRule 107 = .ok (.sipush 15000, 3) := by decide +kernel
theorem dX8_readRule_110 : decode cX8_readRule 110 = .ok (.invokevirtual 165, 3) := by decide +kernel
theorem dX8_readRule_113 : decode cX8_readRule 113 = .ok (.ifCond .eq 7, 3) := by decide +kernel
theorem dX8_readRule_116 : decode cX8_readRule 116 = .ok (.iconst 1, 1) := by decide +kernel
theorem dX8_readRule_117 : decode cX8_readRule 117 = .ok (.goto 4, 3) := by decide +kernel
theorem dX8_readRule_120 : decode cX8_readRule 120 = .ok (.iconst 0, 1) := by decide +kernel
theorem dX8_readRule_121 : decode cX8_readRule 121 = .ok (.ireturn, 1) := by decide +kernel
set_option maxRecDepth 20000 in
theorem ggX8_rules_X8_readRule : GoodIn wsX8_rules wsX8_readRule := goodIn_r _ [13, 4, 14, 15, 16, 12, 17, 6, 18, 19, 20, 21, 3, 22, 23, 24, 25, 26, 27, 28, 29, 30, 31, 32, 33, 34, 35, 36, 37, 38, 39, 40, 41, 42, 43, 44, 45, 46, 47, 48, 49, 50, 51, 52, 53, 54, 55, 56, 57, 58, 59, 60, 61, 62, 63, 64, 65, 66, 67, 68, 69, 70, 71, 72, 73, 74, 75, 76, 77, 78, 79, 5, 84, 85, 86, 87, 88, 89, 90, 91, 92, 93, 94, 95, 96, 97, 98, 99, 100, 101, 102, 103, 104, 105, 106, 107, 108, 109, 110, 111, 112, 113, 114, 115, 116, 117] rfl (by decide +kernel)
set_option maxRecDepth 20000 in
theorem gX8_rules_X8_readRule : GoodIn wsX8_rules (wsV RX8 175 RX8 yX8_readRule wsX8_readRule) := goodIn_app (goodIn_of _ (by decide +kernel)) ggX8_rules_X8_readRule
set_option maxRecDepth 20000 in
theorem ggX8_rules_X8_blanks : GoodIn wsX8_rules wsX8_blanks := goodIn_r _ [17, 4, 6, 18, 19, 20, 12, 21, 3, 22, 84, 85, 86, 87, 88, 89, 90, 91, 92, 93, 94, 95, 96, 97, 98, 99, 100, 101, 102, 103, 104, 105, 106, 107, 108, 109, 110, 111, 112, 113, 114, 115, 116, 117] rfl (by decide +kernel)
set_option maxRecDepth 20000 in
theorem gX8_rules_X8_blanks : GoodIn wsX8_rules (wsV RX8 156 RX8 yX8_blanks wsX8_blanks) := goodIn_app (goodIn_of _ (by decide +kernel)) ggX8_rules_X8_blanks
set_option maxRecDepth 20000 in
theorem ggX8_rules_X8_isAt : GoodIn wsX8_rules wsX8_isAt := goodIn_r _ [21, 4, 3, 22, 84, 85, 86, 87, 88, 89, 90, 91, 92, 93, 94, 95, 96, 97, 98, 99, 100, 101, 102, 103, 104, 105, 106, 107, 108, 109, 110, 111, 112, 113, 114, 115, 116, 117] rfl (by decide +kernel)
set_option maxRecDepth 20000 in
theorem gX8_rules_X8_isAt : GoodIn wsX8_rules (wsV RX8 140 RX8 yX8_isAt wsX8_isAt) := goodIn_app (goodIn_of _ (by decide +kernel)) ggX8_rules_X8_isAt
set_option maxRecDepth 20000 in
theorem ggX8_rules_X8_throwsIf : GoodIn wsX8_rules wsX8_throwsIf := goodIn_r _ [83, 1, 84, 85, 86, 87, 88, 89, 90, 91, 92, 93, 94, 95, 96, 97, 98, 99, 100, 101, 102, 103, 104, 105, 106, 107, 108, 109, 110, 111, 112, 113, 114, 115, 116, 117] rfl (by decide +kernel)
set_option maxRecDepth 20000 in
theorem gX8_rules_X8_throwsIf : GoodIn wsX8_rules (wsV RX8 101 RX8 yX8_throwsIf wsX8_throwsIf) := goodIn_app (goodIn_of _ (by decide +kernel)) ggX8_rules_X8_throwsIf
theorem dX8_rules_0 : decode cX8_rules 0 = .ok (.aload_n 0, 1) := by decide +kernel
theorem dX8_rules_1 : decode cX8_rules 1 = .ok (.iconst 0, 1) := by decide +kernel
theorem dX8_rules_2 : decode cX8_rules 2 = .ok (.putfield 1, 3) := by decide +kernel
theorem dX8_rules_5 : decode cX8_rules 5 = .ok (.aload_n 0, 1) := by decide +kernel
theorem dX8_rules_6 : decode cX8_rules 6 = .ok (.aload_n 0, 1) := by decide +kernel
theorem dX8_rules_7 : decode cX8_rules 7 = .ok (.getfield 131, 3) := by decide +kernel
theorem dX8_rules_10 : decode cX8_rules 10 = .ok (.putfield 137, 3) := by decide +kernel
theorem dX8_rules_13 : decode cX8_rules 13 = .ok (.aload_n 0, 1) := by decide +kernel
theorem dX8_rules_14 : decode cX8_rules 14 = .ok (.iconst 0, 1) := by decide +kernel
theorem dX8_rules_15 : decode cX8_rules 15 = .ok (.putfield 131, 3) := by decide +kernel
theorem dX8_rules_18 : decode cX8_rules 18 = .ok (.aload_n 0, 1) := by decide +kernel
theorem dX8_rules_19 : decode cX8_rules 19 = .ok (.iconst 0, 1) := by decide +kernel
theorem dX8_rules_20 : decode cX8_rules 20 = .ok (.putfield 134, 3) := by decide +kernel
theorem dX8_rules_23 : decode cX8_rules 23 = .ok (.iconst 0, 1) := by decide +kernel
theorem dX8_rules_24 : decode cX8_rules 24 = .ok (.istore_n 1, 1) := by decide +kernel
theorem dX8_rules_25 : decode cX8_rules 25 = .ok (.iload_n 1, 1) := by decide +kernel
theorem dX8_rules_26 : decode cX8_rules 26 = .ok (.iconst 5, 1) := by decide +kernel
theorem dX8_rules_27 : decode cX8_rules 27 = .ok (.if_icmp .ge 16, 3) := by decide +kernel
theorem dX8_rules_30 : decode cX8_rules 30 = .ok (.aload_n 0, 1) := by decide +kernel
theorem dX8_rules_31 : decode cX8_rules 31 = .ok (.getfield 78, 3) := by decide +kernel
theorem dX8_rules_34 : decode cX8_rules 34 = .ok (.iload_n 1, 1) := by decide +kernel
theorem dX8_rules_35 : decode cX8_rules 35 = .ok (.iconst 0, 1) := by decide +kernel
theorem dX8_rules_36 : decode cX8_rules 36 = .ok (.iastore, 1) := by decide +kernel
theorem dX8_rules_37 : decode cX8_rules 37 = .ok (.iinc 1 1, 3) := by decide +kernel
theorem dX8_rules_40 : decode cX8_rules 40 = .ok (.goto (-15), 3) := by decide +kernel
theorem dX8_rules_43 : decode cX8_rules 43 = .ok (.iconst 0, 1) := by decide +kernel
theorem dX8_rules_44 : decode cX8_rules 44 = .ok (.istore_n 1, 1) := by decide +kernel
theorem dX8_rules_45 : decode cX8_rules 45 = .ok (.aload_n 0, 1) := by decide +kernel
theorem dX8_rules_46 : decode cX8_rules 46 = .ok (.invokevirtual 175, 3) := by decide +kernel
theorem dX8_rules_49 : decode cX8_rules 49 = .ok (.istore_n 2, 1) := by decide +kernel
theorem dX8_rules_50 : decode cX8_rules 50 = .ok (.iload_n 2, 1) := by decide +kernel
theorem dX8_rules_51 : decode cX8_rules 51 = .ok (.ifCond .eq 58, 3) := by decide +kernel
theorem dX8_rules_54 : decode cX8_rules 54 = .ok (.iinc 1 1, 3) := by decide +kernel
theorem dX8_rules_57 : decode cX8_rules 57 = .ok (.aload_n 0, 1) := by decide +kernel
theorem dX8_rules_58 : decode cX8_rules 58 = .ok (.invokevirtual 156, 3) := by decide +kernel
theorem dX8_rules_61 : decode cX8_rules 61 = .ok (.aload_n 0, 1) := by decide +kernel
theorem dX8_rules_62 : decode cX8_rules 62 = .ok (.getfield 134, 3) := by decide +kernel
theorem dX8_rules_65 : decode cX8_rules 65 = .ok (.aload_n 0, 1) := by decide +kernel
theorem dX8_rules_66 : decode cX8_rules 66 = .ok (.getfield 137, 3) := by decide +kernel
theorem dX8_rules_69 : decode cX8_rules 69 = .ok (.if_icmp .ne 6, 3) := by decide +kernel
theorem dX8_rules_72 : decode cX8_rules 72 = .ok (.goto 37, 3) := by decide +kernel
theorem dX8_rules_75 : decode cX8_rules 75 = .ok (.aload_n 0, 1) := by decide +kernel
theorem dX8_rules_76 : decode cX8_rules 76 = .ok (.bipush 59, 2) := by decide +kernel
theorem dX8_rules_78 : decode cX8_rules 78 = .ok (.bipush 59, 2) := by decide +kernel
theorem dX8_rules_80 : decode cX8_rules 80 = .ok (.invokevirtual 140, 3) := by decide +kernel
theorem dX8_rules_83 : decode cX8_rules 83 = .ok (.istore_n 2, 1) := by decide +kernel
theorem dX8_rules_84 : decode cX8_rules 84 = .ok (.iload_n 2, 1) := by decide +kernel
theorem dX8_rules_85 : decode cX8_rules 85 = .ok (.ifCond .ne 6, 3) := by decide +kernel
theorem dX8_rules_88 : decode cX8_rules 88 = .ok (.goto 21, 3) := by decide +kernel
theorem dX8_rules_91 : decode cX8_rules 91 = .ok (.aload_n 0, 1) := by decide +kernel
theorem dX8_rules_92 : decode cX8_rules 92 = .ok (.dup, 1) := by decide +kernel
theorem dX8_rules_93 : decode cX8_rules 93 = .ok (.getfield 134, 3) := by decide +kernel
theorem dX8_rules_96 : decode cX8_rules 96 = .ok (.iconst 1, 1) := by decide +kernel
theorem dX8_rules_97 : decode cX8_rules 97 = .ok (.iadd, 1) := by decide +kernel
theorem dX8_rules_98 : decode cX8_rules 98 = .ok (.putfield 134, 3) := by decide +kernel
theorem dX8_rules_101 : decode cX8_rules 101 = .ok (.aload_n 0, 1) := by decide +kernel
theorem dX8_rules_102 : decode cX8_rules 102 = .ok (.invokevirtual 175, 3) := by decide +kernel
theorem dX8_rules_105 : decode cX8_rules 105 = .ok (.istore_n 2, 1) := by decide +kernel
theorem dX8_rules_106 : decode cX8_rules 106 = .ok (.goto (-56), 3) := by decide +kernel
theorem dX8_rules_109 : decode cX8_rules 109 = .ok (.aload_n 0, 1) := by decide +kernel
theorem dX8_rules_110 : decode cX8_rules 110 = .ok (.iload_n 2, 1) := by decide +kernel
theorem dX8_rules_111 : decode cX8_rules 111 = .ok (.ifCond .eq 7, 3) := by decide +kernel
theorem dX8_rules_114 : decode cX8_rules 114 = .ok (.iconst (-1), 1) := by decide +kernel
theorem dX8_rules_115 : decode cX8_rules 115 = .ok (.goto 7, 3) := by decide +kernel
theorem dX8_rules_118 : decode cX8_rules 118 = .ok (.aload_n 0, 1) := by decide +kernel
theorem dX8_rules_119 : decode cX8_rules 119 = .ok (.getfield 143, 3) := by decide +kernel
theorem dX8_rules_122 : decode cX8_rules 122 = .ok (.putfield 85, 3) := by decide +kernel
theorem dX8_rules_125 : decode cX8_rules 125 = .ok (.aload_n 0, 1) := by decide +kernel
theorem dX8_rules_126 : decode cX8_rules 126 = .ok (.iload_n 2, 1) := by decide +kernel
theorem dX8_rules_127 : decode cX8_rules 127 = .ok (.ifCond .ne 7, 3) := by decide +kernel
theorem dX8_rules_130 : decode cX8_rules 130 = .ok (.iconst 1, 1) := by decide +kernel
theorem dX8_rules_131 : decode cX8_rules 131 = .ok (.goto 4, 3) := by decide +kernel
theorem dX8_rules_134 : decode cX8_rules 134 = .ok (.iconst 0, 1) := by decide +kernel
theorem dX8_rules_135 : decode cX8_rules 135 = .ok (.iconst 1, 1) := by decide +kernel
theorem dX8_rules_136 : decode cX8_rules 136 = .ok (.invokevirtual 101, 3) := by decide +kernel
theorem dX8_rules_139 : decode cX8_rules 139 = .ok (.ifCond .eq 5, 3) := by decide +kernel
theorem dX8_rules_142 : decode cX8_rules 142 = .ok (.iconst 0, 1) := by decide +kernel
theorem dX8_rules_143 : decode cX8_rules 143 = .ok (.ireturn, 1) := by decide +kernel
theorem dX8_rules_144 : decode cX8_rules 144 = .ok (.iconst 0, 1) := by decide +kernel
theorem dX8_rules_145 : decode cX8_rules 145 = .ok (.istore_n 3, 1) := by decide +kernel
theorem dX8_rules_146 : decode cX8_rules 146 = .ok (.iload_n 3, 1) := by decide +kernel
theorem dX8_rules_147 : decode cX8_rules 147 = .ok (.iconst 5, 1) := by decide +kernel
theorem dX8_rules_148 : decode cX8_rules 148 = .ok (.if_icmp .ge 21, 3) := by decide +kernel
theorem dX8_rules_151 : decode cX8_rules 151 = .ok (.aload_n 0, 1) := by decide +kernel
theorem dX8_rules_152 : decode cX8_rules 152 = .ok (.getfield 75, 3) := by decide +kernel
theorem dX8_rules_155 : decode cX8_rules 155 = .ok (.iload_n 3, 1) := by decide +kernel
theorem dX8_rules_156 : decode cX8_rules 156 = .ok (.aload_n 0, 1) := by decide +kernel
theorem dX8_rules_157 : decode cX8_rules 157 = .ok (.getfield 78, 3) := by decide +kernel
theorem dX8_rules_160 : decode cX8_rules 160 = .ok (.iload_n 3, 1) := by decide +kernel
theorem dX8_rules_161 : decode cX8_rules 161 = .ok (.iaload, 1) := by decide +kernel
theorem dX8_rules_162 : decode cX8_rules 162 = .ok (.iastore, 1) := by decide +kernel
theorem dX8_rules_163 : decode cX8_rules 163 = .ok (.iinc 3 1, 3) := by decide +kernel
theorem dX8_rules_166 : decode cX8_rules 166 = .ok (.goto (-20), 3) := by decide +kernel
theorem dX8_rules_169 : decode cX8_rules 169 = .ok (.iload_n 1, 1) := by decide +kernel
theorem dX8_rules_170 : decode cX8_rules 170 = .ok (.ireturn, 1) := by decide +kernel
theorem dX8_fault_0 : decode cX8_fault 0 = .ok (.aload_n 0, 1) := by decide +kernel
theorem dX8_fault_1 : decode cX8_fault 1 = .ok (.iconst 0, 1) := by decide +kernel
theorem dX8_fault_2 : decode cX8_fault 2 = .ok (.putfield 1, 3) := by decide +kernel
theorem dX8_fault_5 : decode cX8_fault 5 = .ok (.aload_n 0, 1) := by decide +kernel
theorem dX8_fault_6 : decode cX8_fault 6 = .ok (.getfield 85, 3) := by decide +kernel
theorem dX8_fault_9 : decode cX8_fault 9 = .ok (.ireturn, 1) := by decide +kernel
theorem dX8_knownOf_0 : decode cX8_knownOf 0 = .ok (.iconst (-1), 1) := by decide +kernel
theorem dX8_knownOf_1 : decode cX8_knownOf 1 = .ok (.istore 4, 2) := by decide +kernel
theorem dX8_knownOf_3 : decode cX8_knownOf 3 = .ok (.iconst 0, 1) := by decide +kernel
theorem dX8_knownOf_4 : decode cX8_knownOf 4 = .ok (.istore 5, 2) := by decide +kernel
theorem dX8_knownOf_6 : decode cX8_knownOf 6 = .ok (.iload 5, 2) := by decide +kernel
theorem dX8_knownOf_8 : decode cX8_knownOf 8 = .ok (.aload_n 0, 1) := by decide +kernel
theorem dX8_knownOf_9 : decode cX8_knownOf 9 = .ok (.getfield 179, 3) := by decide +kernel
theorem dX8_knownOf_12 : decode cX8_knownOf 12 = .ok (.if_icmp .ge 68, 3) := by decide +kernel
theorem dX8_knownOf_15 : decode cX8_knownOf 15 = .ok (.aload_n 0, 1) := by decide +kernel
theorem dX8_knownOf_16 : decode cX8_knownOf 16 = .ok (.getfield 63, 3) := by decide +kernel
theorem dX8_knownOf_19 : decode cX8_knownOf 19 = .ok (.iload 5, 2) := by decide +kernel
theorem dX8_knownOf_21 : decode cX8_knownOf 21 = .ok (.iaload, 1) := by decide +kernel
theorem dX8_knownOf_22 : decode cX8_knownOf 22 = .ok (.iload_n 1, 1) := by decide +kernel
theorem dX8_knownOf_23 : decode cX8_knownOf 23 = .ok (.if_icmp .ne 51, 3) := by decide +kernel
theorem dX8_knownOf_26 : decode cX8_knownOf 26 = .ok (.aload_n 0, 1) := by decide +kernel
theorem dX8_knownOf_27 : decode cX8_knownOf 27 = .ok (.getfield 72, 3) := by decide +kernel
theorem dX8_knownOf_30 : decode cX8_knownOf 30 = .ok (.iload 5, 2) := by decide +kernel
theorem dX8_knownOf_32 : decode cX8_knownOf 32 = .ok (.iaload, 1) := by decide +kernel
theorem dX8_knownOf_33 : decode cX8_knownOf 33 = .ok (.iload_n 3, 1) := by decide +kernel
theorem dX8_knownOf_34 : decode cX8_knownOf 34 = .ok (.if_icmp .gt 40, 3) := by decide +kernel
theorem dX8_knownOf_37 : decode cX8_knownOf 37 = .ok (.aload_n 0, 1) := by decide +kernel
theorem dX8_knownOf_38 : decode cX8_knownOf 38 = .ok (.getfield 66, 3) := by decide +kernel
theorem dX8_knownOf_41 : decode cX8_knownOf 41 = .ok (.iload 5, 2) := by decide +kernel
theorem dX8_knownOf_43 : decode cX8_knownOf 43 = .ok (.iaload, 1) := by decide +kernel
theorem dX8_knownOf_44 : decode cX8_knownOf 44 = .ok (.iload_n 2, 1) := by decide +kernel
theorem dX8_knownOf_45 : decode cX8_knownOf 45 = .ok (.if_icmp .gt 29, 3) := by decide +kernel
theorem dX8_knownOf_48 : decode cX8_knownOf 48 = .ok (.iload 4, 2) := by decide +kernel
theorem dX8_knownOf_50 : decode cX8_knownOf 50 = .ok (.ifCond .lt 20, 3) := by decide +kernel
theorem dX8_knownOf_53 : decode cX8_knownOf 53 = .ok (.aload_n 0, 1) := by decide +kernel
theorem dX8_knownOf_54 : decode cX8_knownOf 54 = .ok (.getfield 66, 3) := by decide +kernel
theorem dX8_knownOf_57 : decode cX8_knownOf 57 = .ok (.iload 5, 2) := by decide +kernel
theorem dX8_knownOf_59 : decode cX8_knownOf 59 = .ok (.iaload, 1) := by decide +kernel
theorem dX8_knownOf_60 : decode cX8_knownOf 60 = .ok (.aload_n 0, 1) := by decide +kernel
theorem dX8_knownOf_61 : decode cX8_knownOf 61 = .ok (.getfield 66, 3) := by decide +kernel
theorem dX8_knownOf_64 : decode cX8_knownOf 64 = .ok (.iload 4, 2) := by decide +kernel
theorem dX8_knownOf_66 : decode cX8_knownOf 66 = .ok (.iaload, 1) := by decide +kernel
theorem dX8_knownOf_67 : decode cX8_knownOf 67 = .ok (.if_icmp .lt 7, 3) := by decide +kernel
theorem dX8_knownOf_70 : decode cX8_knownOf 70 = .ok (.iload 5, 2) := by decide +kernel
theorem dX8_knownOf_72 : decode cX8_knownOf 72 = .ok (.istore 4, 2) := by decide +kernel
theorem dX8_knownOf_74 : decode cX8_knownOf 74 = .ok (.iinc 5 1, 3) := by decide +kernel
theorem dX8_knownOf_77 : decode cX8_knownOf 77 = .ok (.goto (-71), 3) := by decide +kernel
theorem dX8_knownOf_80 : decode cX8_knownOf 80 = .ok (.iload 4, 2) := by decide +kernel
theorem dX8_knownOf_82 : decode cX8_knownOf 82 = .ok (.ifCond .ge 7, 3) := by decide +kernel
theorem dX8_knownOf_85 : decode cX8_knownOf 85 = .ok (.iconst 0, 1) := by decide +kernel
theorem dX8_knownOf_86 : decode cX8_knownOf 86 = .ok (.goto 10, 3) := by decide +kernel
theorem dX8_knownOf_89 : decode cX8_knownOf 89 = .ok (.aload_n 0, 1) := by decide +kernel
theorem dX8_knownOf_90 : decode cX8_knownOf 90 = .ok (.getfield 69, 3) := by decide +kernel
theorem dX8_knownOf_93 : decode cX8_knownOf 93 = .ok (.iload 4, 2) := by decide +kernel
theorem dX8_knownOf_95 : decode cX8_knownOf 95 = .ok (.iaload, 1) := by decide +kernel
theorem dX8_knownOf_96 : decode cX8_knownOf 96 = .ok (.ireturn, 1) := by decide +kernel
set_option maxRecDepth 20000 in
theorem ggX8_known_X8_in : GoodIn wsX8_known wsX8_in := goodIn_r _ [5] rfl (by decide +kernel)
set_option maxRecDepth 20000 in
theorem gX8_known_X8_in : GoodIn wsX8_known (va_wsS RX8 97 yX8_in wsX8_in) := goodIn_app (goodIn_of _ (by decide +kernel)) ggX8_known_X8_in
set_option maxRecDepth 20000 in
theorem ggX8_known_X8_throwsIf : GoodIn wsX8_known wsX8_throwsIf := goodIn_r _ [9, 1, 19, 20, 21, 22, 23, 24, 25, 26, 27, 28, 29, 30, 31, 32, 33, 34, 35, 36, 37, 38, 39, 40, 41, 42, 43, 44, 45, 46, 47, 48, 49, 50, 51, 52] rfl (by decide +kernel)
set_option maxRecDepth 20000 in
theorem gX8_known_X8_throwsIf : GoodIn wsX8_known (wsV RX8 101 RX8 yX8_throwsIf wsX8_throwsIf) := goodIn_app (goodIn_of _ (by decide +kernel)) ggX8_known_X8_throwsIf
set_option maxRecDepth 20000 in
theorem ggX8_known_X8_knownOf : GoodIn wsX8_known wsX8_knownOf := goodIn_r _ [13, 14, 15, 16, 17, 18, 19, 20, 21, 22, 23, 24, 25, 26, 27, 28, 29, 30, 31, 32, 33, 34, 35, 36, 37, 38, 39, 40, 41, 42, 43, 44, 45, 46, 47, 48, 49, 50, 51, 52] rfl (by decide +kernel)
set_option maxRecDepth 20000 in
theorem gX8_known_X8_knownOf : GoodIn wsX8_known (wsV RX8 182 RX8 yX8_knownOf wsX8_knownOf) := goodIn_app (goodIn_of _ (by decide +kernel)) ggX8_known_X8_knownOf
theorem dX8_known_0 : decode cX8_known 0 = .ok (.aload_n 0, 1) := by decide +kernel
theorem dX8_known_1 : decode cX8_known 1 = .ok (.iconst 0, 1) := by decide +kernel
theorem dX8_known_2 : decode cX8_known 2 = .ok (.putfield 1, 3) := by decide +kernel
theorem dX8_known_5 : decode cX8_known 5 = .ok (.aload_n 0, 1) := by decide +kernel
theorem dX8_known_6 : decode cX8_known 6 = .ok (.iload_n 1, 1) := by decide +kernel
theorem dX8_known_7 : decode cX8_known 7 = .ok (.iconst 0, 1) := by decide +kernel
theorem dX8_known_8 : decode cX8_known 8 = .ok (.bipush 9, 2) := by decide +kernel
theorem dX8_known_10 : decode cX8_known 10 = .ok (.invokestatic 97, 3) := by decide +kernel
theorem dX8_known_13 : decode cX8_known 13 = .ok (.ifCond .ne 7, 3) := by decide +kernel
theorem dX8_known_16 : decode cX8_known 16 = .ok (.iconst 1, 1) := by decide +kernel
theorem dX8_known_17 : decode cX8_known 17 = .ok (.goto 4, 3) := by decide +kernel
theorem dX8_known_20 : decode cX8_known 20 = .ok (.iconst 0, 1) := by decide +kernel
theorem dX8_known_21 : decode cX8_known 21 = .ok (.iconst 1, 1) := by decide +kernel
theorem dX8_known_22 : decode cX8_known 22 = .ok (.invokevirtual 101, 3) := by decide +kernel
theorem dX8_known_25 : decode cX8_known 25 = .ok (.ifCond .eq 7, 3) := by decide +kernel
theorem dX8_known_28 : decode cX8_known 28 = .ok (.iconst 0, 1) := by decide +kernel
theorem dX8_known_29 : decode cX8_known 29 = .ok (.goto 10, 3) := by decide +kernel
theorem dX8_known_32 : decode cX8_known 32 = .ok (.aload_n 0, 1) := by decide +kernel
theorem dX8_known_33 : decode cX8_known 33 = .ok (.iload_n 1, 1) := by decide +kernel
theorem dX8_known_34 : decode cX8_known 34 = .ok (.iload_n 2, 1) := by decide +kernel
theorem dX8_known_35 : decode cX8_known 35 = .ok (.iload_n 3, 1) := by decide +kernel
theorem dX8_known_36 : decode cX8_known 36 = .ok (.invokevirtual 182, 3) := by decide +kernel
theorem dX8_known_39 : decode cX8_known 39 = .ok (.ireturn, 1) := by decide +kernel
set_option maxRecDepth 20000 in
theorem ggX8_fed_X8_in : GoodIn wsX8_fed wsX8_in := goodIn_r _ [16] rfl (by decide +kernel)
set_option maxRecDepth 20000 in
theorem gX8_fed_X8_in : GoodIn wsX8_fed (va_wsS RX8 97 yX8_in wsX8_in) := goodIn_app (goodIn_of _ (by decide +kernel)) ggX8_fed_X8_in
set_option maxRecDepth 20000 in
theorem ggX8_fed_X8_throwsIf : GoodIn wsX8_fed wsX8_throwsIf := goodIn_r _ [20, 1, 25, 26, 27, 28, 29, 30, 31, 32, 33, 34, 35, 36, 37, 38, 39, 40, 41, 42, 43, 44, 45, 46, 47, 48, 49, 50, 51, 52, 53, 54, 55, 56, 57, 58] rfl (by decide +kernel)
set_option maxRecDepth 20000 in
theorem gX8_fed_X8_throwsIf : GoodIn wsX8_fed (wsV RX8 101 RX8 yX8_throwsIf wsX8_throwsIf) := goodIn_app (goodIn_of _ (by decide +kernel)) ggX8_fed_X8_throwsIf
set_option maxRecDepth 20000 in
theorem ggX8_fed_X8_knownOf : GoodIn wsX8_fed wsX8_knownOf := goodIn_r _ [24, 2, 3, 6, 4, 5, 25, 26, 27, 28, 29, 30, 31, 32, 33, 34, 35, 36, 37, 38, 39, 40, 41, 42, 43, 44, 45, 46, 47, 48, 49, 50, 51, 52, 53, 54, 55, 56, 57, 58] rfl (by decide +kernel)
set_option maxRecDepth 20000 in
theorem gX8_fed_X8_knownOf : GoodIn wsX8_fed (wsV RX8 182 RX8 yX8_knownOf wsX8_knownOf) := goodIn_app (goodIn_of _ (by decide +kernel)) ggX8_fed_X8_knownOf
theorem dX8_fed_0 : decode cX8_fed 0 = .ok (.aload_n 0, 1) := by decide +kernel
theorem dX8_fed_1 : decode cX8_fed 1 = .ok (.iconst 0, 1) := by decide +kernel
theorem dX8_fed_2 : decode cX8_fed 2 = .ok (.putfield 1, 3) := by decide +kernel
theorem dX8_fed_5 : decode cX8_fed 5 = .ok (.aload_n 0, 1) := by decide +kernel
theorem dX8_fed_6 : decode cX8_fed 6 = .ok (.iload_n 1, 1) := by decide +kernel
theorem dX8_fed_7 : decode cX8_fed 7 = .ok (.iconst 0, 1) := by decide +kernel
theorem dX8_fed_8 : decode cX8_fed 8 = .ok (.bipush 9, 2) := by decide +kernel
theorem dX8_fed_10 : decode cX8_fed 10 = .ok (.invokestatic 97, 3) := by decide +kernel
theorem dX8_fed_13 : decode cX8_fed 13 = .ok (.ifCond .ne 7, 3) := by decide +kernel
theorem dX8_fed_16 : decode cX8_fed 16 = .ok (.iconst 1, 1) := by decide +kernel
theorem dX8_fed_17 : decode cX8_fed 17 = .ok (.goto 4, 3) := by decide +kernel
theorem dX8_fed_20 : decode cX8_fed 20 = .ok (.iconst 0, 1) := by decide +kernel
theorem dX8_fed_21 : decode cX8_fed 21 = .ok (.iconst 1, 1) := by decide +kernel
theorem dX8_fed_22 : decode cX8_fed 22 = .ok (.invokevirtual 101, 3) := by decide +kernel
theorem dX8_fed_25 : decode cX8_fed 25 = .ok (.ifCond .ne 36, 3) := by decide +kernel
theorem dX8_fed_28 : decode cX8_fed 28 = .ok (.aload_n 0, 1) := by decide +kernel
theorem dX8_fed_29 : decode cX8_fed 29 = .ok (.iload_n 2, 1) := by decide +kernel
theorem dX8_fed_30 : decode cX8_fed 30 = .ok (.iconst 0, 1) := by decide +kernel
theorem dX8_fed_31 : decode cX8_fed 31 = .ok (.sipush 2000, 3) := by decide +kernel
theorem dX8_fed_34 : decode cX8_fed 34 = .ok (.invokestatic 97, 3) := by decide +kernel
theorem dX8_fed_37 : decode cX8_fed 37 = .ok (.ifCond .eq 12, 3) := by decide +kernel
theorem dX8_fed_40 : decode cX8_fed 40 = .ok (.iload_n 3, 1) := by decide +kernel
theorem dX8_fed_41 : decode cX8_fed 41 = .ok (.iconst 0, 1) := by decide +kernel
theorem dX8_fed_42 : decode cX8_fed 42 = .ok (.iconst 3, 1) := by decide +kernel
theorem dX8_fed_43 : decode cX8_fed 43 = .ok (.invokestatic 97, 3) := by decide +kernel
theorem dX8_fed_46 : decode cX8_fed 46 = .ok (.ifCond .ne 7, 3) := by decide +kernel
theorem dX8_fed_49 : decode cX8_fed 49 = .ok (.iconst 1, 1) := by decide +kernel
theorem dX8_fed_50 : decode cX8_fed 50 = .ok (.goto 4, 3) := by decide +kernel
theorem dX8_fed_53 : decode cX8_fed 53 = .ok (.iconst 0, 1) := by decide +kernel
theorem dX8_fed_54 : decode cX8_fed 54 = .ok (.iconst 2, 1) := by decide +kernel
theorem dX8_fed_55 : decode cX8_fed 55 = .ok (.invokevirtual 101, 3) := by decide +kernel
theorem dX8_fed_58 : decode cX8_fed 58 = .ok (.ifCond .eq 5, 3) := by decide +kernel
theorem dX8_fed_61 : decode cX8_fed 61 = .ok (.iconst 0, 1) := by decide +kernel
theorem dX8_fed_62 : decode cX8_fed 62 = .ok (.ireturn, 1) := by decide +kernel
theorem dX8_fed_63 : decode cX8_fed 63 = .ok (.aload_n 0, 1) := by decide +kernel
theorem dX8_fed_64 : decode cX8_fed 64 = .ok (.getfield 179, 3) := by decide +kernel
theorem dX8_fed_67 : decode cX8_fed 67 = .ok (.bipush 60, 2) := by decide +kernel
theorem dX8_fed_69 : decode cX8_fed 69 = .ok (.if_icmp .ne 5, 3) := by decide +kernel
theorem dX8_fed_72 : decode cX8_fed 72 = .ok (.iconst (-1), 1) := by decide +kernel
theorem dX8_fed_73 : decode cX8_fed 73 = .ok (.ireturn, 1) := by decide +kernel
theorem dX8_fed_74 : decode cX8_fed 74 = .ok (.aload_n 0, 1) := by decide +kernel
theorem dX8_fed_75 : decode cX8_fed 75 = .ok (.getfield 63, 3) := by decide +kernel
theorem dX8_fed_78 : decode cX8_fed 78 = .ok (.aload_n 0, 1) := by decide +kernel
theorem dX8_fed_79 : decode cX8_fed 79 = .ok (.getfield 179, 3) := by decide +kernel
theorem dX8_fed_82 : decode cX8_fed 82 = .ok (.iload_n 1, 1) := by decide +kernel
theorem dX8_fed_83 : decode cX8_fed 83 = .ok (.iastore, 1) := by decide +kernel
theorem dX8_fed_84 : decode cX8_fed 84 = .ok (.aload_n 0, 1) := by decide +kernel
theorem dX8_fed_85 : decode cX8_fed 85 = .ok (.getfield 66, 3) := by decide +kernel
theorem dX8_fed_88 : decode cX8_fed 88 = .ok (.aload_n 0, 1) := by decide +kernel
theorem dX8_fed_89 : decode cX8_fed 89 = .ok (.getfield 179, 3) := by decide +kernel
theorem dX8_fed_92 : decode cX8_fed 92 = .ok (.iload_n 2, 1) := by decide +kernel
theorem dX8_fed_93 : decode cX8_fed 93 = .ok (.iastore, 1) := by decide +kernel
theorem dX8_fed_94 : decode cX8_fed 94 = .ok (.aload_n 0, 1) := by decide +kernel
theorem dX8_fed_95 : decode cX8_fed 95 = .ok (.getfield 69, 3) := by decide +kernel
theorem dX8_fed_98 : decode cX8_fed 98 = .ok (.aload_n 0, 1) := by decide +kernel
theorem dX8_fed_99 : decode cX8_fed 99 = .ok (.getfield 179, 3) := by decide +kernel
theorem dX8_fed_102 : decode cX8_fed 102 = .ok (.iload_n 3, 1) := by decide +kernel
theorem dX8_fed_103 : decode cX8_fed 103 = .ok (.iastore, 1) := by decide +kernel
theorem dX8_fed_104 : decode cX8_fed 104 = .ok (.aload_n 0, 1) := by decide +kernel
theorem dX8_fed_105 : decode cX8_fed 105 = .ok (.getfield 72, 3) := by decide +kernel
theorem dX8_fed_108 : decode cX8_fed 108 = .ok (.aload_n 0, 1) := by decide +kernel
theorem dX8_fed_109 : decode cX8_fed 109 = .ok (.getfield 179, 3) := by decide +kernel
theorem dX8_fed_112 : decode cX8_fed 112 = .ok (.aload_n 0, 1) := by decide +kernel
theorem dX8_fed_113 : decode cX8_fed 113 = .ok (.getfield 105, 3) := by decide +kernel
theorem dX8_fed_116 : decode cX8_fed 116 = .ok (.iastore, 1) := by decide +kernel
theorem dX8_fed_117 : decode cX8_fed 117 = .ok (.aload_n 0, 1) := by decide +kernel
theorem dX8_fed_118 : decode cX8_fed 118 = .ok (.dup, 1) := by decide +kernel
theorem dX8_fed_119 : decode cX8_fed 119 = .ok (.getfield 179, 3) := by decide +kernel
theorem dX8_fed_122 : decode cX8_fed 122 = .ok (.iconst 1, 1) := by decide +kernel
theorem dX8_fed_123 : decode cX8_fed 123 = .ok (.iadd, 1) := by decide +kernel
theorem dX8_fed_124 : decode cX8_fed 124 = .ok (.putfield 179, 3) := by decide +kernel
theorem dX8_fed_127 : decode cX8_fed 127 = .ok (.iconst 0, 1) := by decide +kernel
theorem dX8_fed_128 : decode cX8_fed 128 = .ok (.istore 4, 2) := by decide +kernel
theorem dX8_fed_130 : decode cX8_fed 130 = .ok (.iconst 0, 1) := by decide +kernel
theorem dX8_fed_131 : decode cX8_fed 131 = .ok (.istore 5, 2) := by decide +kernel
theorem dX8_fed_133 : decode cX8_fed 133 = .ok (.iload 5, 2) := by decide +kernel
theorem dX8_fed_135 : decode cX8_fed 135 = .ok (.aload_n 0, 1) := by decide +kernel
theorem dX8_fed_136 : decode cX8_fed 136 = .ok (.getfield 94, 3) := by decide +kernel
theorem dX8_fed_139 : decode cX8_fed 139 = .ok (.if_icmp .ge 75, 3) := by decide +kernel
theorem dX8_fed_142 : decode cX8_fed 142 = .ok (.aload_n 0, 1) := by decide +kernel
theorem dX8_fed_143 : decode cX8_fed 143 = .ok (.getfield 39, 3) := by decide +kernel
theorem dX8_fed_146 : decode cX8_fed 146 = .ok (.iload 5, 2) := by decide +kernel
theorem dX8_fed_148 : decode cX8_fed 148 = .ok (.baload, 1) := by decide +kernel
theorem dX8_fed_149 : decode cX8_fed 149 = .ok (.ifCond .ne 59, 3) := by decide +kernel
theorem dX8_fed_152 : decode cX8_fed 152 = .ok (.aload_n 0, 1) := by decide +kernel
theorem dX8_fed_153 : decode cX8_fed 153 = .ok (.getfield 42, 3) := by decide +kernel
theorem dX8_fed_156 : decode cX8_fed 156 = .ok (.iload 5, 2) := by decide +kernel
theorem dX8_fed_158 : decode cX8_fed 158 = .ok (.iaload, 1) := by decide +kernel
theorem dX8_fed_159 : decode cX8_fed 159 = .ok (.ifCond .lt 49, 3) := by decide +kernel
theorem dX8_fed_162 : decode cX8_fed 162 = .ok (.aload_n 0, 1) := by decide +kernel
theorem dX8_fed_163 : decode cX8_fed 163 = .ok (.aload_n 0, 1) := by decide +kernel
theorem dX8_fed_164 : decode cX8_fed 164 = .ok (.getfield 13, 3) := by decide +kernel
theorem dX8_fed_167 : decode cX8_fed 167 = .ok (.iload 5, 2) := by decide +kernel
theorem dX8_fed_169 : decode cX8_fed 169 = .ok (.iaload, 1) := by decide +kernel
theorem dX8_fed_170 : decode cX8_fed 170 = .ok (.aload_n 0, 1) := by decide +kernel
theorem dX8_fed_171 : decode cX8_fed 171 = .ok (.getfield 20, 3) := by decide +kernel
theorem dX8_fed_174 : decode cX8_fed 174 = .ok (.iload 5, 2) := by decide +kernel
theorem dX8_fed_176 : decode cX8_fed 176 = .ok (.iaload, 1) := by decide +kernel
theorem dX8_fed_177 : decode cX8_fed 177 = .ok (.aload_n 0, 1) := by decide +kernel
theorem dX8_fed_178 : decode cX8_fed 178 = .ok (.getfield 105, 3) := by decide +kernel
theorem dX8_fed_181 : decode cX8_fed 181 = .ok (.invokevirtual 182, 3) := by decide +kernel
theorem dX8_fed_184 : decode cX8_fed 184 = .ok (.aload_n 0, 1) := by decide +kernel
theorem dX8_fed_185 : decode cX8_fed 185 = .ok (.getfield 42, 3) := by decide +kernel
theorem dX8_fed_188 : decode cX8_fed 188 = .ok (.iload 5, 2) := by decide +kernel
theorem dX8_fed_190 : decode cX8_fed 190 = .ok (.iaload, 1) := by decide +kernel
theorem dX8_fed_191 : decode cX8_fed 191 = .ok (.if_icmp .lt 6, 3) := by decide +kernel
theorem dX8_fed_194 : decode cX8_fed 194 = .ok (.goto 14, 3) := by decide +kernel
theorem dX8_fed_197 : decode cX8_fed 197 = .ok (.aload_n 0, 1) := by decide +kernel
theorem dX8_fed_198 : decode cX8_fed 198 = .ok (.getfield 42, 3) := by decide +kernel
theorem dX8_fed_201 : decode cX8_fed 201 = .ok (.iload 5, 2) := by decide +kernel
theorem dX8_fed_203 : decode cX8_fed 203 = .ok (.iconst (-1), 1) := by decide +kernel
theorem dX8_fed_204 : decode cX8_fed 204 = .ok (.iastore, 1) := by decide +kernel
theorem dX8_fed_205 : decode cX8_fed 205 = .ok (.iinc 4 1, 3) := by decide +kernel
theorem dX8_fed_208 : decode cX8_fed 208 = .ok (.iinc 5 1, 3) := by decide +kernel
theorem dX8_fed_211 : decode cX8_fed 211 = .ok (.goto (-78), 3) := by decide +kernel
theorem dX8_fed_214 : decode cX8_fed 214 = .ok (.iload 4, 2) := by decide +kernel
theorem dX8_fed_216 : decode cX8_fed 216 = .ok (.ireturn, 1) := by decide +kernel
set_option maxRecDepth 20000 in
theorem ggX8_against_X8_knownOf : GoodIn wsX8_against wsX8_knownOf := goodIn_r _ [15, 16, 17, 18, 19, 20, 21, 22, 23, 24, 25, 26, 27, 28, 29, 30, 31, 32, 33, 34, 35, 36, 37, 38, 39, 40, 41, 42, 43, 44, 45, 46, 47, 48, 49, 50, 51, 52, 53, 54] rfl (by decide +kernel)
set_option maxRecDepth 20000 in
theorem gX8_against_X8_knownOf : GoodIn wsX8_against (wsV RX8 182 RX8 yX8_knownOf wsX8_knownOf) := goodIn_app (goodIn_of _ (by decide +kernel)) ggX8_against_X8_knownOf
theorem dX8_against_0 : decode cX8_against 0 = .ok (.aload_n 0, 1) := by decide +kernel
theorem dX8_against_1 : decode cX8_against 1 = .ok (.getfield 39, 3) := by decide +kernel
theorem dX8_against_4 : decode cX8_against 4 = .ok (.iload_n 1, 1) := by decide +kernel
theorem dX8_against_5 : decode cX8_against 5 = .ok (.baload, 1) := by decide +kernel
theorem dX8_against_6 : decode cX8_against 6 = .ok (.ifCond .eq 5, 3) := by decide +kernel
theorem dX8_against_9 : decode cX8_against 9 = .ok (.iconst 1, 1) := by decide +kernel
theorem dX8_against_10 : decode cX8_against 10 = .ok (.ireturn, 1) := by decide +kernel
theorem dX8_against_11 : decode cX8_against 11 = .ok (.aload_n 0, 1) := by decide +kernel
theorem dX8_against_12 : decode cX8_against 12 = .ok (.getfield 42, 3) := by decide +kernel
theorem dX8_against_15 : decode cX8_against 15 = .ok (.iload_n 1, 1) := by decide +kernel
theorem dX8_against_16 : decode cX8_against 16 = .ok (.iaload, 1) := by decide +kernel
theorem dX8_against_17 : decode cX8_against 17 = .ok (.ifCond .lt 5, 3) := by decide +kernel
theorem dX8_against_20 : decode cX8_against 20 = .ok (.iconst 2, 1) := by decide +kernel
theorem dX8_against_21 : decode cX8_against 21 = .ok (.ireturn, 1) := by decide +kernel
theorem dX8_against_22 : decode cX8_against 22 = .ok (.aload_n 0, 1) := by decide +kernel
theorem dX8_against_23 : decode cX8_against 23 = .ok (.getfield 35, 3) := by decide +kernel
theorem dX8_against_26 : decode cX8_against 26 = .ok (.iload_n 1, 1) := by decide +kernel
theorem dX8_against_27 : decode cX8_against 27 = .ok (.baload, 1) := by decide +kernel
theorem dX8_against_28 : decode cX8_against 28 = .ok (.ifCond .eq 5, 3) := by decide +kernel
theorem dX8_against_31 : decode cX8_against 31 = .ok (.iconst 3, 1) := by decide +kernel
theorem dX8_against_32 : decode cX8_against 32 = .ok (.ireturn, 1) := by decide +kernel
theorem dX8_against_33 : decode cX8_against 33 = .ok (.aload_n 0, 1) := by decide +kernel
theorem dX8_against_34 : decode cX8_against 34 = .ok (.getfield 105, 3) := by decide +kernel
theorem dX8_against_37 : decode cX8_against 37 = .ok (.aload_n 0, 1) := by decide +kernel
theorem dX8_against_38 : decode cX8_against 38 = .ok (.getfield 20, 3) := by decide +kernel
theorem dX8_against_41 : decode cX8_against 41 = .ok (.iload_n 1, 1) := by decide +kernel
theorem dX8_against_42 : decode cX8_against 42 = .ok (.iaload, 1) := by decide +kernel
theorem dX8_against_43 : decode cX8_against 43 = .ok (.isub, 1) := by decide +kernel
theorem dX8_against_44 : decode cX8_against 44 = .ok (.aload_n 0, 1) := by decide +kernel
theorem dX8_against_45 : decode cX8_against 45 = .ok (.getfield 75, 3) := by decide +kernel
theorem dX8_against_48 : decode cX8_against 48 = .ok (.iconst 0, 1) := by decide +kernel
theorem dX8_against_49 : decode cX8_against 49 = .ok (.iaload, 1) := by decide +kernel
theorem dX8_against_50 : decode cX8_against 50 = .ok (.if_icmp .ge 5, 3) := by decide +kernel
theorem dX8_against_53 : decode cX8_against 53 = .ok (.iconst 4, 1) := by decide +kernel
theorem dX8_against_54 : decode cX8_against 54 = .ok (.ireturn, 1) := by decide +kernel
theorem dX8_against_55 : decode cX8_against 55 = .ok (.aload_n 0, 1) := by decide +kernel
theorem dX8_against_56 : decode cX8_against 56 = .ok (.getfield 23, 3) := by decide +kernel
theorem dX8_against_59 : decode cX8_against 59 = .ok (.iload_n 1, 1) := by decide +kernel
theorem dX8_against_60 : decode cX8_against 60 = .ok (.iaload, 1) := by decide +kernel
theorem dX8_against_61 : decode cX8_against 61 = .ok (.aload_n 0, 1) := by decide +kernel
theorem dX8_against_62 : decode cX8_against 62 = .ok (.getfield 26, 3) := by decide +kernel
theorem dX8_against_65 : decode cX8_against 65 = .ok (.iload_n 1, 1) := by decide +kernel
theorem dX8_against_66 : decode cX8_against 66 = .ok (.iaload, 1) := by decide +kernel
theorem dX8_against_67 : decode cX8_against 67 = .ok (.isub, 1) := by decide +kernel
theorem dX8_against_68 : decode cX8_against 68 = .ok (.bipush 100, 2) := by decide +kernel
theorem dX8_against_70 : decode cX8_against 70 = .ok (.imul, 1) := by decide +kernel
theorem dX8_against_71 : decode cX8_against 71 = .ok (.aload_n 0, 1) := by decide +kernel
theorem dX8_against_72 : decode cX8_against 72 = .ok (.getfield 23, 3) := by decide +kernel
theorem dX8_against_75 : decode cX8_against 75 = .ok (.iload_n 1, 1) := by decide +kernel
theorem dX8_against_76 : decode cX8_against 76 = .ok (.iaload, 1) := by decide +kernel
theorem dX8_against_77 : decode cX8_against 77 = .ok (.idiv, 1) := by decide +kernel
theorem dX8_against_78 : decode cX8_against 78 = .ok (.aload_n 0, 1) := by decide +kernel
theorem dX8_against_79 : decode cX8_against 79 = .ok (.getfield 75, 3) := by decide +kernel
theorem dX8_against_82 : decode cX8_against 82 = .ok (.iconst 1, 1) := by decide +kernel
theorem dX8_against_83 : decode cX8_against 83 = .ok (.iaload, 1) := by decide +kernel
theorem dX8_against_84 : decode cX8_against 84 = .ok (.if_icmp .ge 5, 3) := by decide +kernel
theorem dX8_against_87 : decode cX8_against 87 = .ok (.iconst 5, 1) := by decide +kernel
theorem dX8_against_88 : decode cX8_against 88 = .ok (.ireturn, 1) := by decide +kernel
theorem dX8_against_89 : decode cX8_against 89 = .ok (.aload_n 0, 1) := by decide +kernel
theorem dX8_against_90 : decode cX8_against 90 = .ok (.getfield 29, 3) := by decide +kernel
theorem dX8_against_93 : decode cX8_against 93 = .ok (.iload_n 1, 1) := by decide +kernel
theorem dX8_against_94 : decode cX8_against 94 = .ok (.iaload, 1) := by decide +kernel
theorem dX8_against_95 : decode cX8_against 95 = .ok (.aload_n 0, 1) := by decide +kernel
theorem dX8_against_96 : decode cX8_against 96 = .ok (.getfield 75, 3) := by decide +kernel
theorem dX8_against_99 : decode cX8_against 99 = .ok (.iconst 2, 1) := by decide +kernel
theorem dX8_against_100 : decode cX8_against 100 = .ok (.iaload, 1) := by decide +kernel
theorem dX8_against_101 : decode cX8_against 101 = .ok (.if_icmp .ge 6, 3) := by decide +kernel
theorem dX8_against_104 : decode cX8_against 104 = .ok (.bipush 6, 2) := by decide +kernel
theorem dX8_against_106 : decode cX8_against 106 = .ok (.ireturn, 1) := by decide +kernel
theorem dX8_against_107 : decode cX8_against 107 = .ok (.aload_n 0, 1) := by decide +kernel
theorem dX8_against_108 : decode cX8_against 108 = .ok (.aload_n 0, 1) := by decide +kernel
theorem dX8_against_109 : decode cX8_against 109 = .ok (.getfield 13, 3) := by decide +kernel
theorem dX8_against_112 : decode cX8_against 112 = .ok (.iload_n 1, 1) := by decide +kernel
theorem dX8_against_113 : decode cX8_against 113 = .ok (.iaload, 1) := by decide +kernel
theorem dX8_against_114 : decode cX8_against 114 = .ok (.aload_n 0, 1) := by decide +kernel
theorem dX8_against_115 : decode cX8_against 115 = .ok (.getfield 20, 3) := by decide +kernel
theorem dX8_against_118 : decode cX8_against 118 = .ok (.iload_n 1, 1) := by decide +kernel
theorem dX8_against_119 : decode cX8_against 119 = .ok (.iaload, 1) := by decide +kernel
theorem dX8_against_120 : decode cX8_against 120 = .ok (.aload_n 0, 1) := by decide +kernel
theorem dX8_against_121 : decode cX8_against 121 = .ok (.getfield 105, 3) := by decide +kernel
theorem dX8_against_124 : decode cX8_against 124 = .ok (.invokevirtual 182, 3) := by decide +kernel
theorem dX8_against_127 : decode cX8_against 127 = .ok (.aload_n 0, 1) := by decide +kernel
theorem dX8_against_128 : decode cX8_against 128 = .ok (.getfield 75, 3) := by decide +kernel
theorem dX8_against_131 : decode cX8_against 131 = .ok (.iconst 3, 1) := by decide +kernel
theorem dX8_against_132 : decode cX8_against 132 = .ok (.iaload, 1) := by decide +kernel
theorem dX8_against_133 : decode cX8_against 133 = .ok (.if_icmp .ge 6, 3) := by decide +kernel
theorem dX8_against_136 : decode cX8_against 136 = .ok (.bipush 7, 2) := by decide +kernel
theorem dX8_against_138 : decode cX8_against 138 = .ok (.ireturn, 1) := by decide +kernel
theorem dX8_against_139 : decode cX8_against 139 = .ok (.aload_n 0, 1) := by decide +kernel
theorem dX8_against_140 : decode cX8_against 140 = .ok (.getfield 26, 3) := by decide +kernel
theorem dX8_against_143 : decode cX8_against 143 = .ok (.iload_n 1, 1) := by decide +kernel
theorem dX8_against_144 : decode cX8_against 144 = .ok (.iaload, 1) := by decide +kernel
theorem dX8_against_145 : decode cX8_against 145 = .ok (.aload_n 0, 1) := by decide +kernel
theorem dX8_against_146 : decode cX8_against 146 = .ok (.getfield 75, 3) := by decide +kernel
theorem dX8_against_149 : decode cX8_against 149 = .ok (.iconst 4, 1) := by decide +kernel
theorem dX8_against_150 : decode cX8_against 150 = .ok (.iaload, 1) := by decide +kernel
theorem dX8_against_151 : decode cX8_against 151 = .ok (.if_icmp .ge 8, 3) := by decide +kernel
theorem dX8_against_154 : decode cX8_against 154 = .ok (.bipush 8, 2) := by decide +kernel
theorem dX8_against_156 : decode cX8_against 156 = .ok (.goto 4, 3) := by decide +kernel
theorem dX8_against_159 : decode cX8_against 159 = .ok (.iconst 0, 1) := by decide +kernel
theorem dX8_against_160 : decode cX8_against 160 = .ok (.ireturn, 1) := by decide +kernel
set_option maxRecDepth 20000 in
theorem ggX8_seal_X8_noLeg : GoodIn wsX8_seal wsX8_noLeg := goodIn_r _ [8, 9, 10, 11, 7, 12, 38, 39, 40, 41, 42, 43, 44, 45, 46, 47, 48, 49, 50, 51, 52, 53, 54, 55, 56, 57, 58, 59, 60, 61, 62, 63, 64, 65, 66, 67, 68, 69, 70, 71] rfl (by decide +kernel)
set_option maxRecDepth 20000 in
theorem gX8_seal_X8_noLeg : GoodIn wsX8_seal (wsV RX8 108 RX8 yX8_noLeg wsX8_noLeg) := goodIn_app (goodIn_of _ (by decide +kernel)) ggX8_seal_X8_noLeg
set_option maxRecDepth 20000 in
theorem ggX8_seal_X8_throwsIf : GoodIn wsX8_seal wsX8_throwsIf := goodIn_r _ [16, 1, 38, 39, 40, 41, 42, 43, 44, 45, 46, 47, 48, 49, 50, 51, 52, 53, 54, 55, 56, 57, 58, 59, 60, 61, 62, 63, 64, 65, 66, 67, 68, 69, 70, 71] rfl (by decide +kernel)
set_option maxRecDepth 20000 in
theorem gX8_seal_X8_throwsIf : GoodIn wsX8_seal (wsV RX8 101 RX8 yX8_throwsIf wsX8_throwsIf) := goodIn_app (goodIn_of _ (by decide +kernel)) ggX8_seal_X8_throwsIf
set_option maxRecDepth 20000 in
theorem ggX8_seal_X8_against : GoodIn wsX8_seal wsX8_against := goodIn_r _ [20, 21, 2, 22, 23, 24, 3, 25, 26, 27, 28, 29, 30, 31, 7, 32, 33, 34, 35, 36, 37, 38, 39, 40, 41, 42, 43, 44, 45, 46, 47, 48, 49, 50, 51, 52, 53, 54, 55, 56, 57, 58, 59, 60, 61, 62, 63, 64, 65, 66, 67, 68, 69, 70, 71] rfl (by decide +kernel)
set_option maxRecDepth 20000 in
theorem gX8_seal_X8_against : GoodIn wsX8_seal (wsV RX8 186 RX8 yX8_against wsX8_against) := goodIn_app (goodIn_of _ (by decide +kernel)) ggX8_seal_X8_against
theorem dX8_seal_0 : decode cX8_seal 0 = .ok (.aload_n 0, 1) := by decide +kernel
theorem dX8_seal_1 : decode cX8_seal 1 = .ok (.iconst 0, 1) := by decide +kernel
theorem dX8_seal_2 : decode cX8_seal 2 = .ok (.putfield 1, 3) := by decide +kernel
theorem dX8_seal_5 : decode cX8_seal 5 = .ok (.aload_n 0, 1) := by decide +kernel
theorem dX8_seal_6 : decode cX8_seal 6 = .ok (.aload_n 0, 1) := by decide +kernel
theorem dX8_seal_7 : decode cX8_seal 7 = .ok (.iload_n 1, 1) := by decide +kernel
theorem dX8_seal_8 : decode cX8_seal 8 = .ok (.invokevirtual 108, 3) := by decide +kernel
theorem dX8_seal_11 : decode cX8_seal 11 = .ok (.iconst 1, 1) := by decide +kernel
theorem dX8_seal_12 : decode cX8_seal 12 = .ok (.invokevirtual 101, 3) := by decide +kernel
theorem dX8_seal_15 : decode cX8_seal 15 = .ok (.ifCond .eq 5, 3) := by decide +kernel
theorem dX8_seal_18 : decode cX8_seal 18 = .ok (.iconst 0, 1) := by decide +kernel
theorem dX8_seal_19 : decode cX8_seal 19 = .ok (.ireturn, 1) := by decide +kernel
theorem dX8_seal_20 : decode cX8_seal 20 = .ok (.aload_n 0, 1) := by decide +kernel
theorem dX8_seal_21 : decode cX8_seal 21 = .ok (.iload_n 1, 1) := by decide +kernel
theorem dX8_seal_22 : decode cX8_seal 22 = .ok (.invokevirtual 186, 3) := by decide +kernel
theorem dX8_seal_25 : decode cX8_seal 25 = .ok (.istore_n 2, 1) := by decide +kernel
theorem dX8_seal_26 : decode cX8_seal 26 = .ok (.iload_n 2, 1) := by decide +kernel
theorem dX8_seal_27 : decode cX8_seal 27 = .ok (.ifCond .ne 15, 3) := by decide +kernel
theorem dX8_seal_30 : decode cX8_seal 30 = .ok (.aload_n 0, 1) := by decide +kernel
theorem dX8_seal_31 : decode cX8_seal 31 = .ok (.getfield 42, 3) := by decide +kernel
theorem dX8_seal_34 : decode cX8_seal 34 = .ok (.iload_n 1, 1) := by decide +kernel
theorem dX8_seal_35 : decode cX8_seal 35 = .ok (.aload_n 0, 1) := by decide +kernel
theorem dX8_seal_36 : decode cX8_seal 36 = .ok (.getfield 75, 3) := by decide +kernel
theorem dX8_seal_39 : decode cX8_seal 39 = .ok (.iconst 3, 1) := by decide +kernel
theorem dX8_seal_40 : decode cX8_seal 40 = .ok (.iaload, 1) := by decide +kernel
theorem dX8_seal_41 : decode cX8_seal 41 = .ok (.iastore, 1) := by decide +kernel
theorem dX8_seal_42 : decode cX8_seal 42 = .ok (.iload_n 2, 1) := by decide +kernel
theorem dX8_seal_43 : decode cX8_seal 43 = .ok (.ireturn, 1) := by decide +kernel
set_option maxRecDepth 20000 in
theorem ggX8_look_X8_noLeg : GoodIn wsX8_look wsX8_noLeg := goodIn_r _ [17, 18, 19, 20, 16, 21, 26, 27, 28, 29, 30, 31, 32, 33, 34, 35, 36, 37, 38, 39, 40, 41, 42, 43, 44, 45, 46, 47, 48, 49, 50, 51, 52, 53, 54, 55, 56, 57, 58, 59] rfl (by decide +kernel)
set_option maxRecDepth 20000 in
theorem gX8_look_X8_noLeg : GoodIn wsX8_look (wsV RX8 108 RX8 yX8_noLeg wsX8_noLeg) := goodIn_app (goodIn_of _ (by decide +kernel)) ggX8_look_X8_noLeg
set_option maxRecDepth 20000 in
theorem ggX8_look_X8_throwsIf : GoodIn wsX8_look wsX8_throwsIf := goodIn_r _ [25, 1, 26, 27, 28, 29, 30, 31, 32, 33, 34, 35, 36, 37, 38, 39, 40, 41, 42, 43, 44, 45, 46, 47, 48, 49, 50, 51, 52, 53, 54, 55, 56, 57, 58, 59] rfl (by decide +kernel)
set_option maxRecDepth 20000 in
theorem gX8_look_X8_throwsIf : GoodIn wsX8_look (wsV RX8 101 RX8 yX8_throwsIf wsX8_throwsIf) := goodIn_app (goodIn_of _ (by decide +kernel)) ggX8_look_X8_throwsIf
theorem dX8_look_0 : decode cX8_look 0 = .ok (.aload_n 0, 1) := by decide +kernel
theorem dX8_look_1 : decode cX8_look 1 = .ok (.iconst 0, 1) := by decide +kernel
theorem dX8_look_2 : decode cX8_look 2 = .ok (.putfield 1, 3) := by decide +kernel
theorem dX8_look_5 : decode cX8_look 5 = .ok (.aload_n 0, 1) := by decide +kernel
theorem dX8_look_6 : decode cX8_look 6 = .ok (.aload_n 0, 1) := by decide +kernel
theorem dX8_look_7 : decode cX8_look 7 = .ok (.iload_n 1, 1) := by decide +kernel
theorem dX8_look_8 : decode cX8_look 8 = .ok (.invokevirtual 108, 3) := by decide +kernel
theorem dX8_look_11 : decode cX8_look 11 = .ok (.iconst 1, 1) := by decide +kernel
theorem dX8_look_12 : decode cX8_look 12 = .ok (.invokevirtual 101, 3) := by decide +kernel
theorem dX8_look_15 : decode cX8_look 15 = .ok (.ifCond .eq 5, 3) := by decide +kernel
theorem dX8_look_18 : decode cX8_look 18 = .ok (.iconst 0, 1) := by decide +kernel
theorem dX8_look_19 : decode cX8_look 19 = .ok (.ireturn, 1) := by decide +kernel
theorem dX8_look_20 : decode cX8_look 20 = .ok (.iload_n 2, 1) := by decide +kernel
theorem dX8_look_21 : decode cX8_look 21 = .ok (.tableswitch 216 0 11 #[63, 70, 77, 84, 91, 119, 142, 165, 180, 195, 202, 209], 63) := by decide +kernel
theorem dX8_look_84 : decode cX8_look 84 = .ok (.aload_n 0, 1) := by decide +kernel
theorem dX8_look_85 : decode cX8_look 85 = .ok (.getfield 26, 3) := by decide +kernel
theorem dX8_look_88 : decode cX8_look 88 = .ok (.iload_n 1, 1) := by decide +kernel
theorem dX8_look_89 : decode cX8_look 89 = .ok (.iaload, 1) := by decide +kernel
theorem dX8_look_90 : decode cX8_look 90 = .ok (.ireturn, 1) := by decide +kernel
theorem dX8_look_91 : decode cX8_look 91 = .ok (.aload_n 0, 1) := by decide +kernel
theorem dX8_look_92 : decode cX8_look 92 = .ok (.getfield 23, 3) := by decide +kernel
theorem dX8_look_95 : decode cX8_look 95 = .ok (.iload_n 1, 1) := by decide +kernel
theorem dX8_look_96 : decode cX8_look 96 = .ok (.iaload, 1) := by decide +kernel
theorem dX8_look_97 : decode cX8_look 97 = .ok (.ireturn, 1) := by decide +kernel
theorem dX8_look_98 : decode cX8_look 98 = .ok (.aload_n 0, 1) := by decide +kernel
theorem dX8_look_99 : decode cX8_look 99 = .ok (.getfield 29, 3) := by decide +kernel
theorem dX8_look_102 : decode cX8_look 102 = .ok (.iload_n 1, 1) := by decide +kernel
theorem dX8_look_103 : decode cX8_look 103 = .ok (.iaload, 1) := by decide +kernel
theorem dX8_look_104 : decode cX8_look 104 = .ok (.ireturn, 1) := by decide +kernel
theorem dX8_look_105 : decode cX8_look 105 = .ok (.aload_n 0, 1) := by decide +kernel
theorem dX8_look_106 : decode cX8_look 106 = .ok (.getfield 32, 3) := by decide +kernel
theorem dX8_look_109 : decode cX8_look 109 = .ok (.iload_n 1, 1) := by decide +kernel
theorem dX8_look_110 : decode cX8_look 110 = .ok (.iaload, 1) := by decide +kernel
theorem dX8_look_111 : decode cX8_look 111 = .ok (.ireturn, 1) := by decide +kernel
theorem dX8_look_112 : decode cX8_look 112 = .ok (.aload_n 0, 1) := by decide +kernel
theorem dX8_look_113 : decode cX8_look 113 = .ok (.getfield 39, 3) := by decide +kernel
theorem dX8_look_116 : decode cX8_look 116 = .ok (.iload_n 1, 1) := by decide +kernel
theorem dX8_look_117 : decode cX8_look 117 = .ok (.baload, 1) := by decide +kernel
theorem dX8_look_118 : decode cX8_look 118 = .ok (.ifCond .eq 7, 3) := by decide +kernel
theorem dX8_look_121 : decode cX8_look 121 = .ok (.iconst 2, 1) := by decide +kernel
theorem dX8_look_122 : decode cX8_look 122 = .ok (.goto 17, 3) := by decide +kernel
theorem dX8_look_125 : decode cX8_look 125 = .ok (.aload_n 0, 1) := by decide +kernel
theorem dX8_look_126 : decode cX8_look 126 = .ok (.getfield 45, 3) := by decide +kernel
theorem dX8_look_129 : decode cX8_look 129 = .ok (.iload_n 1, 1) := by decide +kernel
theorem dX8_look_130 : decode cX8_look 130 = .ok (.iaload, 1) := by decide +kernel
theorem dX8_look_131 : decode cX8_look 131 = .ok (.ifCond .lt 7, 3) := by decide +kernel
theorem dX8_look_134 : decode cX8_look 134 = .ok (.iconst 1, 1) := by decide +kernel
theorem dX8_look_135 : decode cX8_look 135 = .ok (.goto 4, 3) := by decide +kernel
theorem dX8_look_138 : decode cX8_look 138 = .ok (.iconst 0, 1) := by decide +kernel
theorem dX8_look_139 : decode cX8_look 139 = .ok (.ireturn, 1) := by decide +kernel
theorem dX8_look_140 : decode cX8_look 140 = .ok (.aload_n 0, 1) := by decide +kernel
theorem dX8_look_141 : decode cX8_look 141 = .ok (.getfield 45, 3) := by decide +kernel
theorem dX8_look_144 : decode cX8_look 144 = .ok (.iload_n 1, 1) := by decide +kernel
theorem dX8_look_145 : decode cX8_look 145 = .ok (.iaload, 1) := by decide +kernel
theorem dX8_look_146 : decode cX8_look 146 = .ok (.ifCond .ge 7, 3) := by decide +kernel
theorem dX8_look_149 : decode cX8_look 149 = .ok (.iconst (-1), 1) := by decide +kernel
theorem dX8_look_150 : decode cX8_look 150 = .ok (.goto 12, 3) := by decide +kernel
theorem dX8_look_153 : decode cX8_look 153 = .ok (.aload_n 0, 1) := by decide +kernel
theorem dX8_look_154 : decode cX8_look 154 = .ok (.getfield 45, 3) := by decide +kernel
theorem dX8_look_157 : decode cX8_look 157 = .ok (.iload_n 1, 1) := by decide +kernel
theorem dX8_look_158 : decode cX8_look 158 = .ok (.iaload, 1) := by decide +kernel
theorem dX8_look_159 : decode cX8_look 159 = .ok (.bipush 10, 2) := by decide +kernel
theorem dX8_look_161 : decode cX8_look 161 = .ok (.idiv, 1) := by decide +kernel
theorem dX8_look_162 : decode cX8_look 162 = .ok (.ireturn, 1) := by decide +kernel
theorem dX8_look_163 : decode cX8_look 163 = .ok (.aload_n 0, 1) := by decide +kernel
theorem dX8_look_164 : decode cX8_look 164 = .ok (.getfield 45, 3) := by decide +kernel
theorem dX8_look_167 : decode cX8_look 167 = .ok (.iload_n 1, 1) := by decide +kernel
theorem dX8_look_168 : decode cX8_look 168 = .ok (.iaload, 1) := by decide +kernel
theorem dX8_look_169 : decode cX8_look 169 = .ok (.ifCond .ge 7, 3) := by decide +kernel
theorem dX8_look_172 : decode cX8_look 172 = .ok (.iconst (-1), 1) := by decide +kernel
theorem dX8_look_173 : decode cX8_look 173 = .ok (.goto 12, 3) := by decide +kernel
theorem dX8_look_176 : decode cX8_look 176 = .ok (.aload_n 0, 1) := by decide +kernel
theorem dX8_look_177 : decode cX8_look 177 = .ok (.getfield 45, 3) := by decide +kernel
theorem dX8_look_180 : decode cX8_look 180 = .ok (.iload_n 1, 1) := by decide +kernel
theorem dX8_look_181 : decode cX8_look 181 = .ok (.iaload, 1) := by decide +kernel
theorem dX8_look_182 : decode cX8_look 182 = .ok (.bipush 10, 2) := by decide +kernel
theorem dX8_look_184 : decode cX8_look 184 = .ok (.irem, 1) := by decide +kernel
theorem dX8_look_185 : decode cX8_look 185 = .ok (.ireturn, 1) := by decide +kernel
theorem dX8_look_186 : decode cX8_look 186 = .ok (.aload_n 0, 1) := by decide +kernel
theorem dX8_look_187 : decode cX8_look 187 = .ok (.getfield 42, 3) := by decide +kernel
theorem dX8_look_190 : decode cX8_look 190 = .ok (.iload_n 1, 1) := by decide +kernel
theorem dX8_look_191 : decode cX8_look 191 = .ok (.iaload, 1) := by decide +kernel
theorem dX8_look_192 : decode cX8_look 192 = .ok (.ifCond .lt 7, 3) := by decide +kernel
theorem dX8_look_195 : decode cX8_look 195 = .ok (.iconst 1, 1) := by decide +kernel
theorem dX8_look_196 : decode cX8_look 196 = .ok (.goto 4, 3) := by decide +kernel
theorem dX8_look_199 : decode cX8_look 199 = .ok (.iconst 0, 1) := by decide +kernel
theorem dX8_look_200 : decode cX8_look 200 = .ok (.ireturn, 1) := by decide +kernel
theorem dX8_look_201 : decode cX8_look 201 = .ok (.aload_n 0, 1) := by decide +kernel
theorem dX8_look_202 : decode cX8_look 202 = .ok (.getfield 35, 3) := by decide +kernel
theorem dX8_look_205 : decode cX8_look 205 = .ok (.iload_n 1, 1) := by decide +kernel
theorem dX8_look_206 : decode cX8_look 206 = .ok (.baload, 1) := by decide +kernel
theorem dX8_look_207 : decode cX8_look 207 = .ok (.ifCond .eq 7, 3) := by decide +kernel
theorem dX8_look_210 : decode cX8_look 210 = .ok (.iconst 1, 1) := by decide +kernel
theorem dX8_look_211 : decode cX8_look 211 = .ok (.goto 4, 3) := by decide +kernel
theorem dX8_look_214 : decode cX8_look 214 = .ok (.iconst 0, 1) := by decide +kernel
theorem dX8_look_215 : decode cX8_look 215 = .ok (.ireturn, 1) := by decide +kernel
theorem dX8_look_216 : decode cX8_look 216 = .ok (.aload_n 0, 1) := by decide +kernel
theorem dX8_look_217 : decode cX8_look 217 = .ok (.getfield 13, 3) := by decide +kernel
theorem dX8_look_220 : decode cX8_look 220 = .ok (.iload_n 1, 1) := by decide +kernel
theorem dX8_look_221 : decode cX8_look 221 = .ok (.iaload, 1) := by decide +kernel
theorem dX8_look_222 : decode cX8_look 222 = .ok (.ireturn, 1) := by decide +kernel
theorem dX8_look_223 : decode cX8_look 223 = .ok (.aload_n 0, 1) := by decide +kernel
theorem dX8_look_224 : decode cX8_look 224 = .ok (.getfield 17, 3) := by decide +kernel
theorem dX8_look_227 : decode cX8_look 227 = .ok (.iload_n 1, 1) := by decide +kernel
theorem dX8_look_228 : decode cX8_look 228 = .ok (.iaload, 1) := by decide +kernel
theorem dX8_look_229 : decode cX8_look 229 = .ok (.ireturn, 1) := by decide +kernel
theorem dX8_look_230 : decode cX8_look 230 = .ok (.aload_n 0, 1) := by decide +kernel
theorem dX8_look_231 : decode cX8_look 231 = .ok (.getfield 20, 3) := by decide +kernel
theorem dX8_look_234 : decode cX8_look 234 = .ok (.iload_n 1, 1) := by decide +kernel
theorem dX8_look_235 : decode cX8_look 235 = .ok (.iaload, 1) := by decide +kernel
theorem dX8_look_236 : decode cX8_look 236 = .ok (.ireturn, 1) := by decide +kernel
theorem dX8_look_237 : decode cX8_look 237 = .ok (.aload_n 0, 1) := by decide +kernel
theorem dX8_look_238 : decode cX8_look 238 = .ok (.iconst 2, 1) := by decide +kernel
theorem dX8_look_239 : decode cX8_look 239 = .ok (.putfield 1, 3) := by decide +kernel
theorem dX8_look_242 : decode cX8_look 242 = .ok (.iconst 0, 1) := by decide +kernel
theorem dX8_look_243 : decode cX8_look 243 = .ok (.ireturn, 1) := by decide +kernel
set_option maxRecDepth 20000 in
theorem ggX8_on_X8_noHook : GoodIn wsX8_on wsX8_noHook := goodIn_r _ [6, 7, 8, 5, 9] rfl (by decide +kernel)
set_option maxRecDepth 20000 in
theorem gX8_on_X8_noHook : GoodIn wsX8_on (va_wsS RX8 112 yX8_noHook wsX8_noHook) := goodIn_app (goodIn_of _ (by decide +kernel)) ggX8_on_X8_noHook
set_option maxRecDepth 20000 in
theorem ggX8_on_X8_throwsIf : GoodIn wsX8_on wsX8_throwsIf := goodIn_r _ [13, 1, 14, 15, 16, 17, 18, 19, 20, 21, 22, 23, 24, 25, 26, 27, 28, 29, 30, 31, 32, 33, 34, 35, 36, 37, 38, 39, 40, 41, 42, 43, 44, 45, 46, 47] rfl (by decide +kernel)
set_option maxRecDepth 20000 in
theorem gX8_on_X8_throwsIf : GoodIn wsX8_on (wsV RX8 101 RX8 yX8_throwsIf wsX8_throwsIf) := goodIn_app (goodIn_of _ (by decide +kernel)) ggX8_on_X8_throwsIf
theorem dX8_on_0 : decode cX8_on 0 = .ok (.aload_n 0, 1) := by decide +kernel
theorem dX8_on_1 : decode cX8_on 1 = .ok (.iconst 0, 1) := by decide +kernel
theorem dX8_on_2 : decode cX8_on 2 = .ok (.putfield 1, 3) := by decide +kernel
theorem dX8_on_5 : decode cX8_on 5 = .ok (.aload_n 0, 1) := by decide +kernel
theorem dX8_on_6 : decode cX8_on 6 = .ok (.iload_n 1, 1) := by decide +kernel
theorem dX8_on_7 : decode cX8_on 7 = .ok (.iload_n 2, 1) := by decide +kernel
theorem dX8_on_8 : decode cX8_on 8 = .ok (.invokestatic 112, 3) := by decide +kernel
theorem dX8_on_11 : decode cX8_on 11 = .ok (.iconst 1, 1) := by decide +kernel
theorem dX8_on_12 : decode cX8_on 12 = .ok (.invokevirtual 101, 3) := by decide +kernel
theorem dX8_on_15 : decode cX8_on 15 = .ok (.ifCond .eq 7, 3) := by decide +kernel
theorem dX8_on_18 : decode cX8_on 18 = .ok (.iconst 0, 1) := by decide +kernel
theorem dX8_on_19 : decode cX8_on 19 = .ok (.goto 14, 3) := by decide +kernel
theorem dX8_on_22 : decode cX8_on 22 = .ok (.aload_n 0, 1) := by decide +kernel
theorem dX8_on_23 : decode cX8_on 23 = .ok (.getfield 51, 3) := by decide +kernel
theorem dX8_on_26 : decode cX8_on 26 = .ok (.bipush 10, 2) := by decide +kernel
theorem dX8_on_28 : decode cX8_on 28 = .ok (.iload_n 1, 1) := by decide +kernel
theorem dX8_on_29 : decode cX8_on 29 = .ok (.imul, 1) := by decide +kernel
theorem dX8_on_30 : decode cX8_on 30 = .ok (.iload_n 2, 1) := by decide +kernel
theorem dX8_on_31 : decode cX8_on 31 = .ok (.iadd, 1) := by decide +kernel
theorem dX8_on_32 : decode cX8_on 32 = .ok (.iaload, 1) := by decide +kernel
theorem dX8_on_33 : decode cX8_on 33 = .ok (.ireturn, 1) := by decide +kernel
set_option maxRecDepth 20000 in
theorem ggX8_should_X8_noLeg : GoodIn wsX8_should wsX8_noLeg := goodIn_r _ [9, 3, 10, 11, 8, 12, 20, 21, 22, 23, 24, 25, 26, 27, 28, 29, 30, 31, 32, 33, 34, 35, 36, 37, 38, 39, 40, 41, 42, 43, 44, 45, 46, 47, 48, 49, 50, 51, 52, 53] rfl (by decide +kernel)
set_option maxRecDepth 20000 in
theorem gX8_should_X8_noLeg : GoodIn wsX8_should (wsV RX8 108 RX8 yX8_noLeg wsX8_noLeg) := goodIn_app (goodIn_of _ (by decide +kernel)) ggX8_should_X8_noLeg
set_option maxRecDepth 20000 in
theorem ggX8_should_X8_noHook : GoodIn wsX8_should wsX8_noHook := goodIn_r _ [15, 10, 11, 8, 12] rfl (by decide +kernel)
set_option maxRecDepth 20000 in
theorem gX8_should_X8_noHook : GoodIn wsX8_should (va_wsS RX8 112 yX8_noHook wsX8_noHook) := goodIn_app (goodIn_of _ (by decide +kernel)) ggX8_should_X8_noHook
set_option maxRecDepth 20000 in
theorem ggX8_should_X8_throwsIf : GoodIn wsX8_should wsX8_throwsIf := goodIn_r _ [19, 1, 20, 21, 22, 23, 24, 25, 26, 27, 28, 29, 30, 31, 32, 33, 34, 35, 36, 37, 38, 39, 40, 41, 42, 43, 44, 45, 46, 47, 48, 49, 50, 51, 52, 53] rfl (by decide +kernel)
set_option maxRecDepth 20000 in
theorem gX8_should_X8_throwsIf : GoodIn wsX8_should (wsV RX8 101 RX8 yX8_throwsIf wsX8_throwsIf) := goodIn_app (goodIn_of _ (by decide +kernel)) ggX8_should_X8_throwsIf
theorem dX8_should_0 : decode cX8_should 0 = .ok (.aload_n 0, 1) := by decide +kernel
theorem dX8_should_1 : decode cX8_should 1 = .ok (.iconst 0, 1) := by decide +kernel
theorem dX8_should_2 : decode cX8_should 2 = .ok (.putfield 1, 3) := by decide +kernel
theorem dX8_should_5 : decode cX8_should 5 = .ok (.aload_n 0, 1) := by decide +kernel
theorem dX8_should_6 : decode cX8_should 6 = .ok (.aload_n 0, 1) := by decide +kernel
theorem dX8_should_7 : decode cX8_should 7 = .ok (.iload_n 1, 1) := by decide +kernel
theorem dX8_should_8 : decode cX8_should 8 = .ok (.invokevirtual 108, 3) := by decide +kernel
theorem dX8_should_11 : decode cX8_should 11 = .ok (.ifCond .ne 15, 3) := by decide +kernel
theorem dX8_should_14 : decode cX8_should 14 = .ok (.iload_n 2, 1) := by decide +kernel
theorem dX8_should_15 : decode cX8_should 15 = .ok (.ifCond .eq 11, 3) := by decide +kernel
theorem dX8_should_18 : decode cX8_should 18 = .ok (.iload_n 2, 1) := by decide +kernel
theorem dX8_should_19 : decode cX8_should 19 = .ok (.iload_n 3, 1) := by decide +kernel
theorem dX8_should_20 : decode cX8_should 20 = .ok (.invokestatic 112, 3) := by decide +kernel
theorem dX8_should_23 : decode cX8_should 23 = .ok (.ifCond .eq 7, 3) := by decide +kernel
theorem dX8_should_26 : decode cX8_should 26 = .ok (.iconst 1, 1) := by decide +kernel
theorem dX8_should_27 : decode cX8_should 27 = .ok (.goto 4, 3) := by decide +kernel
theorem dX8_should_30 : decode cX8_should 30 = .ok (.iconst 0, 1) := by decide +kernel
theorem dX8_should_31 : decode cX8_should 31 = .ok (.iconst 1, 1) := by decide +kernel
theorem dX8_should_32 : decode cX8_should 32 = .ok (.invokevirtual 101, 3) := by decide +kernel
theorem dX8_should_35 : decode cX8_should 35 = .ok (.ifCond .ne 14, 3) := by decide +kernel
theorem dX8_should_38 : decode cX8_should 38 = .ok (.aload_n 0, 1) := by decide +kernel
theorem dX8_should_39 : decode cX8_should 39 = .ok (.getfield 45, 3) := by decide +kernel
theorem dX8_should_42 : decode cX8_should 42 = .ok (.iload_n 1, 1) := by decide +kernel
theorem dX8_should_43 : decode cX8_should 43 = .ok (.iaload, 1) := by decide +kernel
theorem dX8_should_44 : decode cX8_should 44 = .ok (.bipush 10, 2) := by decide +kernel
theorem dX8_should_46 : decode cX8_should 46 = .ok (.if_icmp .ge 5, 3) := by decide +kernel
theorem dX8_should_49 : decode cX8_should 49 = .ok (.iconst 0, 1) := by decide +kernel
theorem dX8_should_50 : decode cX8_should 50 = .ok (.ireturn, 1) := by decide +kernel
theorem dX8_should_51 : decode cX8_should 51 = .ok (.bipush 10, 2) := by decide +kernel
theorem dX8_should_53 : decode cX8_should 53 = .ok (.iload_n 2, 1) := by decide +kernel
theorem dX8_should_54 : decode cX8_should 54 = .ok (.imul, 1) := by decide +kernel
theorem dX8_should_55 : decode cX8_should 55 = .ok (.iload_n 3, 1) := by decide +kernel
theorem dX8_should_56 : decode cX8_should 56 = .ok (.iadd, 1) := by decide +kernel
theorem dX8_should_57 : decode cX8_should 57 = .ok (.istore 4, 2) := by decide +kernel
theorem dX8_should_59 : decode cX8_should 59 = .ok (.iconst 0, 1) := by decide +kernel
theorem dX8_should_60 : decode cX8_should 60 = .ok (.istore 5, 2) := by decide +kernel
theorem dX8_should_62 : decode cX8_should 62 = .ok (.iload 5, 2) := by decide +kernel
theorem dX8_should_64 : decode cX8_should 64 = .ok (.aload_n 0, 1) := by decide +kernel
theorem dX8_should_65 : decode cX8_should 65 = .ok (.getfield 94, 3) := by decide +kernel
theorem dX8_should_68 : decode cX8_should 68 = .ok (.if_icmp .ge 29, 3) := by decide +kernel
theorem dX8_should_71 : decode cX8_should 71 = .ok (.iload 5, 2) := by decide +kernel
theorem dX8_should_73 : decode cX8_should 73 = .ok (.iload_n 1, 1) := by decide +kernel
theorem dX8_should_74 : decode cX8_should 74 = .ok (.if_icmp .eq 17, 3) := by decide +kernel
theorem dX8_should_77 : decode cX8_should 77 = .ok (.aload_n 0, 1) := by decide +kernel
theorem dX8_should_78 : decode cX8_should 78 = .ok (.getfield 48, 3) := by decide +kernel
theorem dX8_should_81 : decode cX8_should 81 = .ok (.iload 5, 2) := by decide +kernel
theorem dX8_should_83 : decode cX8_should 83 = .ok (.iaload, 1) := by decide +kernel
theorem dX8_should_84 : decode cX8_should 84 = .ok (.iload 4, 2) := by decide +kernel
theorem dX8_should_86 : decode cX8_should 86 = .ok (.if_icmp .ne 5, 3) := by decide +kernel
theorem dX8_should_89 : decode cX8_should 89 = .ok (.iconst 0, 1) := by decide +kernel
theorem dX8_should_90 : decode cX8_should 90 = .ok (.ireturn, 1) := by decide +kernel
theorem dX8_should_91 : decode cX8_should 91 = .ok (.iinc 5 1, 3) := by decide +kernel
theorem dX8_should_94 : decode cX8_should 94 = .ok (.goto (-32), 3) := by decide +kernel
theorem dX8_should_97 : decode cX8_should 97 = .ok (.aload_n 0, 1) := by decide +kernel
theorem dX8_should_98 : decode cX8_should 98 = .ok (.getfield 48, 3) := by decide +kernel
theorem dX8_should_101 : decode cX8_should 101 = .ok (.iload_n 1, 1) := by decide +kernel
theorem dX8_should_102 : decode cX8_should 102 = .ok (.iload 4, 2) := by decide +kernel
theorem dX8_should_104 : decode cX8_should 104 = .ok (.iastore, 1) := by decide +kernel
theorem dX8_should_105 : decode cX8_should 105 = .ok (.iconst 1, 1) := by decide +kernel
theorem dX8_should_106 : decode cX8_should 106 = .ok (.ireturn, 1) := by decide +kernel
theorem dX8_isAsked_0 : decode cX8_isAsked 0 = .ok (.aload_n 0, 1) := by decide +kernel
theorem dX8_isAsked_1 : decode cX8_isAsked 1 = .ok (.getfield 48, 3) := by decide +kernel
theorem dX8_isAsked_4 : decode cX8_isAsked 4 = .ok (.iload_n 1, 1) := by decide +kernel
theorem dX8_isAsked_5 : decode cX8_isAsked 5 = .ok (.iaload, 1) := by decide +kernel
theorem dX8_isAsked_6 : decode cX8_isAsked 6 = .ok (.ifCond .lt 18, 3) := by decide +kernel
theorem dX8_isAsked_9 : decode cX8_isAsked 9 = .ok (.aload_n 0, 1) := by decide +kernel
theorem dX8_isAsked_10 : decode cX8_isAsked 10 = .ok (.getfield 45, 3) := by decide +kernel
theorem dX8_isAsked_13 : decode cX8_isAsked 13 = .ok (.iload_n 1, 1) := by decide +kernel
theorem dX8_isAsked_14 : decode cX8_isAsked 14 = .ok (.iaload, 1) := by decide +kernel
theorem dX8_isAsked_15 : decode cX8_isAsked 15 = .ok (.bipush 10, 2) := by decide +kernel
theorem dX8_isAsked_17 : decode cX8_isAsked 17 = .ok (.if_icmp .lt 7, 3) := by decide +kernel
theorem dX8_isAsked_20 : decode cX8_isAsked 20 = .ok (.iconst 1, 1) := by decide +kernel
theorem dX8_isAsked_21 : decode cX8_isAsked 21 = .ok (.goto 4, 3) := by decide +kernel
theorem dX8_isAsked_24 : decode cX8_isAsked 24 = .ok (.iconst 0, 1) := by decide +kernel
theorem dX8_isAsked_25 : decode cX8_isAsked 25 = .ok (.ireturn, 1) := by decide +kernel
set_option maxRecDepth 20000 in
theorem ggX8_leastMoves_X8_isAsked : GoodIn wsX8_leastMoves wsX8_isAsked := goodIn_r _ [13, 3, 4, 14, 15, 16, 17, 18, 19, 20, 21, 22, 23, 24, 25, 26, 27, 28, 29, 30, 31, 32, 33, 34, 35, 36, 37, 38, 39, 40, 41, 42, 43, 44, 45, 46, 47] rfl (by decide +kernel)
set_option maxRecDepth 20000 in
theorem gX8_leastMoves_X8_isAsked : GoodIn wsX8_leastMoves (wsV RX8 190 RX8 yX8_isAsked wsX8_isAsked) := goodIn_app (goodIn_of _ (by decide +kernel)) ggX8_leastMoves_X8_isAsked
theorem dX8_leastMoves_0 : decode cX8_leastMoves 0 = .ok (.iconst 0, 1) := by decide +kernel
theorem dX8_leastMoves_1 : decode cX8_leastMoves 1 = .ok (.istore_n 1, 1) := by decide +kernel
theorem dX8_leastMoves_2 : decode cX8_leastMoves 2 = .ok (.iconst 0, 1) := by decide +kernel
theorem dX8_leastMoves_3 : decode cX8_leastMoves 3 = .ok (.istore_n 2, 1) := by decide +kernel
theorem dX8_leastMoves_4 : decode cX8_leastMoves 4 = .ok (.bipush 10, 2) := by decide +kernel
theorem dX8_leastMoves_6 : decode cX8_leastMoves 6 = .ok (.istore_n 3, 1) := by decide +kernel
theorem dX8_leastMoves_7 : decode cX8_leastMoves 7 = .ok (.iload_n 3, 1) := by decide +kernel
theorem dX8_leastMoves_8 : decode cX8_leastMoves 8 = .ok (.bipush 60, 2) := by decide +kernel
theorem dX8_leastMoves_10 : decode cX8_leastMoves 10 = .ok (.if_icmp .ge 26, 3) := by decide +kernel
theorem dX8_leastMoves_13 : decode cX8_leastMoves 13 = .ok (.iload_n 2, 1) := by decide +kernel
theorem dX8_leastMoves_14 : decode cX8_leastMoves 14 = .ok (.aload_n 0, 1) := by decide +kernel
theorem dX8_leastMoves_15 : decode cX8_leastMoves 15 = .ok (.getfield 51, 3) := by decide +kernel
theorem dX8_leastMoves_18 : decode cX8_leastMoves 18 = .ok (.iload_n 3, 1) := by decide +kernel
theorem dX8_leastMoves_19 : decode cX8_leastMoves 19 = .ok (.iaload, 1) := by decide +kernel
theorem dX8_leastMoves_20 : decode cX8_leastMoves 20 = .ok (.ifCond .ge 7, 3) := by decide +kernel
theorem dX8_leastMoves_23 : decode cX8_leastMoves 23 = .ok (.iconst 1, 1) := by decide +kernel
theorem dX8_leastMoves_24 : decode cX8_leastMoves 24 = .ok (.goto 4, 3) := by decide +kernel
theorem dX8_leastMoves_27 : decode cX8_leastMoves 27 = .ok (.iconst 0, 1) := by decide +kernel
theorem dX8_leastMoves_28 : decode cX8_leastMoves 28 = .ok (.iadd, 1) := by decide +kernel
theorem dX8_leastMoves_29 : decode cX8_leastMoves 29 = .ok (.istore_n 2, 1) := by decide +kernel
theorem dX8_leastMoves_30 : decode cX8_leastMoves 30 = .ok (.iinc 3 1, 3) := by decide +kernel
theorem dX8_leastMoves_33 : decode cX8_leastMoves 33 = .ok (.goto (-26), 3) := by decide +kernel
theorem dX8_leastMoves_36 : decode cX8_leastMoves 36 = .ok (.iconst 0, 1) := by decide +kernel
theorem dX8_leastMoves_37 : decode cX8_leastMoves 37 = .ok (.istore_n 3, 1) := by decide +kernel
theorem dX8_leastMoves_38 : decode cX8_leastMoves 38 = .ok (.iload_n 3, 1) := by decide +kernel
theorem dX8_leastMoves_39 : decode cX8_leastMoves 39 = .ok (.aload_n 0, 1) := by decide +kernel
theorem dX8_leastMoves_40 : decode cX8_leastMoves 40 = .ok (.getfield 94, 3) := by decide +kernel
theorem dX8_leastMoves_43 : decode cX8_leastMoves 43 = .ok (.if_icmp .ge 143, 3) := by decide +kernel
theorem dX8_leastMoves_46 : decode cX8_leastMoves 46 = .ok (.aload_n 0, 1) := by decide +kernel
theorem dX8_leastMoves_47 : decode cX8_leastMoves 47 = .ok (.iload_n 3, 1) := by decide +kernel
theorem dX8_leastMoves_48 : decode cX8_leastMoves 48 = .ok (.invokevirtual 190, 3) := by decide +kernel
theorem dX8_leastMoves_51 : decode cX8_leastMoves 51 = .ok (.ifCond .eq 129, 3) := by decide +kernel
theorem dX8_leastMoves_54 : decode cX8_leastMoves 54 = .ok (.aload_n 0, 1) := by decide +kernel
theorem dX8_leastMoves_55 : decode cX8_leastMoves 55 = .ok (.getfield 48, 3) := by decide +kernel
theorem dX8_leastMoves_58 : decode cX8_leastMoves 58 = .ok (.iload_n 3, 1) := by decide +kernel
theorem dX8_leastMoves_59 : decode cX8_leastMoves 59 = .ok (.iaload, 1) := by decide +kernel
theorem dX8_leastMoves_60 : decode cX8_leastMoves 60 = .ok (.aload_n 0, 1) := by decide +kernel
theorem dX8_leastMoves_61 : decode cX8_leastMoves 61 = .ok (.getfield 45, 3) := by decide +kernel
theorem dX8_leastMoves_64 : decode cX8_leastMoves 64 = .ok (.iload_n 3, 1) := by decide +kernel
theorem dX8_leastMoves_65 : decode cX8_leastMoves 65 = .ok (.iaload, 1) := by decide +kernel
theorem dX8_leastMoves_66 : decode cX8_leastMoves 66 = .ok (.if_icmp .ne 6, 3) := by decide +kernel
theorem dX8_leastMoves_69 : decode cX8_leastMoves 69 = .ok (.goto 111, 3) := by decide +kernel
theorem dX8_leastMoves_72 : decode cX8_leastMoves 72 = .ok (.iinc 1 1, 3) := by decide +kernel
theorem dX8_leastMoves_75 : decode cX8_leastMoves 75 = .ok (.aload_n 0, 1) := by decide +kernel
theorem dX8_leastMoves_76 : decode cX8_leastMoves 76 = .ok (.getfield 51, 3) := by decide +kernel
theorem dX8_leastMoves_79 : decode cX8_leastMoves 79 = .ok (.aload_n 0, 1) := by decide +kernel
theorem dX8_leastMoves_80 : decode cX8_leastMoves 80 = .ok (.getfield 48, 3) := by decide +kernel
theorem dX8_leastMoves_83 : decode cX8_leastMoves 83 = .ok (.iload_n 3, 1) := by decide +kernel
theorem dX8_leastMoves_84 : decode cX8_leastMoves 84 = .ok (.iaload, 1) := by decide +kernel
theorem dX8_leastMoves_85 : decode cX8_leastMoves 85 = .ok (.iaload, 1) := by decide +kernel
theorem dX8_leastMoves_86 : decode cX8_leastMoves 86 = .ok (.istore 4, 2) := by decide +kernel
theorem dX8_leastMoves_88 : decode cX8_leastMoves 88 = .ok (.iload_n 3, 1) := by decide +kernel
theorem dX8_leastMoves_89 : decode cX8_leastMoves 89 = .ok (.istore 5, 2) := by decide +kernel
theorem dX8_leastMoves_91 : decode cX8_leastMoves 91 = .ok (.iload 4, 2) := by decide +kernel
theorem dX8_leastMoves_93 : decode cX8_leastMoves 93 = .ok (.ifCond .lt 63, 3) := by decide +kernel
theorem dX8_leastMoves_96 : decode cX8_leastMoves 96 = .ok (.iload 4, 2) := by decide +kernel
theorem dX8_leastMoves_98 : decode cX8_leastMoves 98 = .ok (.iload_n 3, 1) := by decide +kernel
theorem dX8_leastMoves_99 : decode cX8_leastMoves 99 = .ok (.if_icmp .eq 57, 3) := by decide +kernel
theorem dX8_leastMoves_102 : decode cX8_leastMoves 102 = .ok (.aload_n 0, 1) := by decide +kernel
theorem dX8_leastMoves_103 : decode cX8_leastMoves 103 = .ok (.iload 4, 2) := by decide +kernel
theorem dX8_leastMoves_105 : decode cX8_leastMoves 105 = .ok (.invokevirtual 190, 3) := by decide +kernel
theorem dX8_leastMoves_108 : decode cX8_leastMoves 108 = .ok (.ifCond .eq 20, 3) := by decide +kernel
theorem dX8_leastMoves_111 : decode cX8_leastMoves 111 = .ok (.aload_n 0, 1) := by decide +kernel
theorem dX8_leastMoves_112 : decode cX8_leastMoves 112 = .ok (.getfield 48, 3) := by decide +kernel
theorem dX8_leastMoves_115 : decode cX8_leastMoves 115 = .ok (.iload 4, 2) := by decide +kernel
theorem dX8_leastMoves_117 : decode cX8_leastMoves 117 = .ok (.iaload, 1) := by decide +kernel
theorem dX8_leastMoves_118 : decode cX8_leastMoves 118 = .ok (.aload_n 0, 1) := by decide +kernel
theorem dX8_leastMoves_119 : decode cX8_leastMoves 119 = .ok (.getfield 45, 3) := by decide +kernel
theorem dX8_leastMoves_122 : decode cX8_leastMoves 122 = .ok (.iload 4, 2) := by decide +kernel
theorem dX8_leastMoves_124 : decode cX8_leastMoves 124 = .ok (.iaload, 1) := by decide +kernel
theorem dX8_leastMoves_125 : decode cX8_leastMoves 125 = .ok (.if_icmp .ne 5, 3) := by decide +kernel
theorem dX8_leastMoves_128 : decode cX8_leastMoves 128 = .ok (.iconst (-1), 1) := by decide +kernel
theorem dX8_leastMoves_129 : decode cX8_leastMoves 129 = .ok (.ireturn, 1) := by decide +kernel
theorem dX8_leastMoves_130 : decode cX8_leastMoves 130 = .ok (.iload 5, 2) := by decide +kernel
theorem dX8_leastMoves_132 : decode cX8_leastMoves 132 = .ok (.iload 4, 2) := by decide +kernel
theorem dX8_leastMoves_134 : decode cX8_leastMoves 134 = .ok (.invokestatic 193, 3) := by decide +kernel
theorem dX8_leastMoves_137 : decode cX8_leastMoves 137 = .ok (.istore 5, 2) := by decide +kernel
theorem dX8_leastMoves_139 : decode cX8_leastMoves 139 = .ok (.aload_n 0, 1) := by decide +kernel
theorem dX8_leastMoves_140 : decode cX8_leastMoves 140 = .ok (.getfield 51, 3) := by decide +kernel
theorem dX8_leastMoves_143 : decode cX8_leastMoves 143 = .ok (.aload_n 0, 1) := by decide +kernel
theorem dX8_leastMoves_144 : decode cX8_leastMoves 144 = .ok (.getfield 48, 3) := by decide +kernel
theorem dX8_leastMoves_147 : decode cX8_leastMoves 147 = .ok (.iload 4, 2) := by decide +kernel
theorem dX8_leastMoves_149 : decode cX8_leastMoves 149 = .ok (.iaload, 1) := by decide +kernel
theorem dX8_leastMoves_150 : decode cX8_leastMoves 150 = .ok (.iaload, 1) := by decide +kernel
theorem dX8_leastMoves_151 : decode cX8_leastMoves 151 = .ok (.istore 4, 2) := by decide +kernel
theorem dX8_leastMoves_153 : decode cX8_leastMoves 153 = .ok (.goto (-62), 3) := by decide +kernel
theorem dX8_leastMoves_156 : decode cX8_leastMoves 156 = .ok (.iload 4, 2) := by decide +kernel
theorem dX8_leastMoves_158 : decode cX8_leastMoves 158 = .ok (.iload_n 3, 1) := by decide +kernel
theorem dX8_leastMoves_159 : decode cX8_leastMoves 159 = .ok (.if_icmp .ne 21, 3) := by decide +kernel
theorem dX8_leastMoves_162 : decode cX8_leastMoves 162 = .ok (.iload 5, 2) := by decide +kernel
theorem dX8_leastMoves_164 : decode cX8_leastMoves 164 = .ok (.iload_n 3, 1) := by decide +kernel
theorem dX8_leastMoves_165 : decode cX8_leastMoves 165 = .ok (.if_icmp .eq 6, 3) := by decide +kernel
theorem dX8_leastMoves_168 : decode cX8_leastMoves 168 = .ok (.goto 12, 3) := by decide +kernel
theorem dX8_leastMoves_171 : decode cX8_leastMoves 171 = .ok (.iload_n 2, 1) := by decide +kernel
theorem dX8_leastMoves_172 : decode cX8_leastMoves 172 = .ok (.ifCond .ne 5, 3) := by decide +kernel
theorem dX8_leastMoves_175 : decode cX8_leastMoves 175 = .ok (.iconst (-1), 1) := by decide +kernel
theorem dX8_leastMoves_176 : decode cX8_leastMoves 176 = .ok (.ireturn, 1) := by decide +kernel
theorem dX8_leastMoves_177 : decode cX8_leastMoves 177 = .ok (.iinc 1 1, 3) := by decide +kernel
theorem dX8_leastMoves_180 : decode cX8_leastMoves 180 = .ok (.iinc 3 1, 3) := by decide +kernel
theorem dX8_leastMoves_183 : decode cX8_leastMoves 183 = .ok (.goto (-145), 3) := by decide +kernel
theorem dX8_leastMoves_186 : decode cX8_leastMoves 186 = .ok (.iload_n 1, 1) := by decide +kernel
theorem dX8_leastMoves_187 : decode cX8_leastMoves 187 = .ok (.ireturn, 1) := by decide +kernel
set_option maxRecDepth 20000 in
theorem ggX8_moves_X8_leastMoves : GoodIn wsX8_moves wsX8_leastMoves := goodIn_r _ [8, 9, 2, 3, 10, 11, 12, 13, 14, 15, 16, 17, 7, 18, 19, 20, 21, 22, 23, 24, 25, 26, 27, 28, 29, 30, 31, 32, 33, 34, 35, 36, 37, 38, 39, 40, 41, 42, 43, 44, 45, 46, 47, 48, 49, 50, 51, 52] rfl (by decide +kernel)
set_option maxRecDepth 20000 in
theorem gX8_moves_X8_leastMoves : GoodIn wsX8_moves (wsV RX8 196 RX8 yX8_leastMoves wsX8_leastMoves) := goodIn_app (goodIn_of _ (by decide +kernel)) ggX8_moves_X8_leastMoves
theorem dX8_moves_0 : decode cX8_moves 0 = .ok (.aload_n 0, 1) := by decide +kernel
theorem dX8_moves_1 : decode cX8_moves 1 = .ok (.iconst 0, 1) := by decide +kernel
theorem dX8_moves_2 : decode cX8_moves 2 = .ok (.putfield 1, 3) := by decide +kernel
theorem dX8_moves_5 : decode cX8_moves 5 = .ok (.aload_n 0, 1) := by decide +kernel
theorem dX8_moves_6 : decode cX8_moves 6 = .ok (.invokevirtual 196, 3) := by decide +kernel
theorem dX8_moves_9 : decode cX8_moves 9 = .ok (.istore_n 1, 1) := by decide +kernel
theorem dX8_moves_10 : decode cX8_moves 10 = .ok (.iconst 0, 1) := by decide +kernel
theorem dX8_moves_11 : decode cX8_moves 11 = .ok (.istore_n 2, 1) := by decide +kernel
theorem dX8_moves_12 : decode cX8_moves 12 = .ok (.iload_n 2, 1) := by decide +kernel
theorem dX8_moves_13 : decode cX8_moves 13 = .ok (.aload_n 0, 1) := by decide +kernel
theorem dX8_moves_14 : decode cX8_moves 14 = .ok (.getfield 94, 3) := by decide +kernel
theorem dX8_moves_17 : decode cX8_moves 17 = .ok (.if_icmp .ge 16, 3) := by decide +kernel
theorem dX8_moves_20 : decode cX8_moves 20 = .ok (.aload_n 0, 1) := by decide +kernel
theorem dX8_moves_21 : decode cX8_moves 21 = .ok (.getfield 48, 3) := by decide +kernel
theorem dX8_moves_24 : decode cX8_moves 24 = .ok (.iload_n 2, 1) := by decide +kernel
theorem dX8_moves_25 : decode cX8_moves 25 = .ok (.iconst (-1), 1) := by decide +kernel
theorem dX8_moves_26 : decode cX8_moves 26 = .ok (.iastore, 1) := by decide +kernel
theorem dX8_moves_27 : decode cX8_moves 27 = .ok (.iinc 2 1, 3) := by decide +kernel
theorem dX8_moves_30 : decode cX8_moves 30 = .ok (.goto (-18), 3) := by decide +kernel
theorem dX8_moves_33 : decode cX8_moves 33 = .ok (.iload_n 1, 1) := by decide +kernel
theorem dX8_moves_34 : decode cX8_moves 34 = .ok (.ireturn, 1) := by decide +kernel
set_option maxRecDepth 20000 in
theorem ggX8_order_X8_in : GoodIn wsX8_order wsX8_in := goodIn_r _ [13] rfl (by decide +kernel)
set_option maxRecDepth 20000 in
theorem gX8_order_X8_in : GoodIn wsX8_order (va_wsS RX8 97 yX8_in wsX8_in) := goodIn_app (goodIn_of _ (by decide +kernel)) ggX8_order_X8_in
set_option maxRecDepth 20000 in
theorem ggX8_order_X8_throwsIf : GoodIn wsX8_order wsX8_throwsIf := goodIn_r _ [17, 1, 30, 31, 32, 33, 34, 35, 36, 37, 38, 39, 40, 41, 42, 43, 44, 45, 46, 47, 48, 49, 50, 51, 52, 53, 54, 55, 56, 57, 58, 59, 60, 61, 62, 63] rfl (by decide +kernel)
set_option maxRecDepth 20000 in
theorem gX8_order_X8_throwsIf : GoodIn wsX8_order (wsV RX8 101 RX8 yX8_throwsIf wsX8_throwsIf) := goodIn_app (goodIn_of _ (by decide +kernel)) ggX8_order_X8_throwsIf
set_option maxRecDepth 20000 in
theorem ggX8_order_J6_bitCount_0f7a4 : GoodIn wsX8_order wsJ6_bitCount_0f7a4 := goodIn_r _ [21, 22, 23, 24] rfl (by decide +kernel)
set_option maxRecDepth 20000 in
theorem gX8_order_J6_bitCount_0f7a4 : GoodIn wsX8_order (va_wsS RX8 200 yJ6_bitCount_0f7a4 wsJ6_bitCount_0f7a4) := goodIn_app (goodIn_of _ (by decide +kernel)) ggX8_order_J6_bitCount_0f7a4
set_option maxRecDepth 20000 in
theorem ggX8_order_X8_leaves : GoodIn wsX8_order wsX8_leaves := goodIn_r _ [28, 5, 29, 30, 31, 32, 33, 34, 35, 36, 37, 38, 39, 40, 41, 42, 43, 44, 45, 46, 47, 48, 49, 50, 51, 52, 53, 54, 55, 56, 57, 58, 59, 60, 61, 62, 63] rfl (by decide +kernel)
set_option maxRecDepth 20000 in
theorem gX8_order_X8_leaves : GoodIn wsX8_order (wsV RX8 116 RX8 yX8_leaves wsX8_leaves) := goodIn_app (goodIn_of _ (by decide +kernel)) ggX8_order_X8_leaves
theorem dX8_order_0 : decode cX8_order 0 = .ok (.aload_n 0, 1) := by decide +kernel
theorem dX8_order_1 : decode cX8_order 1 = .ok (.iconst 0, 1) := by decide +kernel
theorem dX8_order_2 : decode cX8_order 2 = .ok (.putfield 1, 3) := by decide +kernel
theorem dX8_order_5 : decode cX8_order 5 = .ok (.aload_n 0, 1) := by decide +kernel
theorem dX8_order_6 : decode cX8_order 6 = .ok (.iload_n 1, 1) := by decide +kernel
theorem dX8_order_7 : decode cX8_order 7 = .ok (.iconst 1, 1) := by decide +kernel
theorem dX8_order_8 : decode cX8_order 8 = .ok (.ldc 199, 2) := by decide +kernel
theorem dX8_order_10 : decode cX8_order 10 = .ok (.invokestatic 97, 3) := by decide +kernel
theorem dX8_order_13 : decode cX8_order 13 = .ok (.ifCond .ne 7, 3) := by decide +kernel
theorem dX8_order_16 : decode cX8_order 16 = .ok (.iconst 1, 1) := by decide +kernel
theorem dX8_order_17 : decode cX8_order 17 = .ok (.goto 4, 3) := by decide +kernel
theorem dX8_order_20 : decode cX8_order 20 = .ok (.iconst 0, 1) := by decide +kernel
theorem dX8_order_21 : decode cX8_order 21 = .ok (.iconst 1, 1) := by decide +kernel
theorem dX8_order_22 : decode cX8_order 22 = .ok (.invokevirtual 101, 3) := by decide +kernel
theorem dX8_order_25 : decode cX8_order 25 = .ok (.ifCond .eq 5, 3) := by decide +kernel
theorem dX8_order_28 : decode cX8_order 28 = .ok (.iconst 0, 1) := by decide +kernel
theorem dX8_order_29 : decode cX8_order 29 = .ok (.ireturn, 1) := by decide +kernel
theorem dX8_order_30 : decode cX8_order 30 = .ok (.iconst 0, 1) := by decide +kernel
theorem dX8_order_31 : decode cX8_order 31 = .ok (.istore_n 2, 1) := by decide +kernel
theorem dX8_order_32 : decode cX8_order 32 = .ok (.iconst 0, 1) := by decide +kernel
theorem dX8_order_33 : decode cX8_order 33 = .ok (.istore_n 3, 1) := by decide +kernel
theorem dX8_order_34 : decode cX8_order 34 = .ok (.iload_n 3, 1) := by decide +kernel
theorem dX8_order_35 : decode cX8_order 35 = .ok (.aload_n 0, 1) := by decide +kernel
theorem dX8_order_36 : decode cX8_order 36 = .ok (.getfield 94, 3) := by decide +kernel
theorem dX8_order_39 : decode cX8_order 39 = .ok (.if_icmp .ge 55, 3) := by decide +kernel
theorem dX8_order_42 : decode cX8_order 42 = .ok (.iload_n 2, 1) := by decide +kernel
theorem dX8_order_43 : decode cX8_order 43 = .ok (.bipush 14, 2) := by decide +kernel
theorem dX8_order_45 : decode cX8_order 45 = .ok (.if_icmp .ge 49, 3) := by decide +kernel
theorem dX8_order_48 : decode cX8_order 48 = .ok (.aload_n 0, 1) := by decide +kernel
theorem dX8_order_49 : decode cX8_order 49 = .ok (.getfield 42, 3) := by decide +kernel
theorem dX8_order_52 : decode cX8_order 52 = .ok (.iload_n 3, 1) := by decide +kernel
theorem dX8_order_53 : decode cX8_order 53 = .ok (.iaload, 1) := by decide +kernel
theorem dX8_order_54 : decode cX8_order 54 = .ok (.ifCond .lt 34, 3) := by decide +kernel
theorem dX8_order_57 : decode cX8_order 57 = .ok (.aload_n 0, 1) := by decide +kernel
theorem dX8_order_58 : decode cX8_order 58 = .ok (.getfield 45, 3) := by decide +kernel
theorem dX8_order_61 : decode cX8_order 61 = .ok (.iload_n 3, 1) := by decide +kernel
theorem dX8_order_62 : decode cX8_order 62 = .ok (.iaload, 1) := by decide +kernel
theorem dX8_order_63 : decode cX8_order 63 = .ok (.ifCond .lt 25, 3) := by decide +kernel
theorem dX8_order_66 : decode cX8_order 66 = .ok (.aload_n 0, 1) := by decide +kernel
theorem dX8_order_67 : decode cX8_order 67 = .ok (.getfield 35, 3) := by decide +kernel
theorem dX8_order_70 : decode cX8_order 70 = .ok (.iload_n 3, 1) := by decide +kernel
theorem dX8_order_71 : decode cX8_order 71 = .ok (.baload, 1) := by decide +kernel
theorem dX8_order_72 : decode cX8_order 72 = .ok (.ifCond .eq 6, 3) := by decide +kernel
theorem dX8_order_75 : decode cX8_order 75 = .ok (.goto 13, 3) := by decide +kernel
theorem dX8_order_78 : decode cX8_order 78 = .ok (.aload_n 0, 1) := by decide +kernel
theorem dX8_order_79 : decode cX8_order 79 = .ok (.getfield 91, 3) := by decide +kernel
theorem dX8_order_82 : decode cX8_order 82 = .ok (.iload_n 2, 1) := by decide +kernel
theorem dX8_order_83 : decode cX8_order 83 = .ok (.iload_n 3, 1) := by decide +kernel
theorem dX8_order_84 : decode cX8_order 84 = .ok (.iastore, 1) := by decide +kernel
theorem dX8_order_85 : decode cX8_order 85 = .ok (.iinc 2 1, 3) := by decide +kernel
theorem dX8_order_88 : decode cX8_order 88 = .ok (.iinc 3 1, 3) := by decide +kernel
theorem dX8_order_91 : decode cX8_order 91 = .ok (.goto (-57), 3) := by decide +kernel
theorem dX8_order_94 : decode cX8_order 94 = .ok (.iconst (-1), 1) := by decide +kernel
theorem dX8_order_95 : decode cX8_order 95 = .ok (.istore_n 3, 1) := by decide +kernel
theorem dX8_order_96 : decode cX8_order 96 = .ok (.iconst 0, 1) := by decide +kernel
theorem dX8_order_97 : decode cX8_order 97 = .ok (.istore 4, 2) := by decide +kernel
theorem dX8_order_99 : decode cX8_order 99 = .ok (.iconst 1, 1) := by decide +kernel
theorem dX8_order_100 : decode cX8_order 100 = .ok (.istore 5, 2) := by decide +kernel
theorem dX8_order_102 : decode cX8_order 102 = .ok (.iload 5, 2) := by decide +kernel
theorem dX8_order_104 : decode cX8_order 104 = .ok (.iconst 1, 1) := by decide +kernel
theorem dX8_order_105 : decode cX8_order 105 = .ok (.iload_n 2, 1) := by decide +kernel
theorem dX8_order_106 : decode cX8_order 106 = .ok (.ishl, 1) := by decide +kernel
theorem dX8_order_107 : decode cX8_order 107 = .ok (.if_icmp .ge 105, 3) := by decide +kernel
theorem dX8_order_110 : decode cX8_order 110 = .ok (.iconst 0, 1) := by decide +kernel
theorem dX8_order_111 : decode cX8_order 111 = .ok (.istore 6, 2) := by decide +kernel
theorem dX8_order_113 : decode cX8_order 113 = .ok (.iconst 0, 1) := by decide +kernel
theorem dX8_order_114 : decode cX8_order 114 = .ok (.istore 7, 2) := by decide +kernel
theorem dX8_order_116 : decode cX8_order 116 = .ok (.iload 7, 2) := by decide +kernel
theorem dX8_order_118 : decode cX8_order 118 = .ok (.iload_n 2, 1) := by decide +kernel
theorem dX8_order_119 : decode cX8_order 119 = .ok (.if_icmp .ge 41, 3) := by decide +kernel
theorem dX8_order_122 : decode cX8_order 122 = .ok (.iload 6, 2) := by decide +kernel
theorem dX8_order_124 : decode cX8_order 124 = .ok (.iload 5, 2) := by decide +kernel
theorem dX8_order_126 : decode cX8_order 126 = .ok (.iload 7, 2) := by decide +kernel
theorem dX8_order_128 : decode cX8_order 128 = .ok (.ishr, 1) := by decide +kernel
theorem dX8_order_129 : decode cX8_order 129 = .ok (.iconst 1, 1) := by decide +kernel
theorem dX8_order_130 : decode cX8_order 130 = .ok (.iand, 1) := by decide +kernel
theorem dX8_order_131 : decode cX8_order 131 = .ok (.iconst 1, 1) := by decide +kernel
theorem dX8_order_132 : decode cX8_order 132 = .ok (.if_icmp .ne 18, 3) := by decide +kernel
theorem dX8_order_135 : decode cX8_order 135 = .ok (.aload_n 0, 1) := by decide +kernel
theorem dX8_order_136 : decode cX8_order 136 = .ok (.getfield 26, 3) := by decide +kernel
theorem dX8_order_139 : decode cX8_order 139 = .ok (.aload_n 0, 1) := by decide +kernel
theorem dX8_order_140 : decode cX8_order 140 = .ok (.getfield 91, 3) := by decide +kernel
theorem dX8_order_143 : decode cX8_order 143 = .ok (.iload 7, 2) := by decide +kernel
theorem dX8_order_145 : decode cX8_order 145 = .ok (.iaload, 1) := by decide +kernel
theorem dX8_order_146 : decode cX8_order 146 = .ok (.iaload, 1) := by decide +kernel
theorem dX8_order_147 : decode cX8_order 147 = .ok (.goto 4, 3) := by decide +kernel
theorem dX8_order_150 : decode cX8_order 150 = .ok (.iconst 0, 1) := by decide +kernel
theorem dX8_order_151 : decode cX8_order 151 = .ok (.iadd, 1) := by decide +kernel
theorem dX8_order_152 : decode cX8_order 152 = .ok (.istore 6, 2) := by decide +kernel
theorem dX8_order_154 : decode cX8_order 154 = .ok (.iinc 7 1, 3) := by decide +kernel
theorem dX8_order_157 : decode cX8_order 157 = .ok (.goto (-41), 3) := by decide +kernel
theorem dX8_order_160 : decode cX8_order 160 = .ok (.iload 6, 2) := by decide +kernel
theorem dX8_order_162 : decode cX8_order 162 = .ok (.iload_n 1, 1) := by decide +kernel
theorem dX8_order_163 : decode cX8_order 163 = .ok (.if_icmp .lt 43, 3) := by decide +kernel
theorem dX8_order_166 : decode cX8_order 166 = .ok (.iload_n 3, 1) := by decide +kernel
theorem dX8_order_167 : decode cX8_order 167 = .ok (.ifCond .lt 32, 3) := by decide +kernel
theorem dX8_order_170 : decode cX8_order 170 = .ok (.iload 6, 2) := by decide +kernel
theorem dX8_order_172 : decode cX8_order 172 = .ok (.iload 4, 2) := by decide +kernel
theorem dX8_order_174 : decode cX8_order 174 = .ok (.if_icmp .gt 32, 3) := by decide +kernel
theorem dX8_order_177 : decode cX8_order 177 = .ok (.iload 6, 2) := by decide +kernel
theorem dX8_order_179 : decode cX8_order 179 = .ok (.iload 4, 2) := by decide +kernel
theorem dX8_order_181 : decode cX8_order 181 = .ok (.if_icmp .ne 18, 3) := by decide +kernel
theorem dX8_order_184 : decode cX8_order 184 = .ok (.iload 5, 2) := by decide +kernel
theorem dX8_order_186 : decode cX8_order 186 = .ok (.invokestatic 200, 3) := by decide +kernel
theorem dX8_order_189 : decode cX8_order 189 = .ok (.iload_n 3, 1) := by decide +kernel
theorem dX8_order_190 : decode cX8_order 190 = .ok (.invokestatic 200, 3) := by decide +kernel
theorem dX8_order_193 : decode cX8_order 193 = .ok (.if_icmp .lt 6, 3) := by decide +kernel
theorem dX8_order_196 : decode cX8_order 196 = .ok (.goto 10, 3) := by decide +kernel
theorem dX8_order_199 : decode cX8_order 199 = .ok (.iload 5, 2) := by decide +kernel
theorem dX8_order_201 : decode cX8_order 201 = .ok (.istore_n 3, 1) := by decide +kernel
theorem dX8_order_202 : decode cX8_order 202 = .ok (.iload 6, 2) := by decide +kernel
theorem dX8_order_204 : decode cX8_order 204 = .ok (.istore 4, 2) := by decide +kernel
theorem dX8_order_206 : decode cX8_order 206 = .ok (.iinc 5 1, 3) := by decide +kernel
theorem dX8_order_209 : decode cX8_order 209 = .ok (.goto (-107), 3) := by decide +kernel
theorem dX8_order_212 : decode cX8_order 212 = .ok (.iload_n 3, 1) := by decide +kernel
theorem dX8_order_213 : decode cX8_order 213 = .ok (.ifCond .ge 5, 3) := by decide +kernel
theorem dX8_order_216 : decode cX8_order 216 = .ok (.iconst (-1), 1) := by decide +kernel
theorem dX8_order_217 : decode cX8_order 217 = .ok (.ireturn, 1) := by decide +kernel
theorem dX8_order_218 : decode cX8_order 218 = .ok (.iconst 0, 1) := by decide +kernel
theorem dX8_order_219 : decode cX8_order 219 = .ok (.istore 5, 2) := by decide +kernel
theorem dX8_order_221 : decode cX8_order 221 = .ok (.iload 5, 2) := by decide +kernel
theorem dX8_order_223 : decode cX8_order 223 = .ok (.iload_n 2, 1) := by decide +kernel
theorem dX8_order_224 : decode cX8_order 224 = .ok (.if_icmp .ge 45, 3) := by decide +kernel
theorem dX8_order_227 : decode cX8_order 227 = .ok (.iload_n 3, 1) := by decide +kernel
theorem dX8_order_228 : decode cX8_order 228 = .ok (.iload 5, 2) := by decide +kernel
theorem dX8_order_230 : decode cX8_order 230 = .ok (.ishr, 1) := by decide +kernel
theorem dX8_order_231 : decode cX8_order 231 = .ok (.iconst 1, 1) := by decide +kernel
theorem dX8_order_232 : decode cX8_order 232 = .ok (.iand, 1) := by decide +kernel
theorem dX8_order_233 : decode cX8_order 233 = .ok (.ifCond .ne 6, 3) := by decide +kernel
theorem dX8_order_236 : decode cX8_order 236 = .ok (.goto 27, 3) := by decide +kernel
theorem dX8_order_239 : decode cX8_order 239 = .ok (.aload_n 0, 1) := by decide +kernel
theorem dX8_order_240 : decode cX8_order 240 = .ok (.aload_n 0, 1) := by decide +kernel
theorem dX8_order_241 : decode cX8_order 241 = .ok (.getfield 91, 3) := by decide +kernel
theorem dX8_order_244 : decode cX8_order 244 = .ok (.iload 5, 2) := by decide +kernel
theorem dX8_order_246 : decode cX8_order 246 = .ok (.iaload, 1) := by decide +kernel
theorem dX8_order_247 : decode cX8_order 247 = .ok (.invokevirtual 116, 3) := by decide +kernel
theorem dX8_order_250 : decode cX8_order 250 = .ok (.aload_n 0, 1) := by decide +kernel
theorem dX8_order_251 : decode cX8_order 251 = .ok (.getfield 39, 3) := by decide +kernel
theorem dX8_order_254 : decode cX8_order 254 = .ok (.aload_n 0, 1) := by decide +kernel
theorem dX8_order_255 : decode cX8_order 255 = .ok (.getfield 91, 3) := by decide +kernel
theorem dX8_order_258 : decode cX8_order 258 = .ok (.iload 5, 2) := by decide +kernel
theorem dX8_order_260 : decode cX8_order 260 = .ok (.iaload, 1) := by decide +kernel
theorem dX8_order_261 : decode cX8_order 261 = .ok (.iconst 1, 1) := by decide +kernel
theorem dX8_order_262 : decode cX8_order 262 = .ok (.bastore, 1) := by decide +kernel
theorem dX8_order_263 : decode cX8_order 263 = .ok (.iinc 5 1, 3) := by decide +kernel
theorem dX8_order_266 : decode cX8_order 266 = .ok (.goto (-45), 3) := by decide +kernel
theorem dX8_order_269 : decode cX8_order 269 = .ok (.iload_n 3, 1) := by decide +kernel
theorem dX8_order_270 : decode cX8_order 270 = .ok (.invokestatic 200, 3) := by decide +kernel
theorem dX8_order_273 : decode cX8_order 273 = .ok (.ireturn, 1) := by decide +kernel
set_option maxRecDepth 20000 in
theorem ggX8_count_X8_in : GoodIn wsX8_count wsX8_in := goodIn_r _ [14] rfl (by decide +kernel)
set_option maxRecDepth 20000 in
theorem gX8_count_X8_in : GoodIn wsX8_count (va_wsS RX8 97 yX8_in wsX8_in) := goodIn_app (goodIn_of _ (by decide +kernel)) ggX8_count_X8_in
theorem dX8_count_0 : decode cX8_count 0 = .ok (.aload_n 0, 1) := by decide +kernel
theorem dX8_count_1 : decode cX8_count 1 = .ok (.iconst 0, 1) := by decide +kernel
theorem dX8_count_2 : decode cX8_count 2 = .ok (.putfield 1, 3) := by decide +kernel
theorem dX8_count_5 : decode cX8_count 5 = .ok (.iload_n 1, 1) := by decide +kernel
theorem dX8_count_6 : decode cX8_count 6 = .ok (.ifCond .ne 8, 3) := by decide +kernel
theorem dX8_count_9 : decode cX8_count 9 = .ok (.aload_n 0, 1) := by decide +kernel
theorem dX8_count_10 : decode cX8_count 10 = .ok (.getfield 105, 3) := by decide +kernel
theorem dX8_count_13 : decode cX8_count 13 = .ok (.ireturn, 1) := by decide +kernel
theorem dX8_count_14 : decode cX8_count 14 = .ok (.iload_n 1, 1) := by decide +kernel
theorem dX8_count_15 : decode cX8_count 15 = .ok (.iconst 1, 1) := by decide +kernel
theorem dX8_count_16 : decode cX8_count 16 = .ok (.if_icmp .ne 8, 3) := by decide +kernel
theorem dX8_count_19 : decode cX8_count 19 = .ok (.aload_n 0, 1) := by decide +kernel
theorem dX8_count_20 : decode cX8_count 20 = .ok (.getfield 94, 3) := by decide +kernel
theorem dX8_count_23 : decode cX8_count 23 = .ok (.ireturn, 1) := by decide +kernel
theorem dX8_count_24 : decode cX8_count 24 = .ok (.iload_n 1, 1) := by decide +kernel
theorem dX8_count_25 : decode cX8_count 25 = .ok (.bipush 8, 2) := by decide +kernel
theorem dX8_count_27 : decode cX8_count 27 = .ok (.if_icmp .ne 8, 3) := by decide +kernel
theorem dX8_count_30 : decode cX8_count 30 = .ok (.aload_n 0, 1) := by decide +kernel
theorem dX8_count_31 : decode cX8_count 31 = .ok (.getfield 179, 3) := by decide +kernel
theorem dX8_count_34 : decode cX8_count 34 = .ok (.ireturn, 1) := by decide +kernel
theorem dX8_count_35 : decode cX8_count 35 = .ok (.iconst 0, 1) := by decide +kernel
theorem dX8_count_36 : decode cX8_count 36 = .ok (.istore_n 2, 1) := by decide +kernel
theorem dX8_count_37 : decode cX8_count 37 = .ok (.iconst 0, 1) := by decide +kernel
theorem dX8_count_38 : decode cX8_count 38 = .ok (.istore_n 3, 1) := by decide +kernel
theorem dX8_count_39 : decode cX8_count 39 = .ok (.iload_n 3, 1) := by decide +kernel
theorem dX8_count_40 : decode cX8_count 40 = .ok (.aload_n 0, 1) := by decide +kernel
theorem dX8_count_41 : decode cX8_count 41 = .ok (.getfield 94, 3) := by decide +kernel
theorem dX8_count_44 : decode cX8_count 44 = .ok (.if_icmp .ge 208, 3) := by decide +kernel
theorem dX8_count_47 : decode cX8_count 47 = .ok (.iload_n 1, 1) := by decide +kernel
theorem dX8_count_48 : decode cX8_count 48 = .ok (.tableswitch 198 2 9 #[48, 68, 88, 108, 128, 153, 198, 178], 48) := by decide +kernel
theorem dX8_count_96 : decode cX8_count 96 = .ok (.iload_n 2, 1) := by decide +kernel
theorem dX8_count_97 : decode cX8_count 97 = .ok (.aload_n 0, 1) := by decide +kernel
theorem dX8_count_98 : decode cX8_count 98 = .ok (.getfield 45, 3) := by decide +kernel
theorem dX8_count_101 : decode cX8_count 101 = .ok (.iload_n 3, 1) := by decide +kernel
theorem dX8_count_102 : decode cX8_count 102 = .ok (.iaload, 1) := by decide +kernel
theorem dX8_count_103 : decode cX8_count 103 = .ok (.ifCond .lt 7, 3) := by decide +kernel
theorem dX8_count_106 : decode cX8_count 106 = .ok (.iconst 1, 1) := by decide +kernel
theorem dX8_count_107 : decode cX8_count 107 = .ok (.goto 4, 3) := by decide +kernel
theorem dX8_count_110 : decode cX8_count 110 = .ok (.iconst 0, 1) := by decide +kernel
theorem dX8_count_111 : decode cX8_count 111 = .ok (.iadd, 1) := by decide +kernel
theorem dX8_count_112 : decode cX8_count 112 = .ok (.istore_n 2, 1) := by decide +kernel
theorem dX8_count_113 : decode cX8_count 113 = .ok (.goto 133, 3) := by decide +kernel
theorem dX8_count_116 : decode cX8_count 116 = .ok (.iload_n 2, 1) := by decide +kernel
theorem dX8_count_117 : decode cX8_count 117 = .ok (.aload_n 0, 1) := by decide +kernel
theorem dX8_count_118 : decode cX8_count 118 = .ok (.getfield 42, 3) := by decide +kernel
theorem dX8_count_121 : decode cX8_count 121 = .ok (.iload_n 3, 1) := by decide +kernel
theorem dX8_count_122 : decode cX8_count 122 = .ok (.iaload, 1) := by decide +kernel
theorem dX8_count_123 : decode cX8_count 123 = .ok (.ifCond .lt 7, 3) := by decide +kernel
theorem dX8_count_126 : decode cX8_count 126 = .ok (.iconst 1, 1) := by decide +kernel
theorem dX8_count_127 : decode cX8_count 127 = .ok (.goto 4, 3) := by decide +kernel
theorem dX8_count_130 : decode cX8_count 130 = .ok (.iconst 0, 1) := by decide +kernel
theorem dX8_count_131 : decode cX8_count 131 = .ok (.iadd, 1) := by decide +kernel
theorem dX8_count_132 : decode cX8_count 132 = .ok (.istore_n 2, 1) := by decide +kernel
theorem dX8_count_133 : decode cX8_count 133 = .ok (.goto 113, 3) := by decide +kernel
theorem dX8_count_136 : decode cX8_count 136 = .ok (.iload_n 2, 1) := by decide +kernel
theorem dX8_count_137 : decode cX8_count 137 = .ok (.aload_n 0, 1) := by decide +kernel
theorem dX8_count_138 : decode cX8_count 138 = .ok (.getfield 35, 3) := by decide +kernel
theorem dX8_count_141 : decode cX8_count 141 = .ok (.iload_n 3, 1) := by decide +kernel
theorem dX8_count_142 : decode cX8_count 142 = .ok (.baload, 1) := by decide +kernel
theorem dX8_count_143 : decode cX8_count 143 = .ok (.ifCond .eq 7, 3) := by decide +kernel
theorem dX8_count_146 : decode cX8_count 146 = .ok (.iconst 1, 1) := by decide +kernel
theorem dX8_count_147 : decode cX8_count 147 = .ok (.goto 4, 3) := by decide +kernel
theorem dX8_count_150 : decode cX8_count 150 = .ok (.iconst 0, 1) := by decide +kernel
theorem dX8_count_151 : decode cX8_count 151 = .ok (.iadd, 1) := by decide +kernel
theorem dX8_count_152 : decode cX8_count 152 = .ok (.istore_n 2, 1) := by decide +kernel
theorem dX8_count_153 : decode cX8_count 153 = .ok (.goto 93, 3) := by decide +kernel
theorem dX8_count_156 : decode cX8_count 156 = .ok (.iload_n 2, 1) := by decide +kernel
theorem dX8_count_157 : decode cX8_count 157 = .ok (.aload_n 0, 1) := by decide +kernel
theorem dX8_count_158 : decode cX8_count 158 = .ok (.getfield 39, 3) := by decide +kernel
theorem dX8_count_161 : decode cX8_count 161 = .ok (.iload_n 3, 1) := by decide +kernel
theorem dX8_count_162 : decode cX8_count 162 = .ok (.baload, 1) := by decide +kernel
theorem dX8_count_163 : decode cX8_count 163 = .ok (.ifCond .eq 7, 3) := by decide +kernel
theorem dX8_count_166 : decode cX8_count 166 = .ok (.iconst 1, 1) := by decide +kernel
theorem dX8_count_167 : decode cX8_count 167 = .ok (.goto 4, 3) := by decide +kernel
theorem dX8_count_170 : decode cX8_count 170 = .ok (.iconst 0, 1) := by decide +kernel
theorem dX8_count_171 : decode cX8_count 171 = .ok (.iadd, 1) := by decide +kernel
theorem dX8_count_172 : decode cX8_count 172 = .ok (.istore_n 2, 1) := by decide +kernel
theorem dX8_count_173 : decode cX8_count 173 = .ok (.goto 73, 3) := by decide +kernel
theorem dX8_count_176 : decode cX8_count 176 = .ok (.iload_n 2, 1) := by decide +kernel
theorem dX8_count_177 : decode cX8_count 177 = .ok (.aload_n 0, 1) := by decide +kernel
theorem dX8_count_178 : decode cX8_count 178 = .ok (.getfield 39, 3) := by decide +kernel
theorem dX8_count_181 : decode cX8_count 181 = .ok (.iload_n 3, 1) := by decide +kernel
theorem dX8_count_182 : decode cX8_count 182 = .ok (.baload, 1) := by decide +kernel
theorem dX8_count_183 : decode cX8_count 183 = .ok (.ifCond .eq 7, 3) := by decide +kernel
theorem dX8_count_186 : decode cX8_count 186 = .ok (.iconst 0, 1) := by decide +kernel
theorem dX8_count_187 : decode cX8_count 187 = .ok (.goto 9, 3) := by decide +kernel
theorem dX8_count_190 : decode cX8_count 190 = .ok (.aload_n 0, 1) := by decide +kernel
theorem dX8_count_191 : decode cX8_count 191 = .ok (.getfield 26, 3) := by decide +kernel
theorem dX8_count_194 : decode cX8_count 194 = .ok (.iload_n 3, 1) := by decide +kernel
theorem dX8_count_195 : decode cX8_count 195 = .ok (.iaload, 1) := by decide +kernel
theorem dX8_count_196 : decode cX8_count 196 = .ok (.iadd, 1) := by decide +kernel
theorem dX8_count_197 : decode cX8_count 197 = .ok (.istore_n 2, 1) := by decide +kernel
theorem dX8_count_198 : decode cX8_count 198 = .ok (.goto 48, 3) := by decide +kernel
theorem dX8_count_201 : decode cX8_count 201 = .ok (.iload_n 2, 1) := by decide +kernel
theorem dX8_count_202 : decode cX8_count 202 = .ok (.aload_n 0, 1) := by decide +kernel
theorem dX8_count_203 : decode cX8_count 203 = .ok (.getfield 39, 3) := by decide +kernel
theorem dX8_count_206 : decode cX8_count 206 = .ok (.iload_n 3, 1) := by decide +kernel
theorem dX8_count_207 : decode cX8_count 207 = .ok (.baload, 1) := by decide +kernel
theorem dX8_count_208 : decode cX8_count 208 = .ok (.ifCond .eq 12, 3) := by decide +kernel
theorem dX8_count_211 : decode cX8_count 211 = .ok (.aload_n 0, 1) := by decide +kernel
theorem dX8_count_212 : decode cX8_count 212 = .ok (.getfield 26, 3) := by decide +kernel
theorem dX8_count_215 : decode cX8_count 215 = .ok (.iload_n 3, 1) := by decide +kernel
theorem dX8_count_216 : decode cX8_count 216 = .ok (.iaload, 1) := by decide +kernel
theorem dX8_count_217 : decode cX8_count 217 = .ok (.goto 4, 3) := by decide +kernel
theorem dX8_count_220 : decode cX8_count 220 = .ok (.iconst 0, 1) := by decide +kernel
theorem dX8_count_221 : decode cX8_count 221 = .ok (.iadd, 1) := by decide +kernel
theorem dX8_count_222 : decode cX8_count 222 = .ok (.istore_n 2, 1) := by decide +kernel
theorem dX8_count_223 : decode cX8_count 223 = .ok (.goto 23, 3) := by decide +kernel
theorem dX8_count_226 : decode cX8_count 226 = .ok (.iload_n 2, 1) := by decide +kernel
theorem dX8_count_227 : decode cX8_count 227 = .ok (.aload_n 0, 1) := by decide +kernel
theorem dX8_count_228 : decode cX8_count 228 = .ok (.getfield 48, 3) := by decide +kernel
theorem dX8_count_231 : decode cX8_count 231 = .ok (.iload_n 3, 1) := by decide +kernel
theorem dX8_count_232 : decode cX8_count 232 = .ok (.iaload, 1) := by decide +kernel
theorem dX8_count_233 : decode cX8_count 233 = .ok (.ifCond .lt 7, 3) := by decide +kernel
theorem dX8_count_236 : decode cX8_count 236 = .ok (.iconst 1, 1) := by decide +kernel
theorem dX8_count_237 : decode cX8_count 237 = .ok (.goto 4, 3) := by decide +kernel
theorem dX8_count_240 : decode cX8_count 240 = .ok (.iconst 0, 1) := by decide +kernel
theorem dX8_count_241 : decode cX8_count 241 = .ok (.iadd, 1) := by decide +kernel
theorem dX8_count_242 : decode cX8_count 242 = .ok (.istore_n 2, 1) := by decide +kernel
theorem dX8_count_243 : decode cX8_count 243 = .ok (.goto 3, 3) := by decide +kernel
theorem dX8_count_246 : decode cX8_count 246 = .ok (.iinc 3 1, 3) := by decide +kernel
theorem dX8_count_249 : decode cX8_count 249 = .ok (.goto (-210), 3) := by decide +kernel
theorem dX8_count_252 : decode cX8_count 252 = .ok (.iload_n 1, 1) := by decide +kernel
theorem dX8_count_253 : decode cX8_count 253 = .ok (.iconst 2, 1) := by decide +kernel
theorem dX8_count_254 : decode cX8_count 254 = .ok (.bipush 9, 2) := by decide +kernel
theorem dX8_count_256 : decode cX8_count 256 = .ok (.invokestatic 97, 3) := by decide +kernel
theorem dX8_count_259 : decode cX8_count 259 = .ok (.ifCond .eq 7, 3) := by decide +kernel
theorem dX8_count_262 : decode cX8_count 262 = .ok (.iload_n 2, 1) := by decide +kernel
theorem dX8_count_263 : decode cX8_count 263 = .ok (.goto 4, 3) := by decide +kernel
theorem dX8_count_266 : decode cX8_count 266 = .ok (.iconst (-1), 1) := by decide +kernel
theorem dX8_count_267 : decode cX8_count 267 = .ok (.ireturn, 1) := by decide +kernel
