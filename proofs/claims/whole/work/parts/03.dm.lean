theorem dX8_init_0 : decode cX8_init 0 = .ok (.aload_n 0, 1) := by decide +kernel
theorem dX8_init_1 : decode cX8_init 1 = .ok (.invokespecial 1, 3) := by decide +kernel
theorem dX8_init_4 : decode cX8_init 4 = .ok (.aload_n 0, 1) := by decide +kernel
theorem dX8_init_5 : decode cX8_init 5 = .ok (.bipush 12, 2) := by decide +kernel
theorem dX8_init_7 : decode cX8_init 7 = .ok (.newarray .int, 2) := by decide +kernel
theorem dX8_init_9 : decode cX8_init 9 = .ok (.putfield 7, 3) := by decide +kernel
theorem dX8_init_12 : decode cX8_init 12 = .ok (.aload_n 0, 1) := by decide +kernel
theorem dX8_init_13 : decode cX8_init 13 = .ok (.bipush 12, 2) := by decide +kernel
theorem dX8_init_15 : decode cX8_init 15 = .ok (.newarray .int, 2) := by decide +kernel
theorem dX8_init_17 : decode cX8_init 17 = .ok (.putfield 13, 3) := by decide +kernel
theorem dX8_init_20 : decode cX8_init 20 = .ok (.aload_n 0, 1) := by decide +kernel
theorem dX8_init_21 : decode cX8_init 21 = .ok (.bipush 12, 2) := by decide +kernel
theorem dX8_init_23 : decode cX8_init 23 = .ok (.newarray .int, 2) := by decide +kernel
theorem dX8_init_25 : decode cX8_init 25 = .ok (.putfield 16, 3) := by decide +kernel
theorem dX8_init_28 : decode cX8_init 28 = .ok (.aload_n 0, 1) := by decide +kernel
theorem dX8_init_29 : decode cX8_init 29 = .ok (.bipush 12, 2) := by decide +kernel
theorem dX8_init_31 : decode cX8_init 31 = .ok (.newarray .int, 2) := by decide +kernel
theorem dX8_init_33 : decode cX8_init 33 = .ok (.putfield 19, 3) := by decide +kernel
theorem dX8_init_36 : decode cX8_init 36 = .ok (.aload_n 0, 1) := by decide +kernel
theorem dX8_init_37 : decode cX8_init 37 = .ok (.bipush 12, 2) := by decide +kernel
theorem dX8_init_39 : decode cX8_init 39 = .ok (.newarray .int, 2) := by decide +kernel
theorem dX8_init_41 : decode cX8_init 41 = .ok (.putfield 22, 3) := by decide +kernel
theorem dX8_init_44 : decode cX8_init 44 = .ok (.aload_n 0, 1) := by decide +kernel
theorem dX8_init_45 : decode cX8_init 45 = .ok (.bipush 12, 2) := by decide +kernel
theorem dX8_init_47 : decode cX8_init 47 = .ok (.newarray .int, 2) := by decide +kernel
theorem dX8_init_49 : decode cX8_init 49 = .ok (.putfield 25, 3) := by decide +kernel
theorem dX8_init_52 : decode cX8_init 52 = .ok (.aload_n 0, 1) := by decide +kernel
theorem dX8_init_53 : decode cX8_init 53 = .ok (.bipush 12, 2) := by decide +kernel
theorem dX8_init_55 : decode cX8_init 55 = .ok (.newarray .int, 2) := by decide +kernel
theorem dX8_init_57 : decode cX8_init 57 = .ok (.putfield 28, 3) := by decide +kernel
theorem dX8_init_60 : decode cX8_init 60 = .ok (.aload_n 0, 1) := by decide +kernel
theorem dX8_init_61 : decode cX8_init 61 = .ok (.bipush 48, 2) := by decide +kernel
theorem dX8_init_63 : decode cX8_init 63 = .ok (.newarray .int, 2) := by decide +kernel
theorem dX8_init_65 : decode cX8_init 65 = .ok (.putfield 31, 3) := by decide +kernel
theorem dX8_init_68 : decode cX8_init 68 = .ok (.aload_n 0, 1) := by decide +kernel
theorem dX8_init_69 : decode cX8_init 69 = .ok (.bipush 48, 2) := by decide +kernel
theorem dX8_init_71 : decode cX8_init 71 = .ok (.newarray .long, 2) := by decide +kernel
theorem dX8_init_73 : decode cX8_init 73 = .ok (.putfield 34, 3) := by decide +kernel
theorem dX8_init_76 : decode cX8_init 76 = .ok (.aload_n 0, 1) := by decide +kernel
theorem dX8_init_77 : decode cX8_init 77 = .ok (.bipush 48, 2) := by decide +kernel
theorem dX8_init_79 : decode cX8_init 79 = .ok (.newarray .boolean, 2) := by decide +kernel
theorem dX8_init_81 : decode cX8_init 81 = .ok (.putfield 38, 3) := by decide +kernel
theorem dX8_init_84 : decode cX8_init 84 = .ok (.aload_n 0, 1) := by decide +kernel
theorem dX8_init_85 : decode cX8_init 85 = .ok (.bipush 12, 2) := by decide +kernel
theorem dX8_init_87 : decode cX8_init 87 = .ok (.newarray .boolean, 2) := by decide +kernel
theorem dX8_init_89 : decode cX8_init 89 = .ok (.putfield 42, 3) := by decide +kernel
theorem dX8_init_92 : decode cX8_init 92 = .ok (.aload_n 0, 1) := by decide +kernel
theorem dX8_init_93 : decode cX8_init 93 = .ok (.bipush 12, 2) := by decide +kernel
theorem dX8_init_95 : decode cX8_init 95 = .ok (.newarray .int, 2) := by decide +kernel
theorem dX8_init_97 : decode cX8_init 97 = .ok (.putfield 45, 3) := by decide +kernel
theorem dX8_init_100 : decode cX8_init 100 = .ok (.aload_n 0, 1) := by decide +kernel
theorem dX8_init_101 : decode cX8_init 101 = .ok (.bipush 48, 2) := by decide +kernel
theorem dX8_init_103 : decode cX8_init 103 = .ok (.newarray .int, 2) := by decide +kernel
theorem dX8_init_105 : decode cX8_init 105 = .ok (.putfield 48, 3) := by decide +kernel
theorem dX8_init_108 : decode cX8_init 108 = .ok (.aload_n 0, 1) := by decide +kernel
theorem dX8_init_109 : decode cX8_init 109 = .ok (.bipush 48, 2) := by decide +kernel
theorem dX8_init_111 : decode cX8_init 111 = .ok (.newarray .long, 2) := by decide +kernel
theorem dX8_init_113 : decode cX8_init 113 = .ok (.putfield 51, 3) := by decide +kernel
theorem dX8_init_116 : decode cX8_init 116 = .ok (.aload_n 0, 1) := by decide +kernel
theorem dX8_init_117 : decode cX8_init 117 = .ok (.bipush 48, 2) := by decide +kernel
theorem dX8_init_119 : decode cX8_init 119 = .ok (.newarray .boolean, 2) := by decide +kernel
theorem dX8_init_121 : decode cX8_init 121 = .ok (.putfield 54, 3) := by decide +kernel
theorem dX8_init_124 : decode cX8_init 124 = .ok (.aload_n 0, 1) := by decide +kernel
theorem dX8_init_125 : decode cX8_init 125 = .ok (.sipush 520, 3) := by decide +kernel
theorem dX8_init_128 : decode cX8_init 128 = .ok (.newarray .int, 2) := by decide +kernel
theorem dX8_init_130 : decode cX8_init 130 = .ok (.putfield 57, 3) := by decide +kernel
theorem dX8_init_133 : decode cX8_init 133 = .ok (.aload_n 0, 1) := by decide +kernel
theorem dX8_init_134 : decode cX8_init 134 = .ok (.sipush 6240, 3) := by decide +kernel
theorem dX8_init_137 : decode cX8_init 137 = .ok (.newarray .int, 2) := by decide +kernel
theorem dX8_init_139 : decode cX8_init 139 = .ok (.putfield 60, 3) := by decide +kernel
theorem dX8_init_142 : decode cX8_init 142 = .ok (.aload_n 0, 1) := by decide +kernel
theorem dX8_init_143 : decode cX8_init 143 = .ok (.sipush 6240, 3) := by decide +kernel
theorem dX8_init_146 : decode cX8_init 146 = .ok (.newarray .int, 2) := by decide +kernel
theorem dX8_init_148 : decode cX8_init 148 = .ok (.putfield 63, 3) := by decide +kernel
theorem dX8_init_151 : decode cX8_init 151 = .ok (.aload_n 0, 1) := by decide +kernel
theorem dX8_init_152 : decode cX8_init 152 = .ok (.sipush 24960, 3) := by decide +kernel
theorem dX8_init_155 : decode cX8_init 155 = .ok (.newarray .long, 2) := by decide +kernel
theorem dX8_init_157 : decode cX8_init 157 = .ok (.putfield 66, 3) := by decide +kernel
theorem dX8_init_160 : decode cX8_init 160 = .ok (.aload_n 0, 1) := by decide +kernel
theorem dX8_init_161 : decode cX8_init 161 = .ok (.sipush 24960, 3) := by decide +kernel
theorem dX8_init_164 : decode cX8_init 164 = .ok (.newarray .long, 2) := by decide +kernel
theorem dX8_init_166 : decode cX8_init 166 = .ok (.putfield 69, 3) := by decide +kernel
theorem dX8_init_169 : decode cX8_init 169 = .ok (.aload_n 0, 1) := by decide +kernel
theorem dX8_init_170 : decode cX8_init 170 = .ok (.bipush 8, 2) := by decide +kernel
theorem dX8_init_172 : decode cX8_init 172 = .ok (.newarray .int, 2) := by decide +kernel
theorem dX8_init_174 : decode cX8_init 174 = .ok (.dup, 1) := by decide +kernel
theorem dX8_init_175 : decode cX8_init 175 = .ok (.iconst 0, 1) := by decide +kernel
theorem dX8_init_176 : decode cX8_init 176 = .ok (.bipush (-3), 2) := by decide +kernel
theorem dX8_init_178 : decode cX8_init 178 = .ok (.iastore, 1) := by decide +kernel
theorem dX8_init_179 : decode cX8_init 179 = .ok (.dup, 1) := by decide +kernel
theorem dX8_init_180 : decode cX8_init 180 = .ok (.iconst 1, 1) := by decide +kernel
theorem dX8_init_181 : decode cX8_init 181 = .ok (.bipush (-3), 2) := by decide +kernel
theorem dX8_init_183 : decode cX8_init 183 = .ok (.iastore, 1) := by decide +kernel
theorem dX8_init_184 : decode cX8_init 184 = .ok (.dup, 1) := by decide +kernel
theorem dX8_init_185 : decode cX8_init 185 = .ok (.iconst 2, 1) := by decide +kernel
theorem dX8_init_186 : decode cX8_init 186 = .ok (.bipush (-3), 2) := by decide +kernel
theorem dX8_init_188 : decode cX8_init 188 = .ok (.iastore, 1) := by decide +kernel
theorem dX8_init_189 : decode cX8_init 189 = .ok (.dup, 1) := by decide +kernel
theorem dX8_init_190 : decode cX8_init 190 = .ok (.iconst 3, 1) := by decide +kernel
theorem dX8_init_191 : decode cX8_init 191 = .ok (.bipush (-3), 2) := by decide +kernel
theorem dX8_init_193 : decode cX8_init 193 = .ok (.iastore, 1) := by decide +kernel
theorem dX8_init_194 : decode cX8_init 194 = .ok (.dup, 1) := by decide +kernel
theorem dX8_init_195 : decode cX8_init 195 = .ok (.iconst 4, 1) := by decide +kernel
theorem dX8_init_196 : decode cX8_init 196 = .ok (.bipush (-3), 2) := by decide +kernel
theorem dX8_init_198 : decode cX8_init 198 = .ok (.iastore, 1) := by decide +kernel
theorem dX8_init_199 : decode cX8_init 199 = .ok (.dup, 1) := by decide +kernel
theorem dX8_init_200 : decode cX8_init 200 = .ok (.iconst 5, 1) := by decide +kernel
theorem dX8_init_201 : decode cX8_init 201 = .ok (.bipush (-3), 2) := by decide +kernel
theorem dX8_init_203 : decode cX8_init 203 = .ok (.iastore, 1) := by decide +kernel
theorem dX8_init_204 : decode cX8_init 204 = .ok (.dup, 1) := by decide +kernel
theorem dX8_init_205 : decode cX8_init 205 = .ok (.bipush 6, 2) := by decide +kernel
theorem dX8_init_207 : decode cX8_init 207 = .ok (.bipush (-3), 2) := by decide +kernel
theorem dX8_init_209 : decode cX8_init 209 = .ok (.iastore, 1) := by decide +kernel
theorem dX8_init_210 : decode cX8_init 210 = .ok (.dup, 1) := by decide +kernel
theorem dX8_init_211 : decode cX8_init 211 = .ok (.bipush 7, 2) := by decide +kernel
theorem dX8_init_213 : decode cX8_init 213 = .ok (.bipush (-3), 2) := by decide +kernel
theorem dX8_init_215 : decode cX8_init 215 = .ok (.iastore, 1) := by decide +kernel
theorem dX8_init_216 : decode cX8_init 216 = .ok (.putfield 72, 3) := by decide +kernel
theorem dX8_init_219 : decode cX8_init 219 = .ok (.aload_n 0, 1) := by decide +kernel
theorem dX8_init_220 : decode cX8_init 220 = .ok (.bipush 6, 2) := by decide +kernel
theorem dX8_init_222 : decode cX8_init 222 = .ok (.newarray .int, 2) := by decide +kernel
theorem dX8_init_224 : decode cX8_init 224 = .ok (.putfield 75, 3) := by decide +kernel
theorem dX8_init_227 : decode cX8_init 227 = .ok (.aload_n 0, 1) := by decide +kernel
theorem dX8_init_228 : decode cX8_init 228 = .ok (.bipush 6, 2) := by decide +kernel
theorem dX8_init_230 : decode cX8_init 230 = .ok (.newarray .int, 2) := by decide +kernel
theorem dX8_init_232 : decode cX8_init 232 = .ok (.putfield 78, 3) := by decide +kernel
theorem dX8_init_235 : decode cX8_init 235 = .ok (.aload_n 0, 1) := by decide +kernel
theorem dX8_init_236 : decode cX8_init 236 = .ok (.bipush 6, 2) := by decide +kernel
theorem dX8_init_238 : decode cX8_init 238 = .ok (.newarray .int, 2) := by decide +kernel
theorem dX8_init_240 : decode cX8_init 240 = .ok (.putfield 81, 3) := by decide +kernel
theorem dX8_init_243 : decode cX8_init 243 = .ok (.aload_n 0, 1) := by decide +kernel
theorem dX8_init_244 : decode cX8_init 244 = .ok (.bipush 24, 2) := by decide +kernel
theorem dX8_init_246 : decode cX8_init 246 = .ok (.newarray .long, 2) := by decide +kernel
theorem dX8_init_248 : decode cX8_init 248 = .ok (.putfield 84, 3) := by decide +kernel
theorem dX8_init_251 : decode cX8_init 251 = .ok (.aload_n 0, 1) := by decide +kernel
theorem dX8_init_252 : decode cX8_init 252 = .ok (.bipush 64, 2) := by decide +kernel
theorem dX8_init_254 : decode cX8_init 254 = .ok (.newarray .int, 2) := by decide +kernel
theorem dX8_init_256 : decode cX8_init 256 = .ok (.putfield 87, 3) := by decide +kernel
theorem dX8_init_259 : decode cX8_init 259 = .ok (.return_, 1) := by decide +kernel
theorem dX8_in_0 : decode cX8_in 0 = .ok (.iload_n 0, 1) := by decide +kernel
theorem dX8_in_1 : decode cX8_in 1 = .ok (.iload_n 1, 1) := by decide +kernel
theorem dX8_in_2 : decode cX8_in 2 = .ok (.if_icmp .lt 12, 3) := by decide +kernel
theorem dX8_in_5 : decode cX8_in 5 = .ok (.iload_n 0, 1) := by decide +kernel
theorem dX8_in_6 : decode cX8_in 6 = .ok (.iload_n 2, 1) := by decide +kernel
theorem dX8_in_7 : decode cX8_in 7 = .ok (.if_icmp .gt 7, 3) := by decide +kernel
theorem dX8_in_10 : decode cX8_in 10 = .ok (.iconst 1, 1) := by decide +kernel
theorem dX8_in_11 : decode cX8_in 11 = .ok (.goto 4, 3) := by decide +kernel
theorem dX8_in_14 : decode cX8_in 14 = .ok (.iconst 0, 1) := by decide +kernel
theorem dX8_in_15 : decode cX8_in 15 = .ok (.ireturn, 1) := by decide +kernel
theorem dX8_isType_0 : decode cX8_isType 0 = .ok (.iload_n 1, 1) := by decide +kernel
theorem dX8_isType_1 : decode cX8_isType 1 = .ok (.iconst 0, 1) := by decide +kernel
theorem dX8_isType_2 : decode cX8_isType 2 = .ok (.aload_n 0, 1) := by decide +kernel
theorem dX8_isType_3 : decode cX8_isType 3 = .ok (.getfield 90, 3) := by decide +kernel
theorem dX8_isType_6 : decode cX8_isType 6 = .ok (.iconst 1, 1) := by decide +kernel
theorem dX8_isType_7 : decode cX8_isType 7 = .ok (.isub, 1) := by decide +kernel
theorem dX8_isType_8 : decode cX8_isType 8 = .ok (.invokestatic 94, 3) := by decide +kernel
theorem dX8_isType_11 : decode cX8_isType 11 = .ok (.ireturn, 1) := by decide +kernel
theorem dX8_isPlace_0 : decode cX8_isPlace 0 = .ok (.iload_n 0, 1) := by decide +kernel
theorem dX8_isPlace_1 : decode cX8_isPlace 1 = .ok (.iconst 0, 1) := by decide +kernel
theorem dX8_isPlace_2 : decode cX8_isPlace 2 = .ok (.bipush 7, 2) := by decide +kernel
theorem dX8_isPlace_4 : decode cX8_isPlace 4 = .ok (.invokestatic 94, 3) := by decide +kernel
theorem dX8_isPlace_7 : decode cX8_isPlace 7 = .ok (.ireturn, 1) := by decide +kernel
theorem dX8_isName_0 : decode cX8_isName 0 = .ok (.iload_n 0, 1) := by decide +kernel
theorem dX8_isName_1 : decode cX8_isName 1 = .ok (.iconst 0, 1) := by decide +kernel
theorem dX8_isName_2 : decode cX8_isName 2 = .ok (.bipush 7, 2) := by decide +kernel
theorem dX8_isName_4 : decode cX8_isName 4 = .ok (.invokestatic 94, 3) := by decide +kernel
theorem dX8_isName_7 : decode cX8_isName 7 = .ok (.ireturn, 1) := by decide +kernel
theorem dX8_isInMethod_0 : decode cX8_isInMethod 0 = .ok (.iload_n 0, 1) := by decide +kernel
theorem dX8_isInMethod_1 : decode cX8_isInMethod 1 = .ok (.iconst 3, 1) := by decide +kernel
theorem dX8_isInMethod_2 : decode cX8_isInMethod 2 = .ok (.if_icmp .lt 7, 3) := by decide +kernel
theorem dX8_isInMethod_5 : decode cX8_isInMethod 5 = .ok (.iconst 1, 1) := by decide +kernel
theorem dX8_isInMethod_6 : decode cX8_isInMethod 6 = .ok (.goto 4, 3) := by decide +kernel
theorem dX8_isInMethod_9 : decode cX8_isInMethod 9 = .ok (.iconst 0, 1) := by decide +kernel
theorem dX8_isInMethod_10 : decode cX8_isInMethod 10 = .ok (.ireturn, 1) := by decide +kernel
theorem dX8_isBound_0 : decode cX8_isBound 0 = .ok (.aload_n 0, 1) := by decide +kernel
theorem dX8_isBound_1 : decode cX8_isBound 1 = .ok (.getfield 7, 3) := by decide +kernel
theorem dX8_isBound_4 : decode cX8_isBound 4 = .ok (.iload_n 1, 1) := by decide +kernel
theorem dX8_isBound_5 : decode cX8_isBound 5 = .ok (.iaload, 1) := by decide +kernel
theorem dX8_isBound_6 : decode cX8_isBound 6 = .ok (.iconst 2, 1) := by decide +kernel
theorem dX8_isBound_7 : decode cX8_isBound 7 = .ok (.if_icmp .eq 37, 3) := by decide +kernel
theorem dX8_isBound_10 : decode cX8_isBound 10 = .ok (.aload_n 0, 1) := by decide +kernel
theorem dX8_isBound_11 : decode cX8_isBound 11 = .ok (.getfield 7, 3) := by decide +kernel
theorem dX8_isBound_14 : decode cX8_isBound 14 = .ok (.iload_n 1, 1) := by decide +kernel
theorem dX8_isBound_15 : decode cX8_isBound 15 = .ok (.iaload, 1) := by decide +kernel
theorem dX8_isBound_16 : decode cX8_isBound 16 = .ok (.iconst 3, 1) := by decide +kernel
theorem dX8_isBound_17 : decode cX8_isBound 17 = .ok (.if_icmp .eq 13, 3) := by decide +kernel
theorem dX8_isBound_20 : decode cX8_isBound 20 = .ok (.aload_n 0, 1) := by decide +kernel
theorem dX8_isBound_21 : decode cX8_isBound 21 = .ok (.getfield 7, 3) := by decide +kernel
theorem dX8_isBound_24 : decode cX8_isBound 24 = .ok (.iload_n 1, 1) := by decide +kernel
theorem dX8_isBound_25 : decode cX8_isBound 25 = .ok (.iaload, 1) := by decide +kernel
theorem dX8_isBound_26 : decode cX8_isBound 26 = .ok (.iconst 5, 1) := by decide +kernel
theorem dX8_isBound_27 : decode cX8_isBound 27 = .ok (.if_icmp .ne 21, 3) := by decide +kernel
theorem dX8_isBound_30 : decode cX8_isBound 30 = .ok (.aload_n 0, 1) := by decide +kernel
theorem dX8_isBound_31 : decode cX8_isBound 31 = .ok (.getfield 42, 3) := by decide +kernel
theorem dX8_isBound_34 : decode cX8_isBound 34 = .ok (.aload_n 0, 1) := by decide +kernel
theorem dX8_isBound_35 : decode cX8_isBound 35 = .ok (.getfield 13, 3) := by decide +kernel
theorem dX8_isBound_38 : decode cX8_isBound 38 = .ok (.iload_n 1, 1) := by decide +kernel
theorem dX8_isBound_39 : decode cX8_isBound 39 = .ok (.iaload, 1) := by decide +kernel
theorem dX8_isBound_40 : decode cX8_isBound 40 = .ok (.baload, 1) := by decide +kernel
theorem dX8_isBound_41 : decode cX8_isBound 41 = .ok (.ifCond .ne 7, 3) := by decide +kernel
theorem dX8_isBound_44 : decode cX8_isBound 44 = .ok (.iconst 1, 1) := by decide +kernel
theorem dX8_isBound_45 : decode cX8_isBound 45 = .ok (.goto 4, 3) := by decide +kernel
theorem dX8_isBound_48 : decode cX8_isBound 48 = .ok (.iconst 0, 1) := by decide +kernel
theorem dX8_isBound_49 : decode cX8_isBound 49 = .ok (.ireturn, 1) := by decide +kernel
theorem dX8_isTaken_0 : decode cX8_isTaken 0 = .ok (.iconst 0, 1) := by decide +kernel
theorem dX8_isTaken_1 : decode cX8_isTaken 1 = .ok (.istore 4, 2) := by decide +kernel
theorem dX8_isTaken_3 : decode cX8_isTaken 3 = .ok (.iload_n 1, 1) := by decide +kernel
theorem dX8_isTaken_4 : decode cX8_isTaken 4 = .ok (.ifCond .ne 55, 3) := by decide +kernel
theorem dX8_isTaken_7 : decode cX8_isTaken 7 = .ok (.iconst 0, 1) := by decide +kernel
theorem dX8_isTaken_8 : decode cX8_isTaken 8 = .ok (.istore 5, 2) := by decide +kernel
theorem dX8_isTaken_10 : decode cX8_isTaken 10 = .ok (.iload 5, 2) := by decide +kernel
theorem dX8_isTaken_12 : decode cX8_isTaken 12 = .ok (.aload_n 0, 1) := by decide +kernel
theorem dX8_isTaken_13 : decode cX8_isTaken 13 = .ok (.getfield 90, 3) := by decide +kernel
theorem dX8_isTaken_16 : decode cX8_isTaken 16 = .ok (.if_icmp .ge 40, 3) := by decide +kernel
theorem dX8_isTaken_19 : decode cX8_isTaken 19 = .ok (.iload 4, 2) := by decide +kernel
theorem dX8_isTaken_21 : decode cX8_isTaken 21 = .ok (.aload_n 0, 1) := by decide +kernel
theorem dX8_isTaken_22 : decode cX8_isTaken 22 = .ok (.getfield 7, 3) := by decide +kernel
theorem dX8_isTaken_25 : decode cX8_isTaken 25 = .ok (.iload 5, 2) := by decide +kernel
theorem dX8_isTaken_27 : decode cX8_isTaken 27 = .ok (.iaload, 1) := by decide +kernel
theorem dX8_isTaken_28 : decode cX8_isTaken 28 = .ok (.ifCond .ne 18, 3) := by decide +kernel
theorem dX8_isTaken_31 : decode cX8_isTaken 31 = .ok (.aload_n 0, 1) := by decide +kernel
theorem dX8_isTaken_32 : decode cX8_isTaken 32 = .ok (.getfield 16, 3) := by decide +kernel
theorem dX8_isTaken_35 : decode cX8_isTaken 35 = .ok (.iload 5, 2) := by decide +kernel
theorem dX8_isTaken_37 : decode cX8_isTaken 37 = .ok (.iaload, 1) := by decide +kernel
theorem dX8_isTaken_38 : decode cX8_isTaken 38 = .ok (.iload_n 3, 1) := by decide +kernel
theorem dX8_isTaken_39 : decode cX8_isTaken 39 = .ok (.if_icmp .ne 7, 3) := by decide +kernel
theorem dX8_isTaken_42 : decode cX8_isTaken 42 = .ok (.iconst 1, 1) := by decide +kernel
theorem dX8_isTaken_43 : decode cX8_isTaken 43 = .ok (.goto 4, 3) := by decide +kernel
theorem dX8_isTaken_46 : decode cX8_isTaken 46 = .ok (.iconst 0, 1) := by decide +kernel
theorem dX8_isTaken_47 : decode cX8_isTaken 47 = .ok (.ior, 1) := by decide +kernel
theorem dX8_isTaken_48 : decode cX8_isTaken 48 = .ok (.istore 4, 2) := by decide +kernel
theorem dX8_isTaken_50 : decode cX8_isTaken 50 = .ok (.iinc 5 1, 3) := by decide +kernel
theorem dX8_isTaken_53 : decode cX8_isTaken 53 = .ok (.goto (-43), 3) := by decide +kernel
theorem dX8_isTaken_56 : decode cX8_isTaken 56 = .ok (.iload 4, 2) := by decide +kernel
theorem dX8_isTaken_58 : decode cX8_isTaken 58 = .ok (.ireturn, 1) := by decide +kernel
theorem dX8_isTaken_59 : decode cX8_isTaken 59 = .ok (.iload_n 1, 1) := by decide +kernel
theorem dX8_isTaken_60 : decode cX8_isTaken 60 = .ok (.iconst 5, 1) := by decide +kernel
theorem dX8_isTaken_61 : decode cX8_isTaken 61 = .ok (.if_icmp .ne 5, 3) := by decide +kernel
theorem dX8_isTaken_64 : decode cX8_isTaken 64 = .ok (.iconst 0, 1) := by decide +kernel
theorem dX8_isTaken_65 : decode cX8_isTaken 65 = .ok (.ireturn, 1) := by decide +kernel
theorem dX8_isTaken_66 : decode cX8_isTaken 66 = .ok (.iload_n 2, 1) := by decide +kernel
theorem dX8_isTaken_67 : decode cX8_isTaken 67 = .ok (.istore 5, 2) := by decide +kernel
theorem dX8_isTaken_69 : decode cX8_isTaken 69 = .ok (.iload 5, 2) := by decide +kernel
theorem dX8_isTaken_71 : decode cX8_isTaken 71 = .ok (.ifCond .lt 36, 3) := by decide +kernel
theorem dX8_isTaken_74 : decode cX8_isTaken 74 = .ok (.iload 4, 2) := by decide +kernel
theorem dX8_isTaken_76 : decode cX8_isTaken 76 = .ok (.aload_n 0, 1) := by decide +kernel
theorem dX8_isTaken_77 : decode cX8_isTaken 77 = .ok (.getfield 16, 3) := by decide +kernel
theorem dX8_isTaken_80 : decode cX8_isTaken 80 = .ok (.iload 5, 2) := by decide +kernel
theorem dX8_isTaken_82 : decode cX8_isTaken 82 = .ok (.iaload, 1) := by decide +kernel
theorem dX8_isTaken_83 : decode cX8_isTaken 83 = .ok (.iload_n 3, 1) := by decide +kernel
theorem dX8_isTaken_84 : decode cX8_isTaken 84 = .ok (.if_icmp .ne 7, 3) := by decide +kernel
theorem dX8_isTaken_87 : decode cX8_isTaken 87 = .ok (.iconst 1, 1) := by decide +kernel
theorem dX8_isTaken_88 : decode cX8_isTaken 88 = .ok (.goto 4, 3) := by decide +kernel
theorem dX8_isTaken_91 : decode cX8_isTaken 91 = .ok (.iconst 0, 1) := by decide +kernel
theorem dX8_isTaken_92 : decode cX8_isTaken 92 = .ok (.ior, 1) := by decide +kernel
theorem dX8_isTaken_93 : decode cX8_isTaken 93 = .ok (.istore 4, 2) := by decide +kernel
theorem dX8_isTaken_95 : decode cX8_isTaken 95 = .ok (.aload_n 0, 1) := by decide +kernel
theorem dX8_isTaken_96 : decode cX8_isTaken 96 = .ok (.getfield 13, 3) := by decide +kernel
theorem dX8_isTaken_99 : decode cX8_isTaken 99 = .ok (.iload 5, 2) := by decide +kernel
theorem dX8_isTaken_101 : decode cX8_isTaken 101 = .ok (.iaload, 1) := by decide +kernel
theorem dX8_isTaken_102 : decode cX8_isTaken 102 = .ok (.istore 5, 2) := by decide +kernel
theorem dX8_isTaken_104 : decode cX8_isTaken 104 = .ok (.goto (-35), 3) := by decide +kernel
theorem dX8_isTaken_107 : decode cX8_isTaken 107 = .ok (.iconst 0, 1) := by decide +kernel
theorem dX8_isTaken_108 : decode cX8_isTaken 108 = .ok (.istore 5, 2) := by decide +kernel
theorem dX8_isTaken_110 : decode cX8_isTaken 110 = .ok (.iload 5, 2) := by decide +kernel
theorem dX8_isTaken_112 : decode cX8_isTaken 112 = .ok (.aload_n 0, 1) := by decide +kernel
theorem dX8_isTaken_113 : decode cX8_isTaken 113 = .ok (.getfield 90, 3) := by decide +kernel
theorem dX8_isTaken_116 : decode cX8_isTaken 116 = .ok (.if_icmp .ge 68, 3) := by decide +kernel
theorem dX8_isTaken_119 : decode cX8_isTaken 119 = .ok (.iload_n 1, 1) := by decide +kernel
theorem dX8_isTaken_120 : decode cX8_isTaken 120 = .ok (.iconst 3, 1) := by decide +kernel
theorem dX8_isTaken_121 : decode cX8_isTaken 121 = .ok (.if_icmp .ge 63, 3) := by decide +kernel
theorem dX8_isTaken_124 : decode cX8_isTaken 124 = .ok (.iload 4, 2) := by decide +kernel
theorem dX8_isTaken_126 : decode cX8_isTaken 126 = .ok (.aload_n 0, 1) := by decide +kernel
theorem dX8_isTaken_127 : decode cX8_isTaken 127 = .ok (.getfield 7, 3) := by decide +kernel
theorem dX8_isTaken_130 : decode cX8_isTaken 130 = .ok (.iload 5, 2) := by decide +kernel
theorem dX8_isTaken_132 : decode cX8_isTaken 132 = .ok (.iaload, 1) := by decide +kernel
theorem dX8_isTaken_133 : decode cX8_isTaken 133 = .ok (.iconst 1, 1) := by decide +kernel
theorem dX8_isTaken_134 : decode cX8_isTaken 134 = .ok (.if_icmp .eq 14, 3) := by decide +kernel
theorem dX8_isTaken_137 : decode cX8_isTaken 137 = .ok (.aload_n 0, 1) := by decide +kernel
theorem dX8_isTaken_138 : decode cX8_isTaken 138 = .ok (.getfield 7, 3) := by decide +kernel
theorem dX8_isTaken_141 : decode cX8_isTaken 141 = .ok (.iload 5, 2) := by decide +kernel
theorem dX8_isTaken_143 : decode cX8_isTaken 143 = .ok (.iaload, 1) := by decide +kernel
theorem dX8_isTaken_144 : decode cX8_isTaken 144 = .ok (.iconst 2, 1) := by decide +kernel
theorem dX8_isTaken_145 : decode cX8_isTaken 145 = .ok (.if_icmp .ne 29, 3) := by decide +kernel
theorem dX8_isTaken_148 : decode cX8_isTaken 148 = .ok (.aload_n 0, 1) := by decide +kernel
theorem dX8_isTaken_149 : decode cX8_isTaken 149 = .ok (.getfield 13, 3) := by decide +kernel
theorem dX8_isTaken_152 : decode cX8_isTaken 152 = .ok (.iload 5, 2) := by decide +kernel
theorem dX8_isTaken_154 : decode cX8_isTaken 154 = .ok (.iaload, 1) := by decide +kernel
theorem dX8_isTaken_155 : decode cX8_isTaken 155 = .ok (.iload_n 2, 1) := by decide +kernel
theorem dX8_isTaken_156 : decode cX8_isTaken 156 = .ok (.if_icmp .ne 18, 3) := by decide +kernel
theorem dX8_isTaken_159 : decode cX8_isTaken 159 = .ok (.aload_n 0, 1) := by decide +kernel
theorem dX8_isTaken_160 : decode cX8_isTaken 160 = .ok (.getfield 16, 3) := by decide +kernel
theorem dX8_isTaken_163 : decode cX8_isTaken 163 = .ok (.iload 5, 2) := by decide +kernel
theorem dX8_isTaken_165 : decode cX8_isTaken 165 = .ok (.iaload, 1) := by decide +kernel
theorem dX8_isTaken_166 : decode cX8_isTaken 166 = .ok (.iload_n 3, 1) := by decide +kernel
theorem dX8_isTaken_167 : decode cX8_isTaken 167 = .ok (.if_icmp .ne 7, 3) := by decide +kernel
theorem dX8_isTaken_170 : decode cX8_isTaken 170 = .ok (.iconst 1, 1) := by decide +kernel
theorem dX8_isTaken_171 : decode cX8_isTaken 171 = .ok (.goto 4, 3) := by decide +kernel
theorem dX8_isTaken_174 : decode cX8_isTaken 174 = .ok (.iconst 0, 1) := by decide +kernel
theorem dX8_isTaken_175 : decode cX8_isTaken 175 = .ok (.ior, 1) := by decide +kernel
theorem dX8_isTaken_176 : decode cX8_isTaken 176 = .ok (.istore 4, 2) := by decide +kernel
theorem dX8_isTaken_178 : decode cX8_isTaken 178 = .ok (.iinc 5 1, 3) := by decide +kernel
theorem dX8_isTaken_181 : decode cX8_isTaken 181 = .ok (.goto (-71), 3) := by decide +kernel
theorem dX8_isTaken_184 : decode cX8_isTaken 184 = .ok (.iload 4, 2) := by decide +kernel
theorem dX8_isTaken_186 : decode cX8_isTaken 186 = .ok (.ireturn, 1) := by decide +kernel
theorem dX8_type_0 : decode cX8_type 0 = .ok (.iload_n 1, 1) := by decide +kernel
theorem dX8_type_1 : decode cX8_type 1 = .ok (.iconst 0, 1) := by decide +kernel
theorem dX8_type_2 : decode cX8_type 2 = .ok (.iconst 5, 1) := by decide +kernel
theorem dX8_type_3 : decode cX8_type 3 = .ok (.invokestatic 94, 3) := by decide +kernel
theorem dX8_type_6 : decode cX8_type 6 = .ok (.ifCond .eq 30, 3) := by decide +kernel
theorem dX8_type_9 : decode cX8_type 9 = .ok (.iload_n 1, 1) := by decide +kernel
theorem dX8_type_10 : decode cX8_type 10 = .ok (.iconst 5, 1) := by decide +kernel
theorem dX8_type_11 : decode cX8_type 11 = .ok (.if_icmp .eq 13, 3) := by decide +kernel
theorem dX8_type_14 : decode cX8_type 14 = .ok (.iload_n 3, 1) := by decide +kernel
theorem dX8_type_15 : decode cX8_type 15 = .ok (.iconst 0, 1) := by decide +kernel
theorem dX8_type_16 : decode cX8_type 16 = .ok (.bipush 25, 2) := by decide +kernel
theorem dX8_type_18 : decode cX8_type 18 = .ok (.invokestatic 94, 3) := by decide +kernel
theorem dX8_type_21 : decode cX8_type 21 = .ok (.ifCond .eq 15, 3) := by decide +kernel
theorem dX8_type_24 : decode cX8_type 24 = .ok (.iload_n 1, 1) := by decide +kernel
theorem dX8_type_25 : decode cX8_type 25 = .ok (.ifCond .eq 13, 3) := by decide +kernel
theorem dX8_type_28 : decode cX8_type 28 = .ok (.aload_n 0, 1) := by decide +kernel
theorem dX8_type_29 : decode cX8_type 29 = .ok (.iload_n 2, 1) := by decide +kernel
theorem dX8_type_30 : decode cX8_type 30 = .ok (.invokevirtual 98, 3) := by decide +kernel
theorem dX8_type_33 : decode cX8_type 33 = .ok (.ifCond .ne 5, 3) := by decide +kernel
theorem dX8_type_36 : decode cX8_type 36 = .ok (.iconst (-1), 1) := by decide +kernel
theorem dX8_type_37 : decode cX8_type 37 = .ok (.ireturn, 1) := by decide +kernel
theorem dX8_type_38 : decode cX8_type 38 = .ok (.aload_n 0, 1) := by decide +kernel
theorem dX8_type_39 : decode cX8_type 39 = .ok (.getfield 90, 3) := by decide +kernel
theorem dX8_type_42 : decode cX8_type 42 = .ok (.bipush 12, 2) := by decide +kernel
theorem dX8_type_44 : decode cX8_type 44 = .ok (.if_icmp .ne 6, 3) := by decide +kernel
theorem dX8_type_47 : decode cX8_type 47 = .ok (.bipush (-2), 2) := by decide +kernel
theorem dX8_type_49 : decode cX8_type 49 = .ok (.ireturn, 1) := by decide +kernel
theorem dX8_type_50 : decode cX8_type 50 = .ok (.aload_n 0, 1) := by decide +kernel
theorem dX8_type_51 : decode cX8_type 51 = .ok (.iload_n 1, 1) := by decide +kernel
theorem dX8_type_52 : decode cX8_type 52 = .ok (.iload_n 2, 1) := by decide +kernel
theorem dX8_type_53 : decode cX8_type 53 = .ok (.iload_n 3, 1) := by decide +kernel
theorem dX8_type_54 : decode cX8_type 54 = .ok (.invokevirtual 102, 3) := by decide +kernel
theorem dX8_type_57 : decode cX8_type 57 = .ok (.ifCond .eq 6, 3) := by decide +kernel
theorem dX8_type_60 : decode cX8_type 60 = .ok (.bipush (-4), 2) := by decide +kernel
theorem dX8_type_62 : decode cX8_type 62 = .ok (.ireturn, 1) := by decide +kernel
theorem dX8_type_63 : decode cX8_type 63 = .ok (.aload_n 0, 1) := by decide +kernel
theorem dX8_type_64 : decode cX8_type 64 = .ok (.getfield 90, 3) := by decide +kernel
theorem dX8_type_67 : decode cX8_type 67 = .ok (.istore 4, 2) := by decide +kernel
theorem dX8_type_69 : decode cX8_type 69 = .ok (.aload_n 0, 1) := by decide +kernel
theorem dX8_type_70 : decode cX8_type 70 = .ok (.getfield 7, 3) := by decide +kernel
theorem dX8_type_73 : decode cX8_type 73 = .ok (.iload 4, 2) := by decide +kernel
theorem dX8_type_75 : decode cX8_type 75 = .ok (.iload_n 1, 1) := by decide +kernel
theorem dX8_type_76 : decode cX8_type 76 = .ok (.iastore, 1) := by decide +kernel
theorem dX8_type_77 : decode cX8_type 77 = .ok (.aload_n 0, 1) := by decide +kernel
theorem dX8_type_78 : decode cX8_type 78 = .ok (.getfield 13, 3) := by decide +kernel
theorem dX8_type_81 : decode cX8_type 81 = .ok (.iload 4, 2) := by decide +kernel
theorem dX8_type_83 : decode cX8_type 83 = .ok (.iload_n 1, 1) := by decide +kernel
theorem dX8_type_84 : decode cX8_type 84 = .ok (.ifCond .ne 8, 3) := by decide +kernel
theorem dX8_type_87 : decode cX8_type 87 = .ok (.bipush (-3), 2) := by decide +kernel
theorem dX8_type_89 : decode cX8_type 89 = .ok (.goto 4, 3) := by decide +kernel
theorem dX8_type_92 : decode cX8_type 92 = .ok (.iload_n 2, 1) := by decide +kernel
theorem dX8_type_93 : decode cX8_type 93 = .ok (.iastore, 1) := by decide +kernel
theorem dX8_type_94 : decode cX8_type 94 = .ok (.aload_n 0, 1) := by decide +kernel
theorem dX8_type_95 : decode cX8_type 95 = .ok (.getfield 16, 3) := by decide +kernel
theorem dX8_type_98 : decode cX8_type 98 = .ok (.iload 4, 2) := by decide +kernel
theorem dX8_type_100 : decode cX8_type 100 = .ok (.iload_n 1, 1) := by decide +kernel
theorem dX8_type_101 : decode cX8_type 101 = .ok (.iconst 5, 1) := by decide +kernel
theorem dX8_type_102 : decode cX8_type 102 = .ok (.if_icmp .ne 8, 3) := by decide +kernel
theorem dX8_type_105 : decode cX8_type 105 = .ok (.bipush (-3), 2) := by decide +kernel
theorem dX8_type_107 : decode cX8_type 107 = .ok (.goto 4, 3) := by decide +kernel
theorem dX8_type_110 : decode cX8_type 110 = .ok (.iload_n 3, 1) := by decide +kernel
theorem dX8_type_111 : decode cX8_type 111 = .ok (.iastore, 1) := by decide +kernel
theorem dX8_type_112 : decode cX8_type 112 = .ok (.aload_n 0, 1) := by decide +kernel
theorem dX8_type_113 : decode cX8_type 113 = .ok (.getfield 19, 3) := by decide +kernel
theorem dX8_type_116 : decode cX8_type 116 = .ok (.iload 4, 2) := by decide +kernel
theorem dX8_type_118 : decode cX8_type 118 = .ok (.iconst 1, 1) := by decide +kernel
theorem dX8_type_119 : decode cX8_type 119 = .ok (.iastore, 1) := by decide +kernel
theorem dX8_type_120 : decode cX8_type 120 = .ok (.iconst 0, 1) := by decide +kernel
theorem dX8_type_121 : decode cX8_type 121 = .ok (.istore 5, 2) := by decide +kernel
theorem dX8_type_123 : decode cX8_type 123 = .ok (.iload 5, 2) := by decide +kernel
theorem dX8_type_125 : decode cX8_type 125 = .ok (.aload_n 0, 1) := by decide +kernel
theorem dX8_type_126 : decode cX8_type 126 = .ok (.getfield 90, 3) := by decide +kernel
theorem dX8_type_129 : decode cX8_type 129 = .ok (.if_icmp .ge 72, 3) := by decide +kernel
theorem dX8_type_132 : decode cX8_type 132 = .ok (.aload_n 0, 1) := by decide +kernel
theorem dX8_type_133 : decode cX8_type 133 = .ok (.getfield 19, 3) := by decide +kernel
theorem dX8_type_136 : decode cX8_type 136 = .ok (.iload 4, 2) := by decide +kernel
theorem dX8_type_138 : decode cX8_type 138 = .ok (.dup2, 1) := by decide +kernel
theorem dX8_type_139 : decode cX8_type 139 = .ok (.iaload, 1) := by decide +kernel
theorem dX8_type_140 : decode cX8_type 140 = .ok (.iload_n 1, 1) := by decide +kernel
theorem dX8_type_141 : decode cX8_type 141 = .ok (.invokestatic 105, 3) := by decide +kernel
theorem dX8_type_144 : decode cX8_type 144 = .ok (.ifCond .eq 48, 3) := by decide +kernel
theorem dX8_type_147 : decode cX8_type 147 = .ok (.aload_n 0, 1) := by decide +kernel
theorem dX8_type_148 : decode cX8_type 148 = .ok (.getfield 7, 3) := by decide +kernel
theorem dX8_type_151 : decode cX8_type 151 = .ok (.iload 5, 2) := by decide +kernel
theorem dX8_type_153 : decode cX8_type 153 = .ok (.iaload, 1) := by decide +kernel
theorem dX8_type_154 : decode cX8_type 154 = .ok (.invokestatic 105, 3) := by decide +kernel
theorem dX8_type_157 : decode cX8_type 157 = .ok (.ifCond .eq 35, 3) := by decide +kernel
theorem dX8_type_160 : decode cX8_type 160 = .ok (.aload_n 0, 1) := by decide +kernel
theorem dX8_type_161 : decode cX8_type 161 = .ok (.getfield 13, 3) := by decide +kernel
theorem dX8_type_164 : decode cX8_type 164 = .ok (.iload 5, 2) := by decide +kernel
theorem dX8_type_166 : decode cX8_type 166 = .ok (.iaload, 1) := by decide +kernel
theorem dX8_type_167 : decode cX8_type 167 = .ok (.iload_n 2, 1) := by decide +kernel
theorem dX8_type_168 : decode cX8_type 168 = .ok (.if_icmp .ne 24, 3) := by decide +kernel
theorem dX8_type_171 : decode cX8_type 171 = .ok (.aload_n 0, 1) := by decide +kernel
theorem dX8_type_172 : decode cX8_type 172 = .ok (.getfield 16, 3) := by decide +kernel
theorem dX8_type_175 : decode cX8_type 175 = .ok (.iload 5, 2) := by decide +kernel
theorem dX8_type_177 : decode cX8_type 177 = .ok (.iaload, 1) := by decide +kernel
theorem dX8_type_178 : decode cX8_type 178 = .ok (.aload_n 0, 1) := by decide +kernel
theorem dX8_type_179 : decode cX8_type 179 = .ok (.getfield 16, 3) := by decide +kernel
theorem dX8_type_182 : decode cX8_type 182 = .ok (.iload 4, 2) := by decide +kernel
theorem dX8_type_184 : decode cX8_type 184 = .ok (.iaload, 1) := by decide +kernel
theorem dX8_type_185 : decode cX8_type 185 = .ok (.if_icmp .ne 7, 3) := by decide +kernel
theorem dX8_type_188 : decode cX8_type 188 = .ok (.iconst 1, 1) := by decide +kernel
theorem dX8_type_189 : decode cX8_type 189 = .ok (.goto 4, 3) := by decide +kernel
theorem dX8_type_192 : decode cX8_type 192 = .ok (.iconst 0, 1) := by decide +kernel
theorem dX8_type_193 : decode cX8_type 193 = .ok (.iadd, 1) := by decide +kernel
theorem dX8_type_194 : decode cX8_type 194 = .ok (.iastore, 1) := by decide +kernel
theorem dX8_type_195 : decode cX8_type 195 = .ok (.iinc 5 1, 3) := by decide +kernel
theorem dX8_type_198 : decode cX8_type 198 = .ok (.goto (-75), 3) := by decide +kernel
theorem dX8_type_201 : decode cX8_type 201 = .ok (.aload_n 0, 1) := by decide +kernel
theorem dX8_type_202 : decode cX8_type 202 = .ok (.getfield 22, 3) := by decide +kernel
theorem dX8_type_205 : decode cX8_type 205 = .ok (.iload 4, 2) := by decide +kernel
theorem dX8_type_207 : decode cX8_type 207 = .ok (.iload_n 1, 1) := by decide +kernel
theorem dX8_type_208 : decode cX8_type 208 = .ok (.invokestatic 105, 3) := by decide +kernel
theorem dX8_type_211 : decode cX8_type 211 = .ok (.ifCond .eq 12, 3) := by decide +kernel
theorem dX8_type_214 : decode cX8_type 214 = .ok (.aload_n 0, 1) := by decide +kernel
theorem dX8_type_215 : decode cX8_type 215 = .ok (.getfield 45, 3) := by decide +kernel
theorem dX8_type_218 : decode cX8_type 218 = .ok (.iload_n 2, 1) := by decide +kernel
theorem dX8_type_219 : decode cX8_type 219 = .ok (.iaload, 1) := by decide +kernel
theorem dX8_type_220 : decode cX8_type 220 = .ok (.goto 4, 3) := by decide +kernel
theorem dX8_type_223 : decode cX8_type 223 = .ok (.iconst 0, 1) := by decide +kernel
theorem dX8_type_224 : decode cX8_type 224 = .ok (.iastore, 1) := by decide +kernel
theorem dX8_type_225 : decode cX8_type 225 = .ok (.aload_n 0, 1) := by decide +kernel
theorem dX8_type_226 : decode cX8_type 226 = .ok (.getfield 25, 3) := by decide +kernel
theorem dX8_type_229 : decode cX8_type 229 = .ok (.iload 4, 2) := by decide +kernel
theorem dX8_type_231 : decode cX8_type 231 = .ok (.bipush (-3), 2) := by decide +kernel
theorem dX8_type_233 : decode cX8_type 233 = .ok (.iastore, 1) := by decide +kernel
theorem dX8_type_234 : decode cX8_type 234 = .ok (.aload_n 0, 1) := by decide +kernel
theorem dX8_type_235 : decode cX8_type 235 = .ok (.dup, 1) := by decide +kernel
theorem dX8_type_236 : decode cX8_type 236 = .ok (.getfield 90, 3) := by decide +kernel
theorem dX8_type_239 : decode cX8_type 239 = .ok (.iconst 1, 1) := by decide +kernel
theorem dX8_type_240 : decode cX8_type 240 = .ok (.iadd, 1) := by decide +kernel
theorem dX8_type_241 : decode cX8_type 241 = .ok (.putfield 90, 3) := by decide +kernel
theorem dX8_type_244 : decode cX8_type 244 = .ok (.iload 4, 2) := by decide +kernel
theorem dX8_type_246 : decode cX8_type 246 = .ok (.ireturn, 1) := by decide +kernel
theorem dX8_fieldOf_0 : decode cX8_fieldOf 0 = .ok (.iconst 0, 1) := by decide +kernel
theorem dX8_fieldOf_1 : decode cX8_fieldOf 1 = .ok (.istore_n 3, 1) := by decide +kernel
theorem dX8_fieldOf_2 : decode cX8_fieldOf 2 = .ok (.iload_n 3, 1) := by decide +kernel
theorem dX8_fieldOf_3 : decode cX8_fieldOf 3 = .ok (.aload_n 0, 1) := by decide +kernel
theorem dX8_fieldOf_4 : decode cX8_fieldOf 4 = .ok (.getfield 28, 3) := by decide +kernel
theorem dX8_fieldOf_7 : decode cX8_fieldOf 7 = .ok (.iload_n 1, 1) := by decide +kernel
theorem dX8_fieldOf_8 : decode cX8_fieldOf 8 = .ok (.iaload, 1) := by decide +kernel
theorem dX8_fieldOf_9 : decode cX8_fieldOf 9 = .ok (.if_icmp .ge 25, 3) := by decide +kernel
theorem dX8_fieldOf_12 : decode cX8_fieldOf 12 = .ok (.aload_n 0, 1) := by decide +kernel
theorem dX8_fieldOf_13 : decode cX8_fieldOf 13 = .ok (.getfield 31, 3) := by decide +kernel
theorem dX8_fieldOf_16 : decode cX8_fieldOf 16 = .ok (.iconst 4, 1) := by decide +kernel
theorem dX8_fieldOf_17 : decode cX8_fieldOf 17 = .ok (.iload_n 1, 1) := by decide +kernel
theorem dX8_fieldOf_18 : decode cX8_fieldOf 18 = .ok (.imul, 1) := by decide +kernel
theorem dX8_fieldOf_19 : decode cX8_fieldOf 19 = .ok (.iload_n 3, 1) := by decide +kernel
theorem dX8_fieldOf_20 : decode cX8_fieldOf 20 = .ok (.iadd, 1) := by decide +kernel
theorem dX8_fieldOf_21 : decode cX8_fieldOf 21 = .ok (.iaload, 1) := by decide +kernel
theorem dX8_fieldOf_22 : decode cX8_fieldOf 22 = .ok (.iload_n 2, 1) := by decide +kernel
theorem dX8_fieldOf_23 : decode cX8_fieldOf 23 = .ok (.if_icmp .ne 5, 3) := by decide +kernel
theorem dX8_fieldOf_26 : decode cX8_fieldOf 26 = .ok (.iload_n 3, 1) := by decide +kernel
theorem dX8_fieldOf_27 : decode cX8_fieldOf 27 = .ok (.ireturn, 1) := by decide +kernel
theorem dX8_fieldOf_28 : decode cX8_fieldOf 28 = .ok (.iinc 3 1, 3) := by decide +kernel
theorem dX8_fieldOf_31 : decode cX8_fieldOf 31 = .ok (.goto (-29), 3) := by decide +kernel
theorem dX8_fieldOf_34 : decode cX8_fieldOf 34 = .ok (.bipush (-3), 2) := by decide +kernel
theorem dX8_fieldOf_36 : decode cX8_fieldOf 36 = .ok (.ireturn, 1) := by decide +kernel
theorem dX8_field_0 : decode cX8_field 0 = .ok (.aload_n 0, 1) := by decide +kernel
theorem dX8_field_1 : decode cX8_field 1 = .ok (.iload_n 1, 1) := by decide +kernel
theorem dX8_field_2 : decode cX8_field 2 = .ok (.invokevirtual 98, 3) := by decide +kernel
theorem dX8_field_5 : decode cX8_field 5 = .ok (.ifCond .eq 10, 3) := by decide +kernel
theorem dX8_field_8 : decode cX8_field 8 = .ok (.iload_n 2, 1) := by decide +kernel
theorem dX8_field_9 : decode cX8_field 9 = .ok (.invokestatic 108, 3) := by decide +kernel
theorem dX8_field_12 : decode cX8_field 12 = .ok (.ifCond .ne 5, 3) := by decide +kernel
theorem dX8_field_15 : decode cX8_field 15 = .ok (.iconst (-1), 1) := by decide +kernel
theorem dX8_field_16 : decode cX8_field 16 = .ok (.ireturn, 1) := by decide +kernel
theorem dX8_field_17 : decode cX8_field 17 = .ok (.aload_n 0, 1) := by decide +kernel
theorem dX8_field_18 : decode cX8_field 18 = .ok (.getfield 28, 3) := by decide +kernel
theorem dX8_field_21 : decode cX8_field 21 = .ok (.iload_n 1, 1) := by decide +kernel
theorem dX8_field_22 : decode cX8_field 22 = .ok (.iaload, 1) := by decide +kernel
theorem dX8_field_23 : decode cX8_field 23 = .ok (.iconst 4, 1) := by decide +kernel
theorem dX8_field_24 : decode cX8_field 24 = .ok (.if_icmp .ne 6, 3) := by decide +kernel
theorem dX8_field_27 : decode cX8_field 27 = .ok (.bipush (-2), 2) := by decide +kernel
theorem dX8_field_29 : decode cX8_field 29 = .ok (.ireturn, 1) := by decide +kernel
theorem dX8_field_30 : decode cX8_field 30 = .ok (.aload_n 0, 1) := by decide +kernel
theorem dX8_field_31 : decode cX8_field 31 = .ok (.iload_n 1, 1) := by decide +kernel
theorem dX8_field_32 : decode cX8_field 32 = .ok (.iload_n 2, 1) := by decide +kernel
theorem dX8_field_33 : decode cX8_field 33 = .ok (.invokevirtual 111, 3) := by decide +kernel
theorem dX8_field_36 : decode cX8_field 36 = .ok (.ifCond .lt 6, 3) := by decide +kernel
theorem dX8_field_39 : decode cX8_field 39 = .ok (.bipush (-4), 2) := by decide +kernel
theorem dX8_field_41 : decode cX8_field 41 = .ok (.ireturn, 1) := by decide +kernel
theorem dX8_field_42 : decode cX8_field 42 = .ok (.iconst 4, 1) := by decide +kernel
theorem dX8_field_43 : decode cX8_field 43 = .ok (.iload_n 1, 1) := by decide +kernel
theorem dX8_field_44 : decode cX8_field 44 = .ok (.imul, 1) := by decide +kernel
theorem dX8_field_45 : decode cX8_field 45 = .ok (.aload_n 0, 1) := by decide +kernel
theorem dX8_field_46 : decode cX8_field 46 = .ok (.getfield 28, 3) := by decide +kernel
theorem dX8_field_49 : decode cX8_field 49 = .ok (.iload_n 1, 1) := by decide +kernel
theorem dX8_field_50 : decode cX8_field 50 = .ok (.iaload, 1) := by decide +kernel
theorem dX8_field_51 : decode cX8_field 51 = .ok (.iadd, 1) := by decide +kernel
theorem dX8_field_52 : decode cX8_field 52 = .ok (.istore 6, 2) := by decide +kernel
theorem dX8_field_54 : decode cX8_field 54 = .ok (.aload_n 0, 1) := by decide +kernel
theorem dX8_field_55 : decode cX8_field 55 = .ok (.getfield 31, 3) := by decide +kernel
theorem dX8_field_58 : decode cX8_field 58 = .ok (.iload 6, 2) := by decide +kernel
theorem dX8_field_60 : decode cX8_field 60 = .ok (.iload_n 2, 1) := by decide +kernel
theorem dX8_field_61 : decode cX8_field 61 = .ok (.iastore, 1) := by decide +kernel
theorem dX8_field_62 : decode cX8_field 62 = .ok (.aload_n 0, 1) := by decide +kernel
theorem dX8_field_63 : decode cX8_field 63 = .ok (.getfield 34, 3) := by decide +kernel
theorem dX8_field_66 : decode cX8_field 66 = .ok (.iload 6, 2) := by decide +kernel
theorem dX8_field_68 : decode cX8_field 68 = .ok (.lload_n 3, 1) := by decide +kernel
theorem dX8_field_69 : decode cX8_field 69 = .ok (.lastore, 1) := by decide +kernel
theorem dX8_field_70 : decode cX8_field 70 = .ok (.aload_n 0, 1) := by decide +kernel
theorem dX8_field_71 : decode cX8_field 71 = .ok (.getfield 38, 3) := by decide +kernel
theorem dX8_field_74 : decode cX8_field 74 = .ok (.iload 6, 2) := by decide +kernel
theorem dX8_field_76 : decode cX8_field 76 = .ok (.iload 5, 2) := by decide +kernel
theorem dX8_field_78 : decode cX8_field 78 = .ok (.bastore, 1) := by decide +kernel
theorem dX8_field_79 : decode cX8_field 79 = .ok (.aload_n 0, 1) := by decide +kernel
theorem dX8_field_80 : decode cX8_field 80 = .ok (.getfield 28, 3) := by decide +kernel
theorem dX8_field_83 : decode cX8_field 83 = .ok (.iload_n 1, 1) := by decide +kernel
theorem dX8_field_84 : decode cX8_field 84 = .ok (.dup2, 1) := by decide +kernel
theorem dX8_field_85 : decode cX8_field 85 = .ok (.iaload, 1) := by decide +kernel
theorem dX8_field_86 : decode cX8_field 86 = .ok (.iconst 1, 1) := by decide +kernel
theorem dX8_field_87 : decode cX8_field 87 = .ok (.iadd, 1) := by decide +kernel
theorem dX8_field_88 : decode cX8_field 88 = .ok (.iastore, 1) := by decide +kernel
theorem dX8_field_89 : decode cX8_field 89 = .ok (.aload_n 0, 1) := by decide +kernel
theorem dX8_field_90 : decode cX8_field 90 = .ok (.getfield 28, 3) := by decide +kernel
theorem dX8_field_93 : decode cX8_field 93 = .ok (.iload_n 1, 1) := by decide +kernel
theorem dX8_field_94 : decode cX8_field 94 = .ok (.iaload, 1) := by decide +kernel
theorem dX8_field_95 : decode cX8_field 95 = .ok (.ireturn, 1) := by decide +kernel
theorem dX8_local_0 : decode cX8_local 0 = .ok (.aload_n 0, 1) := by decide +kernel
theorem dX8_local_1 : decode cX8_local 1 = .ok (.iload_n 1, 1) := by decide +kernel
theorem dX8_local_2 : decode cX8_local 2 = .ok (.invokevirtual 98, 3) := by decide +kernel
theorem dX8_local_5 : decode cX8_local 5 = .ok (.ifCond .eq 10, 3) := by decide +kernel
theorem dX8_local_8 : decode cX8_local 8 = .ok (.iload_n 2, 1) := by decide +kernel
theorem dX8_local_9 : decode cX8_local 9 = .ok (.invokestatic 108, 3) := by decide +kernel
theorem dX8_local_12 : decode cX8_local 12 = .ok (.ifCond .ne 5, 3) := by decide +kernel
theorem dX8_local_15 : decode cX8_local 15 = .ok (.iconst (-1), 1) := by decide +kernel
theorem dX8_local_16 : decode cX8_local 16 = .ok (.ireturn, 1) := by decide +kernel
theorem dX8_local_17 : decode cX8_local 17 = .ok (.aload_n 0, 1) := by decide +kernel
theorem dX8_local_18 : decode cX8_local 18 = .ok (.getfield 45, 3) := by decide +kernel
theorem dX8_local_21 : decode cX8_local 21 = .ok (.iload_n 1, 1) := by decide +kernel
theorem dX8_local_22 : decode cX8_local 22 = .ok (.iaload, 1) := by decide +kernel
theorem dX8_local_23 : decode cX8_local 23 = .ok (.iconst 4, 1) := by decide +kernel
theorem dX8_local_24 : decode cX8_local 24 = .ok (.if_icmp .ne 6, 3) := by decide +kernel
theorem dX8_local_27 : decode cX8_local 27 = .ok (.bipush (-2), 2) := by decide +kernel
theorem dX8_local_29 : decode cX8_local 29 = .ok (.ireturn, 1) := by decide +kernel
theorem dX8_local_30 : decode cX8_local 30 = .ok (.iconst 4, 1) := by decide +kernel
theorem dX8_local_31 : decode cX8_local 31 = .ok (.iload_n 1, 1) := by decide +kernel
theorem dX8_local_32 : decode cX8_local 32 = .ok (.imul, 1) := by decide +kernel
theorem dX8_local_33 : decode cX8_local 33 = .ok (.aload_n 0, 1) := by decide +kernel
theorem dX8_local_34 : decode cX8_local 34 = .ok (.getfield 45, 3) := by decide +kernel
theorem dX8_local_37 : decode cX8_local 37 = .ok (.iload_n 1, 1) := by decide +kernel
theorem dX8_local_38 : decode cX8_local 38 = .ok (.iaload, 1) := by decide +kernel
theorem dX8_local_39 : decode cX8_local 39 = .ok (.iadd, 1) := by decide +kernel
theorem dX8_local_40 : decode cX8_local 40 = .ok (.istore 5, 2) := by decide +kernel
theorem dX8_local_42 : decode cX8_local 42 = .ok (.aload_n 0, 1) := by decide +kernel
theorem dX8_local_43 : decode cX8_local 43 = .ok (.getfield 48, 3) := by decide +kernel
theorem dX8_local_46 : decode cX8_local 46 = .ok (.iload 5, 2) := by decide +kernel
theorem dX8_local_48 : decode cX8_local 48 = .ok (.iload_n 2, 1) := by decide +kernel
theorem dX8_local_49 : decode cX8_local 49 = .ok (.iastore, 1) := by decide +kernel
theorem dX8_local_50 : decode cX8_local 50 = .ok (.aload_n 0, 1) := by decide +kernel
theorem dX8_local_51 : decode cX8_local 51 = .ok (.getfield 51, 3) := by decide +kernel
theorem dX8_local_54 : decode cX8_local 54 = .ok (.iload 5, 2) := by decide +kernel
theorem dX8_local_56 : decode cX8_local 56 = .ok (.lload_n 3, 1) := by decide +kernel
theorem dX8_local_57 : decode cX8_local 57 = .ok (.lastore, 1) := by decide +kernel
theorem dX8_local_58 : decode cX8_local 58 = .ok (.aload_n 0, 1) := by decide +kernel
theorem dX8_local_59 : decode cX8_local 59 = .ok (.getfield 45, 3) := by decide +kernel
theorem dX8_local_62 : decode cX8_local 62 = .ok (.iload_n 1, 1) := by decide +kernel
theorem dX8_local_63 : decode cX8_local 63 = .ok (.dup2, 1) := by decide +kernel
theorem dX8_local_64 : decode cX8_local 64 = .ok (.iaload, 1) := by decide +kernel
theorem dX8_local_65 : decode cX8_local 65 = .ok (.iconst 1, 1) := by decide +kernel
theorem dX8_local_66 : decode cX8_local 66 = .ok (.iadd, 1) := by decide +kernel
theorem dX8_local_67 : decode cX8_local 67 = .ok (.iastore, 1) := by decide +kernel
theorem dX8_local_68 : decode cX8_local 68 = .ok (.aload_n 0, 1) := by decide +kernel
theorem dX8_local_69 : decode cX8_local 69 = .ok (.getfield 45, 3) := by decide +kernel
theorem dX8_local_72 : decode cX8_local 72 = .ok (.iload_n 1, 1) := by decide +kernel
theorem dX8_local_73 : decode cX8_local 73 = .ok (.iaload, 1) := by decide +kernel
theorem dX8_local_74 : decode cX8_local 74 = .ok (.ireturn, 1) := by decide +kernel
theorem dX8_assign_0 : decode cX8_assign 0 = .ok (.aload_n 0, 1) := by decide +kernel
theorem dX8_assign_1 : decode cX8_assign 1 = .ok (.iload_n 1, 1) := by decide +kernel
theorem dX8_assign_2 : decode cX8_assign 2 = .ok (.invokevirtual 98, 3) := by decide +kernel
theorem dX8_assign_5 : decode cX8_assign 5 = .ok (.ifCond .eq 19, 3) := by decide +kernel
theorem dX8_assign_8 : decode cX8_assign 8 = .ok (.iload_n 2, 1) := by decide +kernel
theorem dX8_assign_9 : decode cX8_assign 9 = .ok (.iconst 0, 1) := by decide +kernel
theorem dX8_assign_10 : decode cX8_assign 10 = .ok (.aload_n 0, 1) := by decide +kernel
theorem dX8_assign_11 : decode cX8_assign 11 = .ok (.getfield 45, 3) := by decide +kernel
theorem dX8_assign_14 : decode cX8_assign 14 = .ok (.iload_n 1, 1) := by decide +kernel
theorem dX8_assign_15 : decode cX8_assign 15 = .ok (.iaload, 1) := by decide +kernel
theorem dX8_assign_16 : decode cX8_assign 16 = .ok (.iconst 1, 1) := by decide +kernel
theorem dX8_assign_17 : decode cX8_assign 17 = .ok (.isub, 1) := by decide +kernel
theorem dX8_assign_18 : decode cX8_assign 18 = .ok (.invokestatic 94, 3) := by decide +kernel
theorem dX8_assign_21 : decode cX8_assign 21 = .ok (.ifCond .ne 5, 3) := by decide +kernel
theorem dX8_assign_24 : decode cX8_assign 24 = .ok (.iconst (-1), 1) := by decide +kernel
theorem dX8_assign_25 : decode cX8_assign 25 = .ok (.ireturn, 1) := by decide +kernel
theorem dX8_assign_26 : decode cX8_assign 26 = .ok (.iconst 4, 1) := by decide +kernel
theorem dX8_assign_27 : decode cX8_assign 27 = .ok (.iload_n 1, 1) := by decide +kernel
theorem dX8_assign_28 : decode cX8_assign 28 = .ok (.imul, 1) := by decide +kernel
theorem dX8_assign_29 : decode cX8_assign 29 = .ok (.iload_n 2, 1) := by decide +kernel
theorem dX8_assign_30 : decode cX8_assign 30 = .ok (.iadd, 1) := by decide +kernel
theorem dX8_assign_31 : decode cX8_assign 31 = .ok (.istore 5, 2) := by decide +kernel
theorem dX8_assign_33 : decode cX8_assign 33 = .ok (.aload_n 0, 1) := by decide +kernel
theorem dX8_assign_34 : decode cX8_assign 34 = .ok (.getfield 54, 3) := by decide +kernel
theorem dX8_assign_37 : decode cX8_assign 37 = .ok (.iload 5, 2) := by decide +kernel
theorem dX8_assign_39 : decode cX8_assign 39 = .ok (.baload, 1) := by decide +kernel
theorem dX8_assign_40 : decode cX8_assign 40 = .ok (.ifCond .eq 7, 3) := by decide +kernel
theorem dX8_assign_43 : decode cX8_assign 43 = .ok (.iconst 1, 1) := by decide +kernel
theorem dX8_assign_44 : decode cX8_assign 44 = .ok (.goto 4, 3) := by decide +kernel
theorem dX8_assign_47 : decode cX8_assign 47 = .ok (.iconst 0, 1) := by decide +kernel
theorem dX8_assign_48 : decode cX8_assign 48 = .ok (.istore 6, 2) := by decide +kernel
theorem dX8_assign_50 : decode cX8_assign 50 = .ok (.aload_n 0, 1) := by decide +kernel
theorem dX8_assign_51 : decode cX8_assign 51 = .ok (.getfield 54, 3) := by decide +kernel
theorem dX8_assign_54 : decode cX8_assign 54 = .ok (.iload 5, 2) := by decide +kernel
theorem dX8_assign_56 : decode cX8_assign 56 = .ok (.iconst 1, 1) := by decide +kernel
theorem dX8_assign_57 : decode cX8_assign 57 = .ok (.bastore, 1) := by decide +kernel
theorem dX8_assign_58 : decode cX8_assign 58 = .ok (.aload_n 0, 1) := by decide +kernel
theorem dX8_assign_59 : decode cX8_assign 59 = .ok (.getfield 51, 3) := by decide +kernel
theorem dX8_assign_62 : decode cX8_assign 62 = .ok (.iload 5, 2) := by decide +kernel
theorem dX8_assign_64 : decode cX8_assign 64 = .ok (.lload_n 3, 1) := by decide +kernel
theorem dX8_assign_65 : decode cX8_assign 65 = .ok (.lastore, 1) := by decide +kernel
theorem dX8_assign_66 : decode cX8_assign 66 = .ok (.iload 6, 2) := by decide +kernel
theorem dX8_assign_68 : decode cX8_assign 68 = .ok (.ireturn, 1) := by decide +kernel
theorem dX8_method_0 : decode cX8_method 0 = .ok (.aload_n 0, 1) := by decide +kernel
theorem dX8_method_1 : decode cX8_method 1 = .ok (.iload_n 1, 1) := by decide +kernel
theorem dX8_method_2 : decode cX8_method 2 = .ok (.invokevirtual 98, 3) := by decide +kernel
theorem dX8_method_5 : decode cX8_method 5 = .ok (.ifCond .ne 5, 3) := by decide +kernel
theorem dX8_method_8 : decode cX8_method 8 = .ok (.iconst (-1), 1) := by decide +kernel
theorem dX8_method_9 : decode cX8_method 9 = .ok (.ireturn, 1) := by decide +kernel
theorem dX8_method_10 : decode cX8_method 10 = .ok (.iconst 0, 1) := by decide +kernel
theorem dX8_method_11 : decode cX8_method 11 = .ok (.istore_n 3, 1) := by decide +kernel
theorem dX8_method_12 : decode cX8_method 12 = .ok (.iload_n 3, 1) := by decide +kernel
theorem dX8_method_13 : decode cX8_method 13 = .ok (.aload_n 0, 1) := by decide +kernel
theorem dX8_method_14 : decode cX8_method 14 = .ok (.getfield 90, 3) := by decide +kernel
theorem dX8_method_17 : decode cX8_method 17 = .ok (.if_icmp .ge 34, 3) := by decide +kernel
theorem dX8_method_20 : decode cX8_method 20 = .ok (.aload_n 0, 1) := by decide +kernel
theorem dX8_method_21 : decode cX8_method 21 = .ok (.getfield 7, 3) := by decide +kernel
theorem dX8_method_24 : decode cX8_method 24 = .ok (.iload_n 3, 1) := by decide +kernel
theorem dX8_method_25 : decode cX8_method 25 = .ok (.iaload, 1) := by decide +kernel
theorem dX8_method_26 : decode cX8_method 26 = .ok (.invokestatic 105, 3) := by decide +kernel
theorem dX8_method_29 : decode cX8_method 29 = .ok (.ifCond .eq 16, 3) := by decide +kernel
theorem dX8_method_32 : decode cX8_method 32 = .ok (.aload_n 0, 1) := by decide +kernel
theorem dX8_method_33 : decode cX8_method 33 = .ok (.getfield 13, 3) := by decide +kernel
theorem dX8_method_36 : decode cX8_method 36 = .ok (.iload_n 3, 1) := by decide +kernel
theorem dX8_method_37 : decode cX8_method 37 = .ok (.iaload, 1) := by decide +kernel
theorem dX8_method_38 : decode cX8_method 38 = .ok (.iload_n 1, 1) := by decide +kernel
theorem dX8_method_39 : decode cX8_method 39 = .ok (.if_icmp .ne 6, 3) := by decide +kernel
theorem dX8_method_42 : decode cX8_method 42 = .ok (.bipush (-4), 2) := by decide +kernel
theorem dX8_method_44 : decode cX8_method 44 = .ok (.ireturn, 1) := by decide +kernel
theorem dX8_method_45 : decode cX8_method 45 = .ok (.iinc 3 1, 3) := by decide +kernel
theorem dX8_method_48 : decode cX8_method 48 = .ok (.goto (-36), 3) := by decide +kernel
theorem dX8_method_51 : decode cX8_method 51 = .ok (.aload_n 0, 1) := by decide +kernel
theorem dX8_method_52 : decode cX8_method 52 = .ok (.getfield 42, 3) := by decide +kernel
theorem dX8_method_55 : decode cX8_method 55 = .ok (.iload_n 1, 1) := by decide +kernel
theorem dX8_method_56 : decode cX8_method 56 = .ok (.baload, 1) := by decide +kernel
theorem dX8_method_57 : decode cX8_method 57 = .ok (.ifCond .eq 7, 3) := by decide +kernel
theorem dX8_method_60 : decode cX8_method 60 = .ok (.iconst 1, 1) := by decide +kernel
theorem dX8_method_61 : decode cX8_method 61 = .ok (.goto 4, 3) := by decide +kernel
theorem dX8_method_64 : decode cX8_method 64 = .ok (.iconst 0, 1) := by decide +kernel
theorem dX8_method_65 : decode cX8_method 65 = .ok (.istore_n 3, 1) := by decide +kernel
theorem dX8_method_66 : decode cX8_method 66 = .ok (.aload_n 0, 1) := by decide +kernel
theorem dX8_method_67 : decode cX8_method 67 = .ok (.getfield 42, 3) := by decide +kernel
theorem dX8_method_70 : decode cX8_method 70 = .ok (.iload_n 1, 1) := by decide +kernel
theorem dX8_method_71 : decode cX8_method 71 = .ok (.iload_n 2, 1) := by decide +kernel
theorem dX8_method_72 : decode cX8_method 72 = .ok (.bastore, 1) := by decide +kernel
theorem dX8_method_73 : decode cX8_method 73 = .ok (.iload_n 3, 1) := by decide +kernel
theorem dX8_method_74 : decode cX8_method 74 = .ok (.ireturn, 1) := by decide +kernel
theorem dX8_parent_0 : decode cX8_parent 0 = .ok (.aload_n 0, 1) := by decide +kernel
theorem dX8_parent_1 : decode cX8_parent 1 = .ok (.iload_n 1, 1) := by decide +kernel
theorem dX8_parent_2 : decode cX8_parent 2 = .ok (.invokevirtual 98, 3) := by decide +kernel
theorem dX8_parent_5 : decode cX8_parent 5 = .ok (.ifCond .eq 31, 3) := by decide +kernel
theorem dX8_parent_8 : decode cX8_parent 8 = .ok (.aload_n 0, 1) := by decide +kernel
theorem dX8_parent_9 : decode cX8_parent 9 = .ok (.iload_n 2, 1) := by decide +kernel
theorem dX8_parent_10 : decode cX8_parent 10 = .ok (.invokevirtual 98, 3) := by decide +kernel
theorem dX8_parent_13 : decode cX8_parent 13 = .ok (.ifCond .eq 23, 3) := by decide +kernel
theorem dX8_parent_16 : decode cX8_parent 16 = .ok (.aload_n 0, 1) := by decide +kernel
theorem dX8_parent_17 : decode cX8_parent 17 = .ok (.getfield 7, 3) := by decide +kernel
theorem dX8_parent_20 : decode cX8_parent 20 = .ok (.iload_n 1, 1) := by decide +kernel
theorem dX8_parent_21 : decode cX8_parent 21 = .ok (.iaload, 1) := by decide +kernel
theorem dX8_parent_22 : decode cX8_parent 22 = .ok (.iconst 4, 1) := by decide +kernel
theorem dX8_parent_23 : decode cX8_parent 23 = .ok (.if_icmp .eq 13, 3) := by decide +kernel
theorem dX8_parent_26 : decode cX8_parent 26 = .ok (.aload_n 0, 1) := by decide +kernel
theorem dX8_parent_27 : decode cX8_parent 27 = .ok (.getfield 7, 3) := by decide +kernel
theorem dX8_parent_30 : decode cX8_parent 30 = .ok (.iload_n 2, 1) := by decide +kernel
theorem dX8_parent_31 : decode cX8_parent 31 = .ok (.iaload, 1) := by decide +kernel
theorem dX8_parent_32 : decode cX8_parent 32 = .ok (.iconst 4, 1) := by decide +kernel
theorem dX8_parent_33 : decode cX8_parent 33 = .ok (.if_icmp .ne 5, 3) := by decide +kernel
theorem dX8_parent_36 : decode cX8_parent 36 = .ok (.iconst (-1), 1) := by decide +kernel
theorem dX8_parent_37 : decode cX8_parent 37 = .ok (.ireturn, 1) := by decide +kernel
theorem dX8_parent_38 : decode cX8_parent 38 = .ok (.aload_n 0, 1) := by decide +kernel
theorem dX8_parent_39 : decode cX8_parent 39 = .ok (.getfield 25, 3) := by decide +kernel
theorem dX8_parent_42 : decode cX8_parent 42 = .ok (.iload_n 1, 1) := by decide +kernel
theorem dX8_parent_43 : decode cX8_parent 43 = .ok (.iaload, 1) := by decide +kernel
theorem dX8_parent_44 : decode cX8_parent 44 = .ok (.bipush (-3), 2) := by decide +kernel
theorem dX8_parent_46 : decode cX8_parent 46 = .ok (.if_icmp .eq 7, 3) := by decide +kernel
theorem dX8_parent_49 : decode cX8_parent 49 = .ok (.iconst 1, 1) := by decide +kernel
theorem dX8_parent_50 : decode cX8_parent 50 = .ok (.goto 4, 3) := by decide +kernel
theorem dX8_parent_53 : decode cX8_parent 53 = .ok (.iconst 0, 1) := by decide +kernel
theorem dX8_parent_54 : decode cX8_parent 54 = .ok (.istore_n 3, 1) := by decide +kernel
theorem dX8_parent_55 : decode cX8_parent 55 = .ok (.iload_n 2, 1) := by decide +kernel
theorem dX8_parent_56 : decode cX8_parent 56 = .ok (.istore 4, 2) := by decide +kernel
theorem dX8_parent_58 : decode cX8_parent 58 = .ok (.iload 4, 2) := by decide +kernel
theorem dX8_parent_60 : decode cX8_parent 60 = .ok (.bipush (-3), 2) := by decide +kernel
theorem dX8_parent_62 : decode cX8_parent 62 = .ok (.if_icmp .eq 29, 3) := by decide +kernel
theorem dX8_parent_65 : decode cX8_parent 65 = .ok (.iload_n 3, 1) := by decide +kernel
theorem dX8_parent_66 : decode cX8_parent 66 = .ok (.iload 4, 2) := by decide +kernel
theorem dX8_parent_68 : decode cX8_parent 68 = .ok (.iload_n 1, 1) := by decide +kernel
theorem dX8_parent_69 : decode cX8_parent 69 = .ok (.if_icmp .ne 7, 3) := by decide +kernel
theorem dX8_parent_72 : decode cX8_parent 72 = .ok (.iconst 1, 1) := by decide +kernel
theorem dX8_parent_73 : decode cX8_parent 73 = .ok (.goto 4, 3) := by decide +kernel
theorem dX8_parent_76 : decode cX8_parent 76 = .ok (.iconst 0, 1) := by decide +kernel
theorem dX8_parent_77 : decode cX8_parent 77 = .ok (.ior, 1) := by decide +kernel
theorem dX8_parent_78 : decode cX8_parent 78 = .ok (.istore_n 3, 1) := by decide +kernel
theorem dX8_parent_79 : decode cX8_parent 79 = .ok (.aload_n 0, 1) := by decide +kernel
theorem dX8_parent_80 : decode cX8_parent 80 = .ok (.getfield 25, 3) := by decide +kernel
theorem dX8_parent_83 : decode cX8_parent 83 = .ok (.iload 4, 2) := by decide +kernel
theorem dX8_parent_85 : decode cX8_parent 85 = .ok (.iaload, 1) := by decide +kernel
theorem dX8_parent_86 : decode cX8_parent 86 = .ok (.istore 4, 2) := by decide +kernel
theorem dX8_parent_88 : decode cX8_parent 88 = .ok (.goto (-30), 3) := by decide +kernel
theorem dX8_parent_91 : decode cX8_parent 91 = .ok (.iload_n 3, 1) := by decide +kernel
theorem dX8_parent_92 : decode cX8_parent 92 = .ok (.ifCond .eq 6, 3) := by decide +kernel
theorem dX8_parent_95 : decode cX8_parent 95 = .ok (.bipush (-4), 2) := by decide +kernel
theorem dX8_parent_97 : decode cX8_parent 97 = .ok (.ireturn, 1) := by decide +kernel
theorem dX8_parent_98 : decode cX8_parent 98 = .ok (.aload_n 0, 1) := by decide +kernel
theorem dX8_parent_99 : decode cX8_parent 99 = .ok (.getfield 25, 3) := by decide +kernel
theorem dX8_parent_102 : decode cX8_parent 102 = .ok (.iload_n 1, 1) := by decide +kernel
theorem dX8_parent_103 : decode cX8_parent 103 = .ok (.iload_n 2, 1) := by decide +kernel
theorem dX8_parent_104 : decode cX8_parent 104 = .ok (.iastore, 1) := by decide +kernel
theorem dX8_parent_105 : decode cX8_parent 105 = .ok (.iconst 1, 1) := by decide +kernel
theorem dX8_parent_106 : decode cX8_parent 106 = .ok (.ireturn, 1) := by decide +kernel
theorem dX8_put_0 : decode cX8_put 0 = .ok (.aload_n 0, 1) := by decide +kernel
theorem dX8_put_1 : decode cX8_put 1 = .ok (.getfield 87, 3) := by decide +kernel
theorem dX8_put_4 : decode cX8_put 4 = .ok (.aload_n 0, 1) := by decide +kernel
theorem dX8_put_5 : decode cX8_put 5 = .ok (.getfield 115, 3) := by decide +kernel
theorem dX8_put_8 : decode cX8_put 8 = .ok (.iload_n 1, 1) := by decide +kernel
theorem dX8_put_9 : decode cX8_put 9 = .ok (.iastore, 1) := by decide +kernel
theorem dX8_put_10 : decode cX8_put 10 = .ok (.aload_n 0, 1) := by decide +kernel
theorem dX8_put_11 : decode cX8_put 11 = .ok (.dup, 1) := by decide +kernel
theorem dX8_put_12 : decode cX8_put 12 = .ok (.getfield 115, 3) := by decide +kernel
theorem dX8_put_15 : decode cX8_put 15 = .ok (.iconst 1, 1) := by decide +kernel
theorem dX8_put_16 : decode cX8_put 16 = .ok (.iadd, 1) := by decide +kernel
theorem dX8_put_17 : decode cX8_put 17 = .ok (.putfield 115, 3) := by decide +kernel
theorem dX8_put_20 : decode cX8_put 20 = .ok (.return_, 1) := by decide +kernel
theorem dX8_name_0 : decode cX8_name 0 = .ok (.aload_n 0, 1) := by decide +kernel
theorem dX8_name_1 : decode cX8_name 1 = .ok (.iload_n 1, 1) := by decide +kernel
theorem dX8_name_2 : decode cX8_name 2 = .ok (.invokevirtual 98, 3) := by decide +kernel
theorem dX8_name_5 : decode cX8_name 5 = .ok (.ifCond .ne 5, 3) := by decide +kernel
theorem dX8_name_8 : decode cX8_name 8 = .ok (.iconst (-1), 1) := by decide +kernel
theorem dX8_name_9 : decode cX8_name 9 = .ok (.ireturn, 1) := by decide +kernel
theorem dX8_name_10 : decode cX8_name 10 = .ok (.aload_n 0, 1) := by decide +kernel
theorem dX8_name_11 : decode cX8_name 11 = .ok (.iconst 0, 1) := by decide +kernel
theorem dX8_name_12 : decode cX8_name 12 = .ok (.putfield 115, 3) := by decide +kernel
theorem dX8_name_15 : decode cX8_name 15 = .ok (.iload_n 1, 1) := by decide +kernel
theorem dX8_name_16 : decode cX8_name 16 = .ok (.istore_n 3, 1) := by decide +kernel
theorem dX8_name_17 : decode cX8_name 17 = .ok (.iload_n 3, 1) := by decide +kernel
theorem dX8_name_18 : decode cX8_name 18 = .ok (.bipush (-3), 2) := by decide +kernel
theorem dX8_name_20 : decode cX8_name 20 = .ok (.if_icmp .eq 98, 3) := by decide +kernel
theorem dX8_name_23 : decode cX8_name 23 = .ok (.aload_n 0, 1) := by decide +kernel
theorem dX8_name_24 : decode cX8_name 24 = .ok (.getfield 7, 3) := by decide +kernel
theorem dX8_name_27 : decode cX8_name 27 = .ok (.iload_n 3, 1) := by decide +kernel
theorem dX8_name_28 : decode cX8_name 28 = .ok (.iaload, 1) := by decide +kernel
theorem dX8_name_29 : decode cX8_name 29 = .ok (.iconst 5, 1) := by decide +kernel
theorem dX8_name_30 : decode cX8_name 30 = .ok (.if_icmp .eq 16, 3) := by decide +kernel
theorem dX8_name_33 : decode cX8_name 33 = .ok (.aload_n 0, 1) := by decide +kernel
theorem dX8_name_34 : decode cX8_name 34 = .ok (.bipush 65, 2) := by decide +kernel
theorem dX8_name_36 : decode cX8_name 36 = .ok (.aload_n 0, 1) := by decide +kernel
theorem dX8_name_37 : decode cX8_name 37 = .ok (.getfield 16, 3) := by decide +kernel
theorem dX8_name_40 : decode cX8_name 40 = .ok (.iload_n 3, 1) := by decide +kernel
theorem dX8_name_41 : decode cX8_name 41 = .ok (.iaload, 1) := by decide +kernel
theorem dX8_name_42 : decode cX8_name 42 = .ok (.iadd, 1) := by decide +kernel
theorem dX8_name_43 : decode cX8_name 43 = .ok (.invokevirtual 118, 3) := by decide +kernel
theorem dX8_name_46 : decode cX8_name 46 = .ok (.aload_n 0, 1) := by decide +kernel
theorem dX8_name_47 : decode cX8_name 47 = .ok (.getfield 7, 3) := by decide +kernel
theorem dX8_name_50 : decode cX8_name 50 = .ok (.iload_n 3, 1) := by decide +kernel
theorem dX8_name_51 : decode cX8_name 51 = .ok (.iaload, 1) := by decide +kernel
theorem dX8_name_52 : decode cX8_name 52 = .ok (.invokestatic 105, 3) := by decide +kernel
theorem dX8_name_55 : decode cX8_name 55 = .ok (.ifCond .eq 38, 3) := by decide +kernel
theorem dX8_name_58 : decode cX8_name 58 = .ok (.aload_n 0, 1) := by decide +kernel
theorem dX8_name_59 : decode cX8_name 59 = .ok (.getfield 19, 3) := by decide +kernel
theorem dX8_name_62 : decode cX8_name 62 = .ok (.iload_n 3, 1) := by decide +kernel
theorem dX8_name_63 : decode cX8_name 63 = .ok (.iaload, 1) := by decide +kernel
theorem dX8_name_64 : decode cX8_name 64 = .ok (.istore 4, 2) := by decide +kernel
theorem dX8_name_66 : decode cX8_name 66 = .ok (.iload 4, 2) := by decide +kernel
theorem dX8_name_68 : decode cX8_name 68 = .ok (.ifCond .le 25, 3) := by decide +kernel
theorem dX8_name_71 : decode cX8_name 71 = .ok (.aload_n 0, 1) := by decide +kernel
theorem dX8_name_72 : decode cX8_name 72 = .ok (.bipush 48, 2) := by decide +kernel
theorem dX8_name_74 : decode cX8_name 74 = .ok (.iload 4, 2) := by decide +kernel
theorem dX8_name_76 : decode cX8_name 76 = .ok (.bipush 10, 2) := by decide +kernel
theorem dX8_name_78 : decode cX8_name 78 = .ok (.irem, 1) := by decide +kernel
theorem dX8_name_79 : decode cX8_name 79 = .ok (.iadd, 1) := by decide +kernel
theorem dX8_name_80 : decode cX8_name 80 = .ok (.invokevirtual 118, 3) := by decide +kernel
theorem dX8_name_83 : decode cX8_name 83 = .ok (.iload 4, 2) := by decide +kernel
theorem dX8_name_85 : decode cX8_name 85 = .ok (.bipush 10, 2) := by decide +kernel
theorem dX8_name_87 : decode cX8_name 87 = .ok (.idiv, 1) := by decide +kernel
theorem dX8_name_88 : decode cX8_name 88 = .ok (.istore 4, 2) := by decide +kernel
theorem dX8_name_90 : decode cX8_name 90 = .ok (.goto (-24), 3) := by decide +kernel
theorem dX8_name_93 : decode cX8_name 93 = .ok (.aload_n 0, 1) := by decide +kernel
theorem dX8_name_94 : decode cX8_name 94 = .ok (.getfield 7, 3) := by decide +kernel
theorem dX8_name_97 : decode cX8_name 97 = .ok (.iload_n 3, 1) := by decide +kernel
theorem dX8_name_98 : decode cX8_name 98 = .ok (.iaload, 1) := by decide +kernel
theorem dX8_name_99 : decode cX8_name 99 = .ok (.ifCond .eq 9, 3) := by decide +kernel
theorem dX8_name_102 : decode cX8_name 102 = .ok (.aload_n 0, 1) := by decide +kernel
theorem dX8_name_103 : decode cX8_name 103 = .ok (.bipush 36, 2) := by decide +kernel
theorem dX8_name_105 : decode cX8_name 105 = .ok (.invokevirtual 118, 3) := by decide +kernel
theorem dX8_name_108 : decode cX8_name 108 = .ok (.aload_n 0, 1) := by decide +kernel
theorem dX8_name_109 : decode cX8_name 109 = .ok (.getfield 13, 3) := by decide +kernel
theorem dX8_name_112 : decode cX8_name 112 = .ok (.iload_n 3, 1) := by decide +kernel
theorem dX8_name_113 : decode cX8_name 113 = .ok (.iaload, 1) := by decide +kernel
theorem dX8_name_114 : decode cX8_name 114 = .ok (.istore_n 3, 1) := by decide +kernel
theorem dX8_name_115 : decode cX8_name 115 = .ok (.goto (-98), 3) := by decide +kernel
theorem dX8_name_118 : decode cX8_name 118 = .ok (.iload_n 2, 1) := by decide +kernel
theorem dX8_name_119 : decode cX8_name 119 = .ok (.bipush (-3), 2) := by decide +kernel
theorem dX8_name_121 : decode cX8_name 121 = .ok (.if_icmp .ne 10, 3) := by decide +kernel
theorem dX8_name_124 : decode cX8_name 124 = .ok (.aload_n 0, 1) := by decide +kernel
theorem dX8_name_125 : decode cX8_name 125 = .ok (.getfield 115, 3) := by decide +kernel
theorem dX8_name_128 : decode cX8_name 128 = .ok (.goto 34, 3) := by decide +kernel
theorem dX8_name_131 : decode cX8_name 131 = .ok (.iload_n 2, 1) := by decide +kernel
theorem dX8_name_132 : decode cX8_name 132 = .ok (.iconst 0, 1) := by decide +kernel
theorem dX8_name_133 : decode cX8_name 133 = .ok (.aload_n 0, 1) := by decide +kernel
theorem dX8_name_134 : decode cX8_name 134 = .ok (.getfield 115, 3) := by decide +kernel
theorem dX8_name_137 : decode cX8_name 137 = .ok (.iconst 1, 1) := by decide +kernel
theorem dX8_name_138 : decode cX8_name 138 = .ok (.isub, 1) := by decide +kernel
theorem dX8_name_139 : decode cX8_name 139 = .ok (.invokestatic 94, 3) := by decide +kernel
theorem dX8_name_142 : decode cX8_name 142 = .ok (.ifCond .eq 19, 3) := by decide +kernel
theorem dX8_name_145 : decode cX8_name 145 = .ok (.aload_n 0, 1) := by decide +kernel
theorem dX8_name_146 : decode cX8_name 146 = .ok (.getfield 87, 3) := by decide +kernel
theorem dX8_name_149 : decode cX8_name 149 = .ok (.aload_n 0, 1) := by decide +kernel
theorem dX8_name_150 : decode cX8_name 150 = .ok (.getfield 115, 3) := by decide +kernel
theorem dX8_name_153 : decode cX8_name 153 = .ok (.iconst 1, 1) := by decide +kernel
theorem dX8_name_154 : decode cX8_name 154 = .ok (.isub, 1) := by decide +kernel
theorem dX8_name_155 : decode cX8_name 155 = .ok (.iload_n 2, 1) := by decide +kernel
theorem dX8_name_156 : decode cX8_name 156 = .ok (.isub, 1) := by decide +kernel
theorem dX8_name_157 : decode cX8_name 157 = .ok (.iaload, 1) := by decide +kernel
theorem dX8_name_158 : decode cX8_name 158 = .ok (.goto 4, 3) := by decide +kernel
theorem dX8_name_161 : decode cX8_name 161 = .ok (.iconst (-1), 1) := by decide +kernel
theorem dX8_name_162 : decode cX8_name 162 = .ok (.ireturn, 1) := by decide +kernel
theorem dX8_isOf_0 : decode cX8_isOf 0 = .ok (.aload_n 0, 1) := by decide +kernel
theorem dX8_isOf_1 : decode cX8_isOf 1 = .ok (.getfield 60, 3) := by decide +kernel
theorem dX8_isOf_4 : decode cX8_isOf 4 = .ok (.bipush 12, 2) := by decide +kernel
theorem dX8_isOf_6 : decode cX8_isOf 6 = .ok (.iload_n 1, 1) := by decide +kernel
theorem dX8_isOf_7 : decode cX8_isOf 7 = .ok (.imul, 1) := by decide +kernel
theorem dX8_isOf_8 : decode cX8_isOf 8 = .ok (.iload_n 2, 1) := by decide +kernel
theorem dX8_isOf_9 : decode cX8_isOf 9 = .ok (.iadd, 1) := by decide +kernel
theorem dX8_isOf_10 : decode cX8_isOf 10 = .ok (.iaload, 1) := by decide +kernel
theorem dX8_isOf_11 : decode cX8_isOf 11 = .ok (.bipush (-3), 2) := by decide +kernel
theorem dX8_isOf_13 : decode cX8_isOf 13 = .ok (.if_icmp .eq 7, 3) := by decide +kernel
theorem dX8_isOf_16 : decode cX8_isOf 16 = .ok (.iconst 1, 1) := by decide +kernel
theorem dX8_isOf_17 : decode cX8_isOf 17 = .ok (.goto 4, 3) := by decide +kernel
theorem dX8_isOf_20 : decode cX8_isOf 20 = .ok (.iconst 0, 1) := by decide +kernel
theorem dX8_isOf_21 : decode cX8_isOf 21 = .ok (.ireturn, 1) := by decide +kernel
theorem dX8_found_0 : decode cX8_found 0 = .ok (.iload_n 1, 1) := by decide +kernel
theorem dX8_found_1 : decode cX8_found 1 = .ok (.istore 4, 2) := by decide +kernel
theorem dX8_found_3 : decode cX8_found 3 = .ok (.aload_n 0, 1) := by decide +kernel
theorem dX8_found_4 : decode cX8_found 4 = .ok (.getfield 13, 3) := by decide +kernel
theorem dX8_found_7 : decode cX8_found 7 = .ok (.iload_n 2, 1) := by decide +kernel
theorem dX8_found_8 : decode cX8_found 8 = .ok (.iaload, 1) := by decide +kernel
theorem dX8_found_9 : decode cX8_found 9 = .ok (.istore 5, 2) := by decide +kernel
theorem dX8_found_11 : decode cX8_found 11 = .ok (.iload 4, 2) := by decide +kernel
theorem dX8_found_13 : decode cX8_found 13 = .ok (.bipush (-3), 2) := by decide +kernel
theorem dX8_found_15 : decode cX8_found 15 = .ok (.if_icmp .eq 40, 3) := by decide +kernel
theorem dX8_found_18 : decode cX8_found 18 = .ok (.aload_n 0, 1) := by decide +kernel
theorem dX8_found_19 : decode cX8_found 19 = .ok (.iload 4, 2) := by decide +kernel
theorem dX8_found_21 : decode cX8_found 21 = .ok (.iload_n 3, 1) := by decide +kernel
theorem dX8_found_22 : decode cX8_found 22 = .ok (.invokevirtual 122, 3) := by decide +kernel
theorem dX8_found_25 : decode cX8_found 25 = .ok (.ifCond .ne 30, 3) := by decide +kernel
theorem dX8_found_28 : decode cX8_found 28 = .ok (.aload_n 0, 1) := by decide +kernel
theorem dX8_found_29 : decode cX8_found 29 = .ok (.getfield 63, 3) := by decide +kernel
theorem dX8_found_32 : decode cX8_found 32 = .ok (.bipush 12, 2) := by decide +kernel
theorem dX8_found_34 : decode cX8_found 34 = .ok (.iload 4, 2) := by decide +kernel
theorem dX8_found_36 : decode cX8_found 36 = .ok (.imul, 1) := by decide +kernel
theorem dX8_found_37 : decode cX8_found 37 = .ok (.iload 5, 2) := by decide +kernel
theorem dX8_found_39 : decode cX8_found 39 = .ok (.iadd, 1) := by decide +kernel
theorem dX8_found_40 : decode cX8_found 40 = .ok (.iaload, 1) := by decide +kernel
theorem dX8_found_41 : decode cX8_found 41 = .ok (.istore 4, 2) := by decide +kernel
theorem dX8_found_43 : decode cX8_found 43 = .ok (.aload_n 0, 1) := by decide +kernel
theorem dX8_found_44 : decode cX8_found 44 = .ok (.getfield 13, 3) := by decide +kernel
theorem dX8_found_47 : decode cX8_found 47 = .ok (.iload 5, 2) := by decide +kernel
theorem dX8_found_49 : decode cX8_found 49 = .ok (.iaload, 1) := by decide +kernel
theorem dX8_found_50 : decode cX8_found 50 = .ok (.istore 5, 2) := by decide +kernel
theorem dX8_found_52 : decode cX8_found 52 = .ok (.goto (-41), 3) := by decide +kernel
theorem dX8_found_55 : decode cX8_found 55 = .ok (.iload 4, 2) := by decide +kernel
theorem dX8_found_57 : decode cX8_found 57 = .ok (.ireturn, 1) := by decide +kernel
theorem dX8_level_0 : decode cX8_level 0 = .ok (.bipush 12, 2) := by decide +kernel
theorem dX8_level_2 : decode cX8_level 2 = .ok (.iload_n 1, 1) := by decide +kernel
theorem dX8_level_3 : decode cX8_level 3 = .ok (.imul, 1) := by decide +kernel
theorem dX8_level_4 : decode cX8_level 4 = .ok (.iload_n 2, 1) := by decide +kernel
theorem dX8_level_5 : decode cX8_level 5 = .ok (.iadd, 1) := by decide +kernel
theorem dX8_level_6 : decode cX8_level 6 = .ok (.istore 4, 2) := by decide +kernel
theorem dX8_level_8 : decode cX8_level 8 = .ok (.aload_n 0, 1) := by decide +kernel
theorem dX8_level_9 : decode cX8_level 9 = .ok (.getfield 60, 3) := by decide +kernel
theorem dX8_level_12 : decode cX8_level 12 = .ok (.iload 4, 2) := by decide +kernel
theorem dX8_level_14 : decode cX8_level 14 = .ok (.aload_n 0, 1) := by decide +kernel
theorem dX8_level_15 : decode cX8_level 15 = .ok (.getfield 28, 3) := by decide +kernel
theorem dX8_level_18 : decode cX8_level 18 = .ok (.iload_n 2, 1) := by decide +kernel
theorem dX8_level_19 : decode cX8_level 19 = .ok (.iaload, 1) := by decide +kernel
theorem dX8_level_20 : decode cX8_level 20 = .ok (.iastore, 1) := by decide +kernel
theorem dX8_level_21 : decode cX8_level 21 = .ok (.aload_n 0, 1) := by decide +kernel
theorem dX8_level_22 : decode cX8_level 22 = .ok (.getfield 63, 3) := by decide +kernel
theorem dX8_level_25 : decode cX8_level 25 = .ok (.iload 4, 2) := by decide +kernel
theorem dX8_level_27 : decode cX8_level 27 = .ok (.iload_n 3, 1) := by decide +kernel
theorem dX8_level_28 : decode cX8_level 28 = .ok (.iastore, 1) := by decide +kernel
theorem dX8_level_29 : decode cX8_level 29 = .ok (.iconst 0, 1) := by decide +kernel
theorem dX8_level_30 : decode cX8_level 30 = .ok (.istore 5, 2) := by decide +kernel
theorem dX8_level_32 : decode cX8_level 32 = .ok (.iload 5, 2) := by decide +kernel
theorem dX8_level_34 : decode cX8_level 34 = .ok (.aload_n 0, 1) := by decide +kernel
theorem dX8_level_35 : decode cX8_level 35 = .ok (.getfield 28, 3) := by decide +kernel
theorem dX8_level_38 : decode cX8_level 38 = .ok (.iload_n 2, 1) := by decide +kernel
theorem dX8_level_39 : decode cX8_level 39 = .ok (.iaload, 1) := by decide +kernel
theorem dX8_level_40 : decode cX8_level 40 = .ok (.if_icmp .ge 32, 3) := by decide +kernel
theorem dX8_level_43 : decode cX8_level 43 = .ok (.aload_n 0, 1) := by decide +kernel
theorem dX8_level_44 : decode cX8_level 44 = .ok (.getfield 66, 3) := by decide +kernel
theorem dX8_level_47 : decode cX8_level 47 = .ok (.iconst 4, 1) := by decide +kernel
theorem dX8_level_48 : decode cX8_level 48 = .ok (.iload 4, 2) := by decide +kernel
theorem dX8_level_50 : decode cX8_level 50 = .ok (.imul, 1) := by decide +kernel
theorem dX8_level_51 : decode cX8_level 51 = .ok (.iload 5, 2) := by decide +kernel
theorem dX8_level_53 : decode cX8_level 53 = .ok (.iadd, 1) := by decide +kernel
theorem dX8_level_54 : decode cX8_level 54 = .ok (.aload_n 0, 1) := by decide +kernel
theorem dX8_level_55 : decode cX8_level 55 = .ok (.getfield 34, 3) := by decide +kernel
theorem dX8_level_58 : decode cX8_level 58 = .ok (.iconst 4, 1) := by decide +kernel
theorem dX8_level_59 : decode cX8_level 59 = .ok (.iload_n 2, 1) := by decide +kernel
theorem dX8_level_60 : decode cX8_level 60 = .ok (.imul, 1) := by decide +kernel
theorem dX8_level_61 : decode cX8_level 61 = .ok (.iload 5, 2) := by decide +kernel
theorem dX8_level_63 : decode cX8_level 63 = .ok (.iadd, 1) := by decide +kernel
theorem dX8_level_64 : decode cX8_level 64 = .ok (.laload, 1) := by decide +kernel
theorem dX8_level_65 : decode cX8_level 65 = .ok (.lastore, 1) := by decide +kernel
theorem dX8_level_66 : decode cX8_level 66 = .ok (.iinc 5 1, 3) := by decide +kernel
theorem dX8_level_69 : decode cX8_level 69 = .ok (.goto (-37), 3) := by decide +kernel
theorem dX8_level_72 : decode cX8_level 72 = .ok (.iconst 0, 1) := by decide +kernel
theorem dX8_level_73 : decode cX8_level 73 = .ok (.istore 5, 2) := by decide +kernel
theorem dX8_level_75 : decode cX8_level 75 = .ok (.iload 5, 2) := by decide +kernel
theorem dX8_level_77 : decode cX8_level 77 = .ok (.aload_n 0, 1) := by decide +kernel
theorem dX8_level_78 : decode cX8_level 78 = .ok (.getfield 22, 3) := by decide +kernel
theorem dX8_level_81 : decode cX8_level 81 = .ok (.iload_n 2, 1) := by decide +kernel
theorem dX8_level_82 : decode cX8_level 82 = .ok (.iaload, 1) := by decide +kernel
theorem dX8_level_83 : decode cX8_level 83 = .ok (.if_icmp .ge 37, 3) := by decide +kernel
theorem dX8_level_86 : decode cX8_level 86 = .ok (.aload_n 0, 1) := by decide +kernel
theorem dX8_level_87 : decode cX8_level 87 = .ok (.getfield 69, 3) := by decide +kernel
theorem dX8_level_90 : decode cX8_level 90 = .ok (.iconst 4, 1) := by decide +kernel
theorem dX8_level_91 : decode cX8_level 91 = .ok (.iload 4, 2) := by decide +kernel
theorem dX8_level_93 : decode cX8_level 93 = .ok (.imul, 1) := by decide +kernel
theorem dX8_level_94 : decode cX8_level 94 = .ok (.iload 5, 2) := by decide +kernel
theorem dX8_level_96 : decode cX8_level 96 = .ok (.iadd, 1) := by decide +kernel
theorem dX8_level_97 : decode cX8_level 97 = .ok (.aload_n 0, 1) := by decide +kernel
theorem dX8_level_98 : decode cX8_level 98 = .ok (.getfield 51, 3) := by decide +kernel
theorem dX8_level_101 : decode cX8_level 101 = .ok (.iconst 4, 1) := by decide +kernel
theorem dX8_level_102 : decode cX8_level 102 = .ok (.aload_n 0, 1) := by decide +kernel
theorem dX8_level_103 : decode cX8_level 103 = .ok (.getfield 13, 3) := by decide +kernel
theorem dX8_level_106 : decode cX8_level 106 = .ok (.iload_n 2, 1) := by decide +kernel
theorem dX8_level_107 : decode cX8_level 107 = .ok (.iaload, 1) := by decide +kernel
theorem dX8_level_108 : decode cX8_level 108 = .ok (.imul, 1) := by decide +kernel
theorem dX8_level_109 : decode cX8_level 109 = .ok (.iload 5, 2) := by decide +kernel
theorem dX8_level_111 : decode cX8_level 111 = .ok (.iadd, 1) := by decide +kernel
theorem dX8_level_112 : decode cX8_level 112 = .ok (.laload, 1) := by decide +kernel
theorem dX8_level_113 : decode cX8_level 113 = .ok (.lastore, 1) := by decide +kernel
theorem dX8_level_114 : decode cX8_level 114 = .ok (.iinc 5 1, 3) := by decide +kernel
theorem dX8_level_117 : decode cX8_level 117 = .ok (.goto (-42), 3) := by decide +kernel
theorem dX8_level_120 : decode cX8_level 120 = .ok (.return_, 1) := by decide +kernel
theorem dX8_make_0 : decode cX8_make 0 = .ok (.aload_n 0, 1) := by decide +kernel
theorem dX8_make_1 : decode cX8_make 1 = .ok (.iload_n 1, 1) := by decide +kernel
theorem dX8_make_2 : decode cX8_make 2 = .ok (.invokevirtual 98, 3) := by decide +kernel
theorem dX8_make_5 : decode cX8_make 5 = .ok (.ifCond .eq 25, 3) := by decide +kernel
theorem dX8_make_8 : decode cX8_make 8 = .ok (.iload_n 3, 1) := by decide +kernel
theorem dX8_make_9 : decode cX8_make 9 = .ok (.invokestatic 126, 3) := by decide +kernel
theorem dX8_make_12 : decode cX8_make 12 = .ok (.ifCond .eq 18, 3) := by decide +kernel
theorem dX8_make_15 : decode cX8_make 15 = .ok (.aload_n 0, 1) := by decide +kernel
theorem dX8_make_16 : decode cX8_make 16 = .ok (.iload_n 1, 1) := by decide +kernel
theorem dX8_make_17 : decode cX8_make 17 = .ok (.invokevirtual 129, 3) := by decide +kernel
theorem dX8_make_20 : decode cX8_make 20 = .ok (.ifCond .eq 17, 3) := by decide +kernel
theorem dX8_make_23 : decode cX8_make 23 = .ok (.iload_n 2, 1) := by decide +kernel
theorem dX8_make_24 : decode cX8_make 24 = .ok (.invokestatic 126, 3) := by decide +kernel
theorem dX8_make_27 : decode cX8_make 27 = .ok (.ifCond .ne 10, 3) := by decide +kernel
theorem dX8_make_30 : decode cX8_make 30 = .ok (.aload_n 0, 1) := by decide +kernel
theorem dX8_make_31 : decode cX8_make 31 = .ok (.iconst (-1), 1) := by decide +kernel
theorem dX8_make_32 : decode cX8_make 32 = .ok (.putfield 132, 3) := by decide +kernel
theorem dX8_make_35 : decode cX8_make 35 = .ok (.iconst (-1), 1) := by decide +kernel
theorem dX8_make_36 : decode cX8_make 36 = .ok (.ireturn, 1) := by decide +kernel
theorem dX8_make_37 : decode cX8_make 37 = .ok (.aload_n 0, 1) := by decide +kernel
theorem dX8_make_38 : decode cX8_make 38 = .ok (.getfield 135, 3) := by decide +kernel
theorem dX8_make_41 : decode cX8_make 41 = .ok (.istore 4, 2) := by decide +kernel
theorem dX8_make_43 : decode cX8_make 43 = .ok (.aload_n 0, 1) := by decide +kernel
theorem dX8_make_44 : decode cX8_make 44 = .ok (.iload_n 1, 1) := by decide +kernel
theorem dX8_make_45 : decode cX8_make 45 = .ok (.invokevirtual 129, 3) := by decide +kernel
theorem dX8_make_48 : decode cX8_make 48 = .ok (.ifCond .eq 12, 3) := by decide +kernel
theorem dX8_make_51 : decode cX8_make 51 = .ok (.aload_n 0, 1) := by decide +kernel
theorem dX8_make_52 : decode cX8_make 52 = .ok (.getfield 72, 3) := by decide +kernel
theorem dX8_make_55 : decode cX8_make 55 = .ok (.iload_n 2, 1) := by decide +kernel
theorem dX8_make_56 : decode cX8_make 56 = .ok (.iaload, 1) := by decide +kernel
theorem dX8_make_57 : decode cX8_make 57 = .ok (.goto 5, 3) := by decide +kernel
theorem dX8_make_60 : decode cX8_make 60 = .ok (.bipush (-3), 2) := by decide +kernel
theorem dX8_make_62 : decode cX8_make 62 = .ok (.istore 5, 2) := by decide +kernel
theorem dX8_make_64 : decode cX8_make 64 = .ok (.aload_n 0, 1) := by decide +kernel
theorem dX8_make_65 : decode cX8_make 65 = .ok (.iconst 0, 1) := by decide +kernel
theorem dX8_make_66 : decode cX8_make 66 = .ok (.putfield 132, 3) := by decide +kernel
theorem dX8_make_69 : decode cX8_make 69 = .ok (.aload_n 0, 1) := by decide +kernel
theorem dX8_make_70 : decode cX8_make 70 = .ok (.iload_n 1, 1) := by decide +kernel
theorem dX8_make_71 : decode cX8_make 71 = .ok (.invokevirtual 129, 3) := by decide +kernel
theorem dX8_make_74 : decode cX8_make 74 = .ok (.ifCond .eq 38, 3) := by decide +kernel
theorem dX8_make_77 : decode cX8_make 77 = .ok (.aload_n 0, 1) := by decide +kernel
theorem dX8_make_78 : decode cX8_make 78 = .ok (.iload 5, 2) := by decide +kernel
theorem dX8_make_80 : decode cX8_make 80 = .ok (.bipush (-3), 2) := by decide +kernel
theorem dX8_make_82 : decode cX8_make 82 = .ok (.if_icmp .ne 7, 3) := by decide +kernel
theorem dX8_make_85 : decode cX8_make 85 = .ok (.iconst 1, 1) := by decide +kernel
theorem dX8_make_86 : decode cX8_make 86 = .ok (.goto 23, 3) := by decide +kernel
theorem dX8_make_89 : decode cX8_make 89 = .ok (.aload_n 0, 1) := by decide +kernel
theorem dX8_make_90 : decode cX8_make 90 = .ok (.iload 5, 2) := by decide +kernel
theorem dX8_make_92 : decode cX8_make 92 = .ok (.aload_n 0, 1) := by decide +kernel
theorem dX8_make_93 : decode cX8_make 93 = .ok (.getfield 13, 3) := by decide +kernel
theorem dX8_make_96 : decode cX8_make 96 = .ok (.iload_n 1, 1) := by decide +kernel
theorem dX8_make_97 : decode cX8_make 97 = .ok (.iaload, 1) := by decide +kernel
theorem dX8_make_98 : decode cX8_make 98 = .ok (.invokevirtual 122, 3) := by decide +kernel
theorem dX8_make_101 : decode cX8_make 101 = .ok (.ifCond .ne 7, 3) := by decide +kernel
theorem dX8_make_104 : decode cX8_make 104 = .ok (.iconst 2, 1) := by decide +kernel
theorem dX8_make_105 : decode cX8_make 105 = .ok (.goto 4, 3) := by decide +kernel
theorem dX8_make_108 : decode cX8_make 108 = .ok (.iconst 0, 1) := by decide +kernel
theorem dX8_make_109 : decode cX8_make 109 = .ok (.putfield 132, 3) := by decide +kernel
theorem dX8_make_112 : decode cX8_make 112 = .ok (.aload_n 0, 1) := by decide +kernel
theorem dX8_make_113 : decode cX8_make 113 = .ok (.getfield 132, 3) := by decide +kernel
theorem dX8_make_116 : decode cX8_make 116 = .ok (.ifCond .le 8, 3) := by decide +kernel
theorem dX8_make_119 : decode cX8_make 119 = .ok (.aload_n 0, 1) := by decide +kernel
theorem dX8_make_120 : decode cX8_make 120 = .ok (.getfield 132, 3) := by decide +kernel
theorem dX8_make_123 : decode cX8_make 123 = .ok (.ireturn, 1) := by decide +kernel
theorem dX8_make_124 : decode cX8_make 124 = .ok (.iconst 0, 1) := by decide +kernel
theorem dX8_make_125 : decode cX8_make 125 = .ok (.istore 6, 2) := by decide +kernel
theorem dX8_make_127 : decode cX8_make 127 = .ok (.iload 6, 2) := by decide +kernel
theorem dX8_make_129 : decode cX8_make 129 = .ok (.bipush 12, 2) := by decide +kernel
theorem dX8_make_131 : decode cX8_make 131 = .ok (.if_icmp .ge 24, 3) := by decide +kernel
theorem dX8_make_134 : decode cX8_make 134 = .ok (.aload_n 0, 1) := by decide +kernel
theorem dX8_make_135 : decode cX8_make 135 = .ok (.getfield 60, 3) := by decide +kernel
theorem dX8_make_138 : decode cX8_make 138 = .ok (.bipush 12, 2) := by decide +kernel
theorem dX8_make_140 : decode cX8_make 140 = .ok (.iload 4, 2) := by decide +kernel
theorem dX8_make_142 : decode cX8_make 142 = .ok (.imul, 1) := by decide +kernel
theorem dX8_make_143 : decode cX8_make 143 = .ok (.iload 6, 2) := by decide +kernel
theorem dX8_make_145 : decode cX8_make 145 = .ok (.iadd, 1) := by decide +kernel
theorem dX8_make_146 : decode cX8_make 146 = .ok (.bipush (-3), 2) := by decide +kernel
theorem dX8_make_148 : decode cX8_make 148 = .ok (.iastore, 1) := by decide +kernel
theorem dX8_make_149 : decode cX8_make 149 = .ok (.iinc 6 1, 3) := by decide +kernel
theorem dX8_make_152 : decode cX8_make 152 = .ok (.goto (-25), 3) := by decide +kernel
theorem dX8_make_155 : decode cX8_make 155 = .ok (.aload_n 0, 1) := by decide +kernel
theorem dX8_make_156 : decode cX8_make 156 = .ok (.iload 4, 2) := by decide +kernel
theorem dX8_make_158 : decode cX8_make 158 = .ok (.iload_n 1, 1) := by decide +kernel
theorem dX8_make_159 : decode cX8_make 159 = .ok (.iload 5, 2) := by decide +kernel
theorem dX8_make_161 : decode cX8_make 161 = .ok (.invokevirtual 138, 3) := by decide +kernel
theorem dX8_make_164 : decode cX8_make 164 = .ok (.aload_n 0, 1) := by decide +kernel
theorem dX8_make_165 : decode cX8_make 165 = .ok (.getfield 25, 3) := by decide +kernel
theorem dX8_make_168 : decode cX8_make 168 = .ok (.iload_n 1, 1) := by decide +kernel
theorem dX8_make_169 : decode cX8_make 169 = .ok (.iaload, 1) := by decide +kernel
theorem dX8_make_170 : decode cX8_make 170 = .ok (.istore 6, 2) := by decide +kernel
theorem dX8_make_172 : decode cX8_make 172 = .ok (.iload 6, 2) := by decide +kernel
theorem dX8_make_174 : decode cX8_make 174 = .ok (.bipush (-3), 2) := by decide +kernel
theorem dX8_make_176 : decode cX8_make 176 = .ok (.if_icmp .eq 81, 3) := by decide +kernel
theorem dX8_make_179 : decode cX8_make 179 = .ok (.aload_n 0, 1) := by decide +kernel
theorem dX8_make_180 : decode cX8_make 180 = .ok (.iload 6, 2) := by decide +kernel
theorem dX8_make_182 : decode cX8_make 182 = .ok (.invokevirtual 129, 3) := by decide +kernel
theorem dX8_make_185 : decode cX8_make 185 = .ok (.ifCond .eq 20, 3) := by decide +kernel
theorem dX8_make_188 : decode cX8_make 188 = .ok (.aload_n 0, 1) := by decide +kernel
theorem dX8_make_189 : decode cX8_make 189 = .ok (.iload 5, 2) := by decide +kernel
theorem dX8_make_191 : decode cX8_make 191 = .ok (.iload_n 1, 1) := by decide +kernel
theorem dX8_make_192 : decode cX8_make 192 = .ok (.aload_n 0, 1) := by decide +kernel
theorem dX8_make_193 : decode cX8_make 193 = .ok (.getfield 13, 3) := by decide +kernel
theorem dX8_make_196 : decode cX8_make 196 = .ok (.iload 6, 2) := by decide +kernel
theorem dX8_make_198 : decode cX8_make 198 = .ok (.iaload, 1) := by decide +kernel
theorem dX8_make_199 : decode cX8_make 199 = .ok (.invokevirtual 142, 3) := by decide +kernel
theorem dX8_make_202 : decode cX8_make 202 = .ok (.goto 5, 3) := by decide +kernel
theorem dX8_make_205 : decode cX8_make 205 = .ok (.bipush (-3), 2) := by decide +kernel
theorem dX8_make_207 : decode cX8_make 207 = .ok (.istore 7, 2) := by decide +kernel
theorem dX8_make_209 : decode cX8_make 209 = .ok (.aload_n 0, 1) := by decide +kernel
theorem dX8_make_210 : decode cX8_make 210 = .ok (.iload 6, 2) := by decide +kernel
theorem dX8_make_212 : decode cX8_make 212 = .ok (.invokevirtual 129, 3) := by decide +kernel
theorem dX8_make_215 : decode cX8_make 215 = .ok (.ifCond .eq 20, 3) := by decide +kernel
theorem dX8_make_218 : decode cX8_make 218 = .ok (.iload 7, 2) := by decide +kernel
theorem dX8_make_220 : decode cX8_make 220 = .ok (.bipush (-3), 2) := by decide +kernel
theorem dX8_make_222 : decode cX8_make 222 = .ok (.if_icmp .ne 13, 3) := by decide +kernel
theorem dX8_make_225 : decode cX8_make 225 = .ok (.aload_n 0, 1) := by decide +kernel
theorem dX8_make_226 : decode cX8_make 226 = .ok (.iconst 3, 1) := by decide +kernel
theorem dX8_make_227 : decode cX8_make 227 = .ok (.putfield 132, 3) := by decide +kernel
theorem dX8_make_230 : decode cX8_make 230 = .ok (.aload_n 0, 1) := by decide +kernel
theorem dX8_make_231 : decode cX8_make 231 = .ok (.getfield 132, 3) := by decide +kernel
theorem dX8_make_234 : decode cX8_make 234 = .ok (.ireturn, 1) := by decide +kernel
theorem dX8_make_235 : decode cX8_make 235 = .ok (.aload_n 0, 1) := by decide +kernel
theorem dX8_make_236 : decode cX8_make 236 = .ok (.iload 4, 2) := by decide +kernel
theorem dX8_make_238 : decode cX8_make 238 = .ok (.iload 6, 2) := by decide +kernel
theorem dX8_make_240 : decode cX8_make 240 = .ok (.iload 7, 2) := by decide +kernel
theorem dX8_make_242 : decode cX8_make 242 = .ok (.invokevirtual 138, 3) := by decide +kernel
theorem dX8_make_245 : decode cX8_make 245 = .ok (.aload_n 0, 1) := by decide +kernel
theorem dX8_make_246 : decode cX8_make 246 = .ok (.getfield 25, 3) := by decide +kernel
theorem dX8_make_249 : decode cX8_make 249 = .ok (.iload 6, 2) := by decide +kernel
theorem dX8_make_251 : decode cX8_make 251 = .ok (.iaload, 1) := by decide +kernel
theorem dX8_make_252 : decode cX8_make 252 = .ok (.istore 6, 2) := by decide +kernel
theorem dX8_make_254 : decode cX8_make 254 = .ok (.goto (-82), 3) := by decide +kernel
theorem dX8_make_257 : decode cX8_make 257 = .ok (.aload_n 0, 1) := by decide +kernel
theorem dX8_make_258 : decode cX8_make 258 = .ok (.getfield 57, 3) := by decide +kernel
theorem dX8_make_261 : decode cX8_make 261 = .ok (.iload 4, 2) := by decide +kernel
theorem dX8_make_263 : decode cX8_make 263 = .ok (.iload_n 1, 1) := by decide +kernel
theorem dX8_make_264 : decode cX8_make 264 = .ok (.iastore, 1) := by decide +kernel
theorem dX8_make_265 : decode cX8_make 265 = .ok (.aload_n 0, 1) := by decide +kernel
theorem dX8_make_266 : decode cX8_make 266 = .ok (.dup, 1) := by decide +kernel
theorem dX8_make_267 : decode cX8_make 267 = .ok (.getfield 135, 3) := by decide +kernel
theorem dX8_make_270 : decode cX8_make 270 = .ok (.iconst 1, 1) := by decide +kernel
theorem dX8_make_271 : decode cX8_make 271 = .ok (.iadd, 1) := by decide +kernel
theorem dX8_make_272 : decode cX8_make 272 = .ok (.putfield 135, 3) := by decide +kernel
theorem dX8_make_275 : decode cX8_make 275 = .ok (.aload_n 0, 1) := by decide +kernel
theorem dX8_make_276 : decode cX8_make 276 = .ok (.getfield 72, 3) := by decide +kernel
theorem dX8_make_279 : decode cX8_make 279 = .ok (.iload_n 3, 1) := by decide +kernel
theorem dX8_make_280 : decode cX8_make 280 = .ok (.iload 4, 2) := by decide +kernel
theorem dX8_make_282 : decode cX8_make 282 = .ok (.iastore, 1) := by decide +kernel
theorem dX8_make_283 : decode cX8_make 283 = .ok (.iconst 0, 1) := by decide +kernel
theorem dX8_make_284 : decode cX8_make 284 = .ok (.ireturn, 1) := by decide +kernel
theorem dX8_share_0 : decode cX8_share 0 = .ok (.iload_n 1, 1) := by decide +kernel
theorem dX8_share_1 : decode cX8_share 1 = .ok (.invokestatic 126, 3) := by decide +kernel
theorem dX8_share_4 : decode cX8_share 4 = .ok (.ifCond .eq 10, 3) := by decide +kernel
theorem dX8_share_7 : decode cX8_share 7 = .ok (.iload_n 2, 1) := by decide +kernel
theorem dX8_share_8 : decode cX8_share 8 = .ok (.invokestatic 126, 3) := by decide +kernel
theorem dX8_share_11 : decode cX8_share 11 = .ok (.ifCond .ne 5, 3) := by decide +kernel
theorem dX8_share_14 : decode cX8_share 14 = .ok (.iconst (-1), 1) := by decide +kernel
theorem dX8_share_15 : decode cX8_share 15 = .ok (.ireturn, 1) := by decide +kernel
theorem dX8_share_16 : decode cX8_share 16 = .ok (.aload_n 0, 1) := by decide +kernel
theorem dX8_share_17 : decode cX8_share 17 = .ok (.getfield 72, 3) := by decide +kernel
theorem dX8_share_20 : decode cX8_share 20 = .ok (.iload_n 2, 1) := by decide +kernel
theorem dX8_share_21 : decode cX8_share 21 = .ok (.aload_n 0, 1) := by decide +kernel
theorem dX8_share_22 : decode cX8_share 22 = .ok (.getfield 72, 3) := by decide +kernel
theorem dX8_share_25 : decode cX8_share 25 = .ok (.iload_n 1, 1) := by decide +kernel
theorem dX8_share_26 : decode cX8_share 26 = .ok (.iaload, 1) := by decide +kernel
theorem dX8_share_27 : decode cX8_share 27 = .ok (.iastore, 1) := by decide +kernel
theorem dX8_share_28 : decode cX8_share 28 = .ok (.aload_n 0, 1) := by decide +kernel
theorem dX8_share_29 : decode cX8_share 29 = .ok (.getfield 72, 3) := by decide +kernel
theorem dX8_share_32 : decode cX8_share 32 = .ok (.iload_n 2, 1) := by decide +kernel
theorem dX8_share_33 : decode cX8_share 33 = .ok (.iaload, 1) := by decide +kernel
theorem dX8_share_34 : decode cX8_share 34 = .ok (.bipush (-3), 2) := by decide +kernel
theorem dX8_share_36 : decode cX8_share 36 = .ok (.if_icmp .ne 7, 3) := by decide +kernel
theorem dX8_share_39 : decode cX8_share 39 = .ok (.iconst 0, 1) := by decide +kernel
theorem dX8_share_40 : decode cX8_share 40 = .ok (.goto 4, 3) := by decide +kernel
theorem dX8_share_43 : decode cX8_share 43 = .ok (.iconst 1, 1) := by decide +kernel
theorem dX8_share_44 : decode cX8_share 44 = .ok (.ireturn, 1) := by decide +kernel
theorem dX8_free_0 : decode cX8_free 0 = .ok (.iload_n 1, 1) := by decide +kernel
theorem dX8_free_1 : decode cX8_free 1 = .ok (.invokestatic 126, 3) := by decide +kernel
theorem dX8_free_4 : decode cX8_free 4 = .ok (.ifCond .ne 5, 3) := by decide +kernel
theorem dX8_free_7 : decode cX8_free 7 = .ok (.iconst (-1), 1) := by decide +kernel
theorem dX8_free_8 : decode cX8_free 8 = .ok (.ireturn, 1) := by decide +kernel
theorem dX8_free_9 : decode cX8_free 9 = .ok (.aload_n 0, 1) := by decide +kernel
theorem dX8_free_10 : decode cX8_free 10 = .ok (.getfield 72, 3) := by decide +kernel
theorem dX8_free_13 : decode cX8_free 13 = .ok (.iload_n 1, 1) := by decide +kernel
theorem dX8_free_14 : decode cX8_free 14 = .ok (.iaload, 1) := by decide +kernel
theorem dX8_free_15 : decode cX8_free 15 = .ok (.bipush (-3), 2) := by decide +kernel
theorem dX8_free_17 : decode cX8_free 17 = .ok (.if_icmp .ne 7, 3) := by decide +kernel
theorem dX8_free_20 : decode cX8_free 20 = .ok (.iconst 0, 1) := by decide +kernel
theorem dX8_free_21 : decode cX8_free 21 = .ok (.goto 4, 3) := by decide +kernel
theorem dX8_free_24 : decode cX8_free 24 = .ok (.iconst 1, 1) := by decide +kernel
theorem dX8_free_25 : decode cX8_free 25 = .ok (.istore_n 2, 1) := by decide +kernel
theorem dX8_free_26 : decode cX8_free 26 = .ok (.aload_n 0, 1) := by decide +kernel
theorem dX8_free_27 : decode cX8_free 27 = .ok (.getfield 72, 3) := by decide +kernel
theorem dX8_free_30 : decode cX8_free 30 = .ok (.iload_n 1, 1) := by decide +kernel
theorem dX8_free_31 : decode cX8_free 31 = .ok (.bipush (-3), 2) := by decide +kernel
theorem dX8_free_33 : decode cX8_free 33 = .ok (.iastore, 1) := by decide +kernel
theorem dX8_free_34 : decode cX8_free 34 = .ok (.iload_n 2, 1) := by decide +kernel
theorem dX8_free_35 : decode cX8_free 35 = .ok (.ireturn, 1) := by decide +kernel
theorem dX8_about_0 : decode cX8_about 0 = .ok (.iload_n 1, 1) := by decide +kernel
theorem dX8_about_1 : decode cX8_about 1 = .ok (.invokestatic 126, 3) := by decide +kernel
theorem dX8_about_4 : decode cX8_about 4 = .ok (.ifCond .eq 12, 3) := by decide +kernel
theorem dX8_about_7 : decode cX8_about 7 = .ok (.iload_n 2, 1) := by decide +kernel
theorem dX8_about_8 : decode cX8_about 8 = .ok (.iconst 0, 1) := by decide +kernel
theorem dX8_about_9 : decode cX8_about 9 = .ok (.iconst 3, 1) := by decide +kernel
theorem dX8_about_10 : decode cX8_about 10 = .ok (.invokestatic 94, 3) := by decide +kernel
theorem dX8_about_13 : decode cX8_about 13 = .ok (.ifCond .ne 5, 3) := by decide +kernel
theorem dX8_about_16 : decode cX8_about 16 = .ok (.iconst (-1), 1) := by decide +kernel
theorem dX8_about_17 : decode cX8_about 17 = .ok (.ireturn, 1) := by decide +kernel
theorem dX8_about_18 : decode cX8_about 18 = .ok (.aload_n 0, 1) := by decide +kernel
theorem dX8_about_19 : decode cX8_about 19 = .ok (.getfield 72, 3) := by decide +kernel
theorem dX8_about_22 : decode cX8_about 22 = .ok (.iload_n 1, 1) := by decide +kernel
theorem dX8_about_23 : decode cX8_about 23 = .ok (.iaload, 1) := by decide +kernel
theorem dX8_about_24 : decode cX8_about 24 = .ok (.istore_n 3, 1) := by decide +kernel
theorem dX8_about_25 : decode cX8_about 25 = .ok (.iload_n 3, 1) := by decide +kernel
theorem dX8_about_26 : decode cX8_about 26 = .ok (.bipush (-3), 2) := by decide +kernel
theorem dX8_about_28 : decode cX8_about 28 = .ok (.if_icmp .ne 6, 3) := by decide +kernel
theorem dX8_about_31 : decode cX8_about 31 = .ok (.bipush (-3), 2) := by decide +kernel
theorem dX8_about_33 : decode cX8_about 33 = .ok (.ireturn, 1) := by decide +kernel
theorem dX8_about_34 : decode cX8_about 34 = .ok (.aload_n 0, 1) := by decide +kernel
theorem dX8_about_35 : decode cX8_about 35 = .ok (.getfield 57, 3) := by decide +kernel
theorem dX8_about_38 : decode cX8_about 38 = .ok (.iload_n 3, 1) := by decide +kernel
theorem dX8_about_39 : decode cX8_about 39 = .ok (.iaload, 1) := by decide +kernel
theorem dX8_about_40 : decode cX8_about 40 = .ok (.istore 4, 2) := by decide +kernel
theorem dX8_about_42 : decode cX8_about 42 = .ok (.iload_n 2, 1) := by decide +kernel
theorem dX8_about_43 : decode cX8_about 43 = .ok (.ifCond .ne 6, 3) := by decide +kernel
theorem dX8_about_46 : decode cX8_about 46 = .ok (.iload 4, 2) := by decide +kernel
theorem dX8_about_48 : decode cX8_about 48 = .ok (.ireturn, 1) := by decide +kernel
theorem dX8_about_49 : decode cX8_about 49 = .ok (.iload_n 2, 1) := by decide +kernel
theorem dX8_about_50 : decode cX8_about 50 = .ok (.iconst 2, 1) := by decide +kernel
theorem dX8_about_51 : decode cX8_about 51 = .ok (.if_icmp .ne 37, 3) := by decide +kernel
theorem dX8_about_54 : decode cX8_about 54 = .ok (.aload_n 0, 1) := by decide +kernel
theorem dX8_about_55 : decode cX8_about 55 = .ok (.getfield 63, 3) := by decide +kernel
theorem dX8_about_58 : decode cX8_about 58 = .ok (.bipush 12, 2) := by decide +kernel
theorem dX8_about_60 : decode cX8_about 60 = .ok (.iload_n 3, 1) := by decide +kernel
theorem dX8_about_61 : decode cX8_about 61 = .ok (.imul, 1) := by decide +kernel
theorem dX8_about_62 : decode cX8_about 62 = .ok (.iload 4, 2) := by decide +kernel
theorem dX8_about_64 : decode cX8_about 64 = .ok (.iadd, 1) := by decide +kernel
theorem dX8_about_65 : decode cX8_about 65 = .ok (.iaload, 1) := by decide +kernel
theorem dX8_about_66 : decode cX8_about 66 = .ok (.istore 5, 2) := by decide +kernel
theorem dX8_about_68 : decode cX8_about 68 = .ok (.iload 5, 2) := by decide +kernel
theorem dX8_about_70 : decode cX8_about 70 = .ok (.bipush (-3), 2) := by decide +kernel
theorem dX8_about_72 : decode cX8_about 72 = .ok (.if_icmp .ne 8, 3) := by decide +kernel
theorem dX8_about_75 : decode cX8_about 75 = .ok (.bipush (-3), 2) := by decide +kernel
theorem dX8_about_77 : decode cX8_about 77 = .ok (.goto 10, 3) := by decide +kernel
theorem dX8_about_80 : decode cX8_about 80 = .ok (.aload_n 0, 1) := by decide +kernel
theorem dX8_about_81 : decode cX8_about 81 = .ok (.getfield 57, 3) := by decide +kernel
theorem dX8_about_84 : decode cX8_about 84 = .ok (.iload 5, 2) := by decide +kernel
theorem dX8_about_86 : decode cX8_about 86 = .ok (.iaload, 1) := by decide +kernel
theorem dX8_about_87 : decode cX8_about 87 = .ok (.ireturn, 1) := by decide +kernel
theorem dX8_about_88 : decode cX8_about 88 = .ok (.iload_n 2, 1) := by decide +kernel
theorem dX8_about_89 : decode cX8_about 89 = .ok (.iconst 3, 1) := by decide +kernel
theorem dX8_about_90 : decode cX8_about 90 = .ok (.if_icmp .ne 26, 3) := by decide +kernel
theorem dX8_about_93 : decode cX8_about 93 = .ok (.aload_n 0, 1) := by decide +kernel
theorem dX8_about_94 : decode cX8_about 94 = .ok (.getfield 7, 3) := by decide +kernel
theorem dX8_about_97 : decode cX8_about 97 = .ok (.iload 4, 2) := by decide +kernel
theorem dX8_about_99 : decode cX8_about 99 = .ok (.iaload, 1) := by decide +kernel
theorem dX8_about_100 : decode cX8_about 100 = .ok (.iconst 4, 1) := by decide +kernel
theorem dX8_about_101 : decode cX8_about 101 = .ok (.if_icmp .ne 7, 3) := by decide +kernel
theorem dX8_about_104 : decode cX8_about 104 = .ok (.iconst 0, 1) := by decide +kernel
theorem dX8_about_105 : decode cX8_about 105 = .ok (.goto 10, 3) := by decide +kernel
theorem dX8_about_108 : decode cX8_about 108 = .ok (.aload_n 0, 1) := by decide +kernel
theorem dX8_about_109 : decode cX8_about 109 = .ok (.getfield 22, 3) := by decide +kernel
theorem dX8_about_112 : decode cX8_about 112 = .ok (.iload 4, 2) := by decide +kernel
theorem dX8_about_114 : decode cX8_about 114 = .ok (.iaload, 1) := by decide +kernel
theorem dX8_about_115 : decode cX8_about 115 = .ok (.ireturn, 1) := by decide +kernel
theorem dX8_about_116 : decode cX8_about 116 = .ok (.iconst 0, 1) := by decide +kernel
theorem dX8_about_117 : decode cX8_about 117 = .ok (.istore 5, 2) := by decide +kernel
theorem dX8_about_119 : decode cX8_about 119 = .ok (.iconst 0, 1) := by decide +kernel
theorem dX8_about_120 : decode cX8_about 120 = .ok (.istore 6, 2) := by decide +kernel
theorem dX8_about_122 : decode cX8_about 122 = .ok (.iload 6, 2) := by decide +kernel
theorem dX8_about_124 : decode cX8_about 124 = .ok (.bipush 12, 2) := by decide +kernel
theorem dX8_about_126 : decode cX8_about 126 = .ok (.if_icmp .ge 29, 3) := by decide +kernel
theorem dX8_about_129 : decode cX8_about 129 = .ok (.iload 5, 2) := by decide +kernel
theorem dX8_about_131 : decode cX8_about 131 = .ok (.aload_n 0, 1) := by decide +kernel
theorem dX8_about_132 : decode cX8_about 132 = .ok (.iload_n 3, 1) := by decide +kernel
theorem dX8_about_133 : decode cX8_about 133 = .ok (.iload 6, 2) := by decide +kernel
theorem dX8_about_135 : decode cX8_about 135 = .ok (.invokevirtual 122, 3) := by decide +kernel
theorem dX8_about_138 : decode cX8_about 138 = .ok (.ifCond .eq 7, 3) := by decide +kernel
theorem dX8_about_141 : decode cX8_about 141 = .ok (.iconst 1, 1) := by decide +kernel
theorem dX8_about_142 : decode cX8_about 142 = .ok (.goto 4, 3) := by decide +kernel
theorem dX8_about_145 : decode cX8_about 145 = .ok (.iconst 0, 1) := by decide +kernel
theorem dX8_about_146 : decode cX8_about 146 = .ok (.iadd, 1) := by decide +kernel
theorem dX8_about_147 : decode cX8_about 147 = .ok (.istore 5, 2) := by decide +kernel
theorem dX8_about_149 : decode cX8_about 149 = .ok (.iinc 6 1, 3) := by decide +kernel
theorem dX8_about_152 : decode cX8_about 152 = .ok (.goto (-30), 3) := by decide +kernel
theorem dX8_about_155 : decode cX8_about 155 = .ok (.iload 5, 2) := by decide +kernel
theorem dX8_about_157 : decode cX8_about 157 = .ok (.ireturn, 1) := by decide +kernel
theorem dX8_same_0 : decode cX8_same 0 = .ok (.iload_n 1, 1) := by decide +kernel
theorem dX8_same_1 : decode cX8_same 1 = .ok (.invokestatic 126, 3) := by decide +kernel
theorem dX8_same_4 : decode cX8_same 4 = .ok (.ifCond .eq 10, 3) := by decide +kernel
theorem dX8_same_7 : decode cX8_same 7 = .ok (.iload_n 2, 1) := by decide +kernel
theorem dX8_same_8 : decode cX8_same 8 = .ok (.invokestatic 126, 3) := by decide +kernel
theorem dX8_same_11 : decode cX8_same 11 = .ok (.ifCond .ne 7, 3) := by decide +kernel
theorem dX8_same_14 : decode cX8_same 14 = .ok (.iconst (-1), 1) := by decide +kernel
theorem dX8_same_15 : decode cX8_same 15 = .ok (.goto 23, 3) := by decide +kernel
theorem dX8_same_18 : decode cX8_same 18 = .ok (.aload_n 0, 1) := by decide +kernel
theorem dX8_same_19 : decode cX8_same 19 = .ok (.getfield 72, 3) := by decide +kernel
theorem dX8_same_22 : decode cX8_same 22 = .ok (.iload_n 1, 1) := by decide +kernel
theorem dX8_same_23 : decode cX8_same 23 = .ok (.iaload, 1) := by decide +kernel
theorem dX8_same_24 : decode cX8_same 24 = .ok (.aload_n 0, 1) := by decide +kernel
theorem dX8_same_25 : decode cX8_same 25 = .ok (.getfield 72, 3) := by decide +kernel
theorem dX8_same_28 : decode cX8_same 28 = .ok (.iload_n 2, 1) := by decide +kernel
theorem dX8_same_29 : decode cX8_same 29 = .ok (.iaload, 1) := by decide +kernel
theorem dX8_same_30 : decode cX8_same 30 = .ok (.if_icmp .ne 7, 3) := by decide +kernel
theorem dX8_same_33 : decode cX8_same 33 = .ok (.iconst 1, 1) := by decide +kernel
theorem dX8_same_34 : decode cX8_same 34 = .ok (.goto 4, 3) := by decide +kernel
theorem dX8_same_37 : decode cX8_same 37 = .ok (.iconst 0, 1) := by decide +kernel
theorem dX8_same_38 : decode cX8_same 38 = .ok (.ireturn, 1) := by decide +kernel
theorem dX8_told_0 : decode cX8_told 0 = .ok (.aload_n 0, 1) := by decide +kernel
theorem dX8_told_1 : decode cX8_told 1 = .ok (.iload_n 1, 1) := by decide +kernel
theorem dX8_told_2 : decode cX8_told 2 = .ok (.putfield 132, 3) := by decide +kernel
theorem dX8_told_5 : decode cX8_told 5 = .ok (.lconst 0, 1) := by decide +kernel
theorem dX8_told_6 : decode cX8_told 6 = .ok (.lreturn, 1) := by decide +kernel
theorem dX8_localOf_0 : decode cX8_localOf 0 = .ok (.bipush (-3), 2) := by decide +kernel
theorem dX8_localOf_2 : decode cX8_localOf 2 = .ok (.istore 4, 2) := by decide +kernel
theorem dX8_localOf_4 : decode cX8_localOf 4 = .ok (.iconst 0, 1) := by decide +kernel
theorem dX8_localOf_5 : decode cX8_localOf 5 = .ok (.istore 5, 2) := by decide +kernel
theorem dX8_localOf_7 : decode cX8_localOf 7 = .ok (.iload 5, 2) := by decide +kernel
theorem dX8_localOf_9 : decode cX8_localOf 9 = .ok (.iload_n 2, 1) := by decide +kernel
theorem dX8_localOf_10 : decode cX8_localOf 10 = .ok (.if_icmp .ge 33, 3) := by decide +kernel
theorem dX8_localOf_13 : decode cX8_localOf 13 = .ok (.aload_n 0, 1) := by decide +kernel
theorem dX8_localOf_14 : decode cX8_localOf 14 = .ok (.getfield 48, 3) := by decide +kernel
theorem dX8_localOf_17 : decode cX8_localOf 17 = .ok (.iconst 4, 1) := by decide +kernel
theorem dX8_localOf_18 : decode cX8_localOf 18 = .ok (.iload_n 1, 1) := by decide +kernel
theorem dX8_localOf_19 : decode cX8_localOf 19 = .ok (.imul, 1) := by decide +kernel
theorem dX8_localOf_20 : decode cX8_localOf 20 = .ok (.iload 5, 2) := by decide +kernel
theorem dX8_localOf_22 : decode cX8_localOf 22 = .ok (.iadd, 1) := by decide +kernel
theorem dX8_localOf_23 : decode cX8_localOf 23 = .ok (.iaload, 1) := by decide +kernel
theorem dX8_localOf_24 : decode cX8_localOf 24 = .ok (.iload_n 3, 1) := by decide +kernel
theorem dX8_localOf_25 : decode cX8_localOf 25 = .ok (.if_icmp .ne 8, 3) := by decide +kernel
theorem dX8_localOf_28 : decode cX8_localOf 28 = .ok (.iload 5, 2) := by decide +kernel
theorem dX8_localOf_30 : decode cX8_localOf 30 = .ok (.goto 5, 3) := by decide +kernel
theorem dX8_localOf_33 : decode cX8_localOf 33 = .ok (.iload 4, 2) := by decide +kernel
theorem dX8_localOf_35 : decode cX8_localOf 35 = .ok (.istore 4, 2) := by decide +kernel
theorem dX8_localOf_37 : decode cX8_localOf 37 = .ok (.iinc 5 1, 3) := by decide +kernel
theorem dX8_localOf_40 : decode cX8_localOf 40 = .ok (.goto (-33), 3) := by decide +kernel
theorem dX8_localOf_43 : decode cX8_localOf 43 = .ok (.iload 4, 2) := by decide +kernel
theorem dX8_localOf_45 : decode cX8_localOf 45 = .ok (.ireturn, 1) := by decide +kernel
theorem dX8_ofField_0 : decode cX8_ofField 0 = .ok (.aload_n 0, 1) := by decide +kernel
theorem dX8_ofField_1 : decode cX8_ofField 1 = .ok (.iconst 4, 1) := by decide +kernel
theorem dX8_ofField_2 : decode cX8_ofField 2 = .ok (.iload_n 1, 1) := by decide +kernel
theorem dX8_ofField_3 : decode cX8_ofField 3 = .ok (.imul, 1) := by decide +kernel
theorem dX8_ofField_4 : decode cX8_ofField 4 = .ok (.iload_n 2, 1) := by decide +kernel
theorem dX8_ofField_5 : decode cX8_ofField 5 = .ok (.iadd, 1) := by decide +kernel
theorem dX8_ofField_6 : decode cX8_ofField 6 = .ok (.putfield 146, 3) := by decide +kernel
theorem dX8_ofField_9 : decode cX8_ofField 9 = .ok (.aload_n 0, 1) := by decide +kernel
theorem dX8_ofField_10 : decode cX8_ofField 10 = .ok (.bipush (-3), 2) := by decide +kernel
theorem dX8_ofField_12 : decode cX8_ofField 12 = .ok (.putfield 149, 3) := by decide +kernel
theorem dX8_ofField_15 : decode cX8_ofField 15 = .ok (.aload_n 0, 1) := by decide +kernel
theorem dX8_ofField_16 : decode cX8_ofField 16 = .ok (.getfield 38, 3) := by decide +kernel
theorem dX8_ofField_19 : decode cX8_ofField 19 = .ok (.iconst 4, 1) := by decide +kernel
theorem dX8_ofField_20 : decode cX8_ofField 20 = .ok (.iload_n 1, 1) := by decide +kernel
theorem dX8_ofField_21 : decode cX8_ofField 21 = .ok (.imul, 1) := by decide +kernel
theorem dX8_ofField_22 : decode cX8_ofField 22 = .ok (.iload_n 2, 1) := by decide +kernel
theorem dX8_ofField_23 : decode cX8_ofField 23 = .ok (.iadd, 1) := by decide +kernel
theorem dX8_ofField_24 : decode cX8_ofField 24 = .ok (.baload, 1) := by decide +kernel
theorem dX8_ofField_25 : decode cX8_ofField 25 = .ok (.ifCond .eq 19, 3) := by decide +kernel
theorem dX8_ofField_28 : decode cX8_ofField 28 = .ok (.aload_n 0, 1) := by decide +kernel
theorem dX8_ofField_29 : decode cX8_ofField 29 = .ok (.iconst 0, 1) := by decide +kernel
theorem dX8_ofField_30 : decode cX8_ofField 30 = .ok (.putfield 132, 3) := by decide +kernel
theorem dX8_ofField_33 : decode cX8_ofField 33 = .ok (.aload_n 0, 1) := by decide +kernel
theorem dX8_ofField_34 : decode cX8_ofField 34 = .ok (.getfield 34, 3) := by decide +kernel
theorem dX8_ofField_37 : decode cX8_ofField 37 = .ok (.iconst 4, 1) := by decide +kernel
theorem dX8_ofField_38 : decode cX8_ofField 38 = .ok (.iload_n 1, 1) := by decide +kernel
theorem dX8_ofField_39 : decode cX8_ofField 39 = .ok (.imul, 1) := by decide +kernel
theorem dX8_ofField_40 : decode cX8_ofField 40 = .ok (.iload_n 2, 1) := by decide +kernel
theorem dX8_ofField_41 : decode cX8_ofField 41 = .ok (.iadd, 1) := by decide +kernel
theorem dX8_ofField_42 : decode cX8_ofField 42 = .ok (.laload, 1) := by decide +kernel
theorem dX8_ofField_43 : decode cX8_ofField 43 = .ok (.lreturn, 1) := by decide +kernel
theorem dX8_ofField_44 : decode cX8_ofField 44 = .ok (.iload_n 3, 1) := by decide +kernel
theorem dX8_ofField_45 : decode cX8_ofField 45 = .ok (.bipush (-3), 2) := by decide +kernel
theorem dX8_ofField_47 : decode cX8_ofField 47 = .ok (.if_icmp .ne 9, 3) := by decide +kernel
theorem dX8_ofField_50 : decode cX8_ofField 50 = .ok (.aload_n 0, 1) := by decide +kernel
theorem dX8_ofField_51 : decode cX8_ofField 51 = .ok (.iconst 4, 1) := by decide +kernel
theorem dX8_ofField_52 : decode cX8_ofField 52 = .ok (.invokevirtual 152, 3) := by decide +kernel
theorem dX8_ofField_55 : decode cX8_ofField 55 = .ok (.lreturn, 1) := by decide +kernel
theorem dX8_ofField_56 : decode cX8_ofField 56 = .ok (.iload_n 2, 1) := by decide +kernel
theorem dX8_ofField_57 : decode cX8_ofField 57 = .ok (.aload_n 0, 1) := by decide +kernel
theorem dX8_ofField_58 : decode cX8_ofField 58 = .ok (.getfield 60, 3) := by decide +kernel
theorem dX8_ofField_61 : decode cX8_ofField 61 = .ok (.bipush 12, 2) := by decide +kernel
theorem dX8_ofField_63 : decode cX8_ofField 63 = .ok (.iload_n 3, 1) := by decide +kernel
theorem dX8_ofField_64 : decode cX8_ofField 64 = .ok (.imul, 1) := by decide +kernel
theorem dX8_ofField_65 : decode cX8_ofField 65 = .ok (.iload_n 1, 1) := by decide +kernel
theorem dX8_ofField_66 : decode cX8_ofField 66 = .ok (.iadd, 1) := by decide +kernel
theorem dX8_ofField_67 : decode cX8_ofField 67 = .ok (.iaload, 1) := by decide +kernel
theorem dX8_ofField_68 : decode cX8_ofField 68 = .ok (.if_icmp .lt 9, 3) := by decide +kernel
theorem dX8_ofField_71 : decode cX8_ofField 71 = .ok (.aload_n 0, 1) := by decide +kernel
theorem dX8_ofField_72 : decode cX8_ofField 72 = .ok (.iconst 5, 1) := by decide +kernel
theorem dX8_ofField_73 : decode cX8_ofField 73 = .ok (.invokevirtual 152, 3) := by decide +kernel
theorem dX8_ofField_76 : decode cX8_ofField 76 = .ok (.lreturn, 1) := by decide +kernel
theorem dX8_ofField_77 : decode cX8_ofField 77 = .ok (.aload_n 0, 1) := by decide +kernel
theorem dX8_ofField_78 : decode cX8_ofField 78 = .ok (.iload_n 3, 1) := by decide +kernel
theorem dX8_ofField_79 : decode cX8_ofField 79 = .ok (.putfield 149, 3) := by decide +kernel
theorem dX8_ofField_82 : decode cX8_ofField 82 = .ok (.aload_n 0, 1) := by decide +kernel
theorem dX8_ofField_83 : decode cX8_ofField 83 = .ok (.iconst 0, 1) := by decide +kernel
theorem dX8_ofField_84 : decode cX8_ofField 84 = .ok (.putfield 132, 3) := by decide +kernel
theorem dX8_ofField_87 : decode cX8_ofField 87 = .ok (.aload_n 0, 1) := by decide +kernel
theorem dX8_ofField_88 : decode cX8_ofField 88 = .ok (.getfield 66, 3) := by decide +kernel
theorem dX8_ofField_91 : decode cX8_ofField 91 = .ok (.iconst 4, 1) := by decide +kernel
theorem dX8_ofField_92 : decode cX8_ofField 92 = .ok (.bipush 12, 2) := by decide +kernel
theorem dX8_ofField_94 : decode cX8_ofField 94 = .ok (.iload_n 3, 1) := by decide +kernel
theorem dX8_ofField_95 : decode cX8_ofField 95 = .ok (.imul, 1) := by decide +kernel
theorem dX8_ofField_96 : decode cX8_ofField 96 = .ok (.iload_n 1, 1) := by decide +kernel
theorem dX8_ofField_97 : decode cX8_ofField 97 = .ok (.iadd, 1) := by decide +kernel
theorem dX8_ofField_98 : decode cX8_ofField 98 = .ok (.imul, 1) := by decide +kernel
theorem dX8_ofField_99 : decode cX8_ofField 99 = .ok (.iload_n 2, 1) := by decide +kernel
theorem dX8_ofField_100 : decode cX8_ofField 100 = .ok (.iadd, 1) := by decide +kernel
theorem dX8_ofField_101 : decode cX8_ofField 101 = .ok (.laload, 1) := by decide +kernel
theorem dX8_ofField_102 : decode cX8_ofField 102 = .ok (.lreturn, 1) := by decide +kernel
theorem dX8_ofLocal_0 : decode cX8_ofLocal 0 = .ok (.iconst 4, 1) := by decide +kernel
theorem dX8_ofLocal_1 : decode cX8_ofLocal 1 = .ok (.aload_n 0, 1) := by decide +kernel
theorem dX8_ofLocal_2 : decode cX8_ofLocal 2 = .ok (.getfield 13, 3) := by decide +kernel
theorem dX8_ofLocal_5 : decode cX8_ofLocal 5 = .ok (.iload_n 1, 1) := by decide +kernel
theorem dX8_ofLocal_6 : decode cX8_ofLocal 6 = .ok (.iaload, 1) := by decide +kernel
theorem dX8_ofLocal_7 : decode cX8_ofLocal 7 = .ok (.imul, 1) := by decide +kernel
theorem dX8_ofLocal_8 : decode cX8_ofLocal 8 = .ok (.iload_n 2, 1) := by decide +kernel
theorem dX8_ofLocal_9 : decode cX8_ofLocal 9 = .ok (.iadd, 1) := by decide +kernel
theorem dX8_ofLocal_10 : decode cX8_ofLocal 10 = .ok (.istore 5, 2) := by decide +kernel
theorem dX8_ofLocal_12 : decode cX8_ofLocal 12 = .ok (.aload_n 0, 1) := by decide +kernel
theorem dX8_ofLocal_13 : decode cX8_ofLocal 13 = .ok (.getfield 7, 3) := by decide +kernel
theorem dX8_ofLocal_16 : decode cX8_ofLocal 16 = .ok (.iload_n 1, 1) := by decide +kernel
theorem dX8_ofLocal_17 : decode cX8_ofLocal 17 = .ok (.iaload, 1) := by decide +kernel
theorem dX8_ofLocal_18 : decode cX8_ofLocal 18 = .ok (.iconst 4, 1) := by decide +kernel
theorem dX8_ofLocal_19 : decode cX8_ofLocal 19 = .ok (.if_icmp .ne 10, 3) := by decide +kernel
theorem dX8_ofLocal_22 : decode cX8_ofLocal 22 = .ok (.aload_n 0, 1) := by decide +kernel
theorem dX8_ofLocal_23 : decode cX8_ofLocal 23 = .ok (.bipush 6, 2) := by decide +kernel
theorem dX8_ofLocal_25 : decode cX8_ofLocal 25 = .ok (.invokevirtual 152, 3) := by decide +kernel
theorem dX8_ofLocal_28 : decode cX8_ofLocal 28 = .ok (.lreturn, 1) := by decide +kernel
theorem dX8_ofLocal_29 : decode cX8_ofLocal 29 = .ok (.aload_n 0, 1) := by decide +kernel
theorem dX8_ofLocal_30 : decode cX8_ofLocal 30 = .ok (.getfield 54, 3) := by decide +kernel
theorem dX8_ofLocal_33 : decode cX8_ofLocal 33 = .ok (.iload 5, 2) := by decide +kernel
theorem dX8_ofLocal_35 : decode cX8_ofLocal 35 = .ok (.baload, 1) := by decide +kernel
theorem dX8_ofLocal_36 : decode cX8_ofLocal 36 = .ok (.ifCond .eq 10, 3) := by decide +kernel
theorem dX8_ofLocal_39 : decode cX8_ofLocal 39 = .ok (.aload_n 0, 1) := by decide +kernel
theorem dX8_ofLocal_40 : decode cX8_ofLocal 40 = .ok (.bipush 7, 2) := by decide +kernel
theorem dX8_ofLocal_42 : decode cX8_ofLocal 42 = .ok (.invokevirtual 152, 3) := by decide +kernel
theorem dX8_ofLocal_45 : decode cX8_ofLocal 45 = .ok (.lreturn, 1) := by decide +kernel
theorem dX8_ofLocal_46 : decode cX8_ofLocal 46 = .ok (.iload_n 3, 1) := by decide +kernel
theorem dX8_ofLocal_47 : decode cX8_ofLocal 47 = .ok (.bipush (-3), 2) := by decide +kernel
theorem dX8_ofLocal_49 : decode cX8_ofLocal 49 = .ok (.if_icmp .ne 9, 3) := by decide +kernel
theorem dX8_ofLocal_52 : decode cX8_ofLocal 52 = .ok (.aload_n 0, 1) := by decide +kernel
theorem dX8_ofLocal_53 : decode cX8_ofLocal 53 = .ok (.iconst 4, 1) := by decide +kernel
theorem dX8_ofLocal_54 : decode cX8_ofLocal 54 = .ok (.invokevirtual 152, 3) := by decide +kernel
theorem dX8_ofLocal_57 : decode cX8_ofLocal 57 = .ok (.lreturn, 1) := by decide +kernel
theorem dX8_ofLocal_58 : decode cX8_ofLocal 58 = .ok (.aload_n 0, 1) := by decide +kernel
theorem dX8_ofLocal_59 : decode cX8_ofLocal 59 = .ok (.iload_n 3, 1) := by decide +kernel
theorem dX8_ofLocal_60 : decode cX8_ofLocal 60 = .ok (.iload_n 1, 1) := by decide +kernel
theorem dX8_ofLocal_61 : decode cX8_ofLocal 61 = .ok (.invokevirtual 122, 3) := by decide +kernel
theorem dX8_ofLocal_64 : decode cX8_ofLocal 64 = .ok (.ifCond .ne 9, 3) := by decide +kernel
theorem dX8_ofLocal_67 : decode cX8_ofLocal 67 = .ok (.aload_n 0, 1) := by decide +kernel
theorem dX8_ofLocal_68 : decode cX8_ofLocal 68 = .ok (.iconst 5, 1) := by decide +kernel
theorem dX8_ofLocal_69 : decode cX8_ofLocal 69 = .ok (.invokevirtual 152, 3) := by decide +kernel
theorem dX8_ofLocal_72 : decode cX8_ofLocal 72 = .ok (.lreturn, 1) := by decide +kernel
theorem dX8_ofLocal_73 : decode cX8_ofLocal 73 = .ok (.iload 4, 2) := by decide +kernel
theorem dX8_ofLocal_75 : decode cX8_ofLocal 75 = .ok (.ifCond .eq 10, 3) := by decide +kernel
theorem dX8_ofLocal_78 : decode cX8_ofLocal 78 = .ok (.aload_n 0, 1) := by decide +kernel
theorem dX8_ofLocal_79 : decode cX8_ofLocal 79 = .ok (.bipush 7, 2) := by decide +kernel
theorem dX8_ofLocal_81 : decode cX8_ofLocal 81 = .ok (.invokevirtual 152, 3) := by decide +kernel
theorem dX8_ofLocal_84 : decode cX8_ofLocal 84 = .ok (.lreturn, 1) := by decide +kernel
theorem dX8_ofLocal_85 : decode cX8_ofLocal 85 = .ok (.aload_n 0, 1) := by decide +kernel
theorem dX8_ofLocal_86 : decode cX8_ofLocal 86 = .ok (.iconst 0, 1) := by decide +kernel
theorem dX8_ofLocal_87 : decode cX8_ofLocal 87 = .ok (.putfield 132, 3) := by decide +kernel
theorem dX8_ofLocal_90 : decode cX8_ofLocal 90 = .ok (.aload_n 0, 1) := by decide +kernel
theorem dX8_ofLocal_91 : decode cX8_ofLocal 91 = .ok (.getfield 69, 3) := by decide +kernel
theorem dX8_ofLocal_94 : decode cX8_ofLocal 94 = .ok (.iconst 4, 1) := by decide +kernel
theorem dX8_ofLocal_95 : decode cX8_ofLocal 95 = .ok (.bipush 12, 2) := by decide +kernel
theorem dX8_ofLocal_97 : decode cX8_ofLocal 97 = .ok (.iload_n 3, 1) := by decide +kernel
theorem dX8_ofLocal_98 : decode cX8_ofLocal 98 = .ok (.imul, 1) := by decide +kernel
theorem dX8_ofLocal_99 : decode cX8_ofLocal 99 = .ok (.iload_n 1, 1) := by decide +kernel
theorem dX8_ofLocal_100 : decode cX8_ofLocal 100 = .ok (.iadd, 1) := by decide +kernel
theorem dX8_ofLocal_101 : decode cX8_ofLocal 101 = .ok (.imul, 1) := by decide +kernel
theorem dX8_ofLocal_102 : decode cX8_ofLocal 102 = .ok (.iload_n 2, 1) := by decide +kernel
theorem dX8_ofLocal_103 : decode cX8_ofLocal 103 = .ok (.iadd, 1) := by decide +kernel
theorem dX8_ofLocal_104 : decode cX8_ofLocal 104 = .ok (.laload, 1) := by decide +kernel
theorem dX8_ofLocal_105 : decode cX8_ofLocal 105 = .ok (.lreturn, 1) := by decide +kernel
theorem dX8_find_0 : decode cX8_find 0 = .ok (.iload_n 1, 1) := by decide +kernel
theorem dX8_find_1 : decode cX8_find 1 = .ok (.istore 5, 2) := by decide +kernel
theorem dX8_find_3 : decode cX8_find 3 = .ok (.iload_n 2, 1) := by decide +kernel
theorem dX8_find_4 : decode cX8_find 4 = .ok (.istore 6, 2) := by decide +kernel
theorem dX8_find_6 : decode cX8_find 6 = .ok (.aload_n 0, 1) := by decide +kernel
theorem dX8_find_7 : decode cX8_find 7 = .ok (.bipush (-3), 2) := by decide +kernel
theorem dX8_find_9 : decode cX8_find 9 = .ok (.putfield 146, 3) := by decide +kernel
theorem dX8_find_12 : decode cX8_find 12 = .ok (.iload 5, 2) := by decide +kernel
theorem dX8_find_14 : decode cX8_find 14 = .ok (.bipush (-3), 2) := by decide +kernel
theorem dX8_find_16 : decode cX8_find 16 = .ok (.if_icmp .eq 156, 3) := by decide +kernel
theorem dX8_find_19 : decode cX8_find 19 = .ok (.iload 5, 2) := by decide +kernel
theorem dX8_find_21 : decode cX8_find 21 = .ok (.istore 7, 2) := by decide +kernel
theorem dX8_find_23 : decode cX8_find 23 = .ok (.iload 7, 2) := by decide +kernel
theorem dX8_find_25 : decode cX8_find 25 = .ok (.bipush (-3), 2) := by decide +kernel
theorem dX8_find_27 : decode cX8_find 27 = .ok (.if_icmp .eq 40, 3) := by decide +kernel
theorem dX8_find_30 : decode cX8_find 30 = .ok (.aload_n 0, 1) := by decide +kernel
theorem dX8_find_31 : decode cX8_find 31 = .ok (.iload 7, 2) := by decide +kernel
theorem dX8_find_33 : decode cX8_find 33 = .ok (.iload_n 3, 1) := by decide +kernel
theorem dX8_find_34 : decode cX8_find 34 = .ok (.invokevirtual 111, 3) := by decide +kernel
theorem dX8_find_37 : decode cX8_find 37 = .ok (.istore 8, 2) := by decide +kernel
theorem dX8_find_39 : decode cX8_find 39 = .ok (.iload 8, 2) := by decide +kernel
theorem dX8_find_41 : decode cX8_find 41 = .ok (.ifCond .lt 14, 3) := by decide +kernel
theorem dX8_find_44 : decode cX8_find 44 = .ok (.aload_n 0, 1) := by decide +kernel
theorem dX8_find_45 : decode cX8_find 45 = .ok (.iload 7, 2) := by decide +kernel
theorem dX8_find_47 : decode cX8_find 47 = .ok (.iload 8, 2) := by decide +kernel
theorem dX8_find_49 : decode cX8_find 49 = .ok (.iload 6, 2) := by decide +kernel
theorem dX8_find_51 : decode cX8_find 51 = .ok (.invokevirtual 156, 3) := by decide +kernel
theorem dX8_find_54 : decode cX8_find 54 = .ok (.lreturn, 1) := by decide +kernel
theorem dX8_find_55 : decode cX8_find 55 = .ok (.aload_n 0, 1) := by decide +kernel
theorem dX8_find_56 : decode cX8_find 56 = .ok (.getfield 25, 3) := by decide +kernel
theorem dX8_find_59 : decode cX8_find 59 = .ok (.iload 7, 2) := by decide +kernel
theorem dX8_find_61 : decode cX8_find 61 = .ok (.iaload, 1) := by decide +kernel
theorem dX8_find_62 : decode cX8_find 62 = .ok (.istore 7, 2) := by decide +kernel
theorem dX8_find_64 : decode cX8_find 64 = .ok (.goto (-41), 3) := by decide +kernel
theorem dX8_find_67 : decode cX8_find 67 = .ok (.aload_n 0, 1) := by decide +kernel
theorem dX8_find_68 : decode cX8_find 68 = .ok (.getfield 7, 3) := by decide +kernel
theorem dX8_find_71 : decode cX8_find 71 = .ok (.iload 5, 2) := by decide +kernel
theorem dX8_find_73 : decode cX8_find 73 = .ok (.iaload, 1) := by decide +kernel
theorem dX8_find_74 : decode cX8_find 74 = .ok (.invokestatic 105, 3) := by decide +kernel
theorem dX8_find_77 : decode cX8_find 77 = .ok (.ifCond .eq 25, 3) := by decide +kernel
theorem dX8_find_80 : decode cX8_find 80 = .ok (.aload_n 0, 1) := by decide +kernel
theorem dX8_find_81 : decode cX8_find 81 = .ok (.aload_n 0, 1) := by decide +kernel
theorem dX8_find_82 : decode cX8_find 82 = .ok (.getfield 13, 3) := by decide +kernel
theorem dX8_find_85 : decode cX8_find 85 = .ok (.iload 5, 2) := by decide +kernel
theorem dX8_find_87 : decode cX8_find 87 = .ok (.iaload, 1) := by decide +kernel
theorem dX8_find_88 : decode cX8_find 88 = .ok (.aload_n 0, 1) := by decide +kernel
theorem dX8_find_89 : decode cX8_find 89 = .ok (.getfield 22, 3) := by decide +kernel
theorem dX8_find_92 : decode cX8_find 92 = .ok (.iload 5, 2) := by decide +kernel
theorem dX8_find_94 : decode cX8_find 94 = .ok (.iaload, 1) := by decide +kernel
theorem dX8_find_95 : decode cX8_find 95 = .ok (.iload_n 3, 1) := by decide +kernel
theorem dX8_find_96 : decode cX8_find 96 = .ok (.invokevirtual 160, 3) := by decide +kernel
theorem dX8_find_99 : decode cX8_find 99 = .ok (.goto 5, 3) := by decide +kernel
theorem dX8_find_102 : decode cX8_find 102 = .ok (.bipush (-3), 2) := by decide +kernel
theorem dX8_find_104 : decode cX8_find 104 = .ok (.istore 7, 2) := by decide +kernel
theorem dX8_find_106 : decode cX8_find 106 = .ok (.iload 7, 2) := by decide +kernel
theorem dX8_find_108 : decode cX8_find 108 = .ok (.ifCond .lt 16, 3) := by decide +kernel
theorem dX8_find_111 : decode cX8_find 111 = .ok (.aload_n 0, 1) := by decide +kernel
theorem dX8_find_112 : decode cX8_find 112 = .ok (.iload 5, 2) := by decide +kernel
theorem dX8_find_114 : decode cX8_find 114 = .ok (.iload 7, 2) := by decide +kernel
theorem dX8_find_116 : decode cX8_find 116 = .ok (.iload 6, 2) := by decide +kernel
theorem dX8_find_118 : decode cX8_find 118 = .ok (.iload 4, 2) := by decide +kernel
theorem dX8_find_120 : decode cX8_find 120 = .ok (.invokevirtual 163, 3) := by decide +kernel
theorem dX8_find_123 : decode cX8_find 123 = .ok (.lreturn, 1) := by decide +kernel
theorem dX8_find_124 : decode cX8_find 124 = .ok (.iload 6, 2) := by decide +kernel
theorem dX8_find_126 : decode cX8_find 126 = .ok (.bipush (-3), 2) := by decide +kernel
theorem dX8_find_128 : decode cX8_find 128 = .ok (.if_icmp .eq 12, 3) := by decide +kernel
theorem dX8_find_131 : decode cX8_find 131 = .ok (.aload_n 0, 1) := by decide +kernel
theorem dX8_find_132 : decode cX8_find 132 = .ok (.iload 5, 2) := by decide +kernel
theorem dX8_find_134 : decode cX8_find 134 = .ok (.invokevirtual 129, 3) := by decide +kernel
theorem dX8_find_137 : decode cX8_find 137 = .ok (.ifCond .ne 8, 3) := by decide +kernel
theorem dX8_find_140 : decode cX8_find 140 = .ok (.bipush (-3), 2) := by decide +kernel
theorem dX8_find_142 : decode cX8_find 142 = .ok (.goto 16, 3) := by decide +kernel
theorem dX8_find_145 : decode cX8_find 145 = .ok (.aload_n 0, 1) := by decide +kernel
theorem dX8_find_146 : decode cX8_find 146 = .ok (.getfield 63, 3) := by decide +kernel
theorem dX8_find_149 : decode cX8_find 149 = .ok (.bipush 12, 2) := by decide +kernel
theorem dX8_find_151 : decode cX8_find 151 = .ok (.iload 6, 2) := by decide +kernel
theorem dX8_find_153 : decode cX8_find 153 = .ok (.imul, 1) := by decide +kernel
theorem dX8_find_154 : decode cX8_find 154 = .ok (.iload 5, 2) := by decide +kernel
theorem dX8_find_156 : decode cX8_find 156 = .ok (.iadd, 1) := by decide +kernel
theorem dX8_find_157 : decode cX8_find 157 = .ok (.iaload, 1) := by decide +kernel
theorem dX8_find_158 : decode cX8_find 158 = .ok (.istore 6, 2) := by decide +kernel
theorem dX8_find_160 : decode cX8_find 160 = .ok (.aload_n 0, 1) := by decide +kernel
theorem dX8_find_161 : decode cX8_find 161 = .ok (.getfield 13, 3) := by decide +kernel
theorem dX8_find_164 : decode cX8_find 164 = .ok (.iload 5, 2) := by decide +kernel
theorem dX8_find_166 : decode cX8_find 166 = .ok (.iaload, 1) := by decide +kernel
theorem dX8_find_167 : decode cX8_find 167 = .ok (.istore 5, 2) := by decide +kernel
theorem dX8_find_169 : decode cX8_find 169 = .ok (.goto (-157), 3) := by decide +kernel
theorem dX8_find_172 : decode cX8_find 172 = .ok (.aload_n 0, 1) := by decide +kernel
theorem dX8_find_173 : decode cX8_find 173 = .ok (.bipush 8, 2) := by decide +kernel
theorem dX8_find_175 : decode cX8_find 175 = .ok (.invokevirtual 152, 3) := by decide +kernel
theorem dX8_find_178 : decode cX8_find 178 = .ok (.lreturn, 1) := by decide +kernel
theorem dX8_see_0 : decode cX8_see 0 = .ok (.iload_n 1, 1) := by decide +kernel
theorem dX8_see_1 : decode cX8_see 1 = .ok (.invokestatic 126, 3) := by decide +kernel
theorem dX8_see_4 : decode cX8_see 4 = .ok (.ifCond .eq 10, 3) := by decide +kernel
theorem dX8_see_7 : decode cX8_see 7 = .ok (.iload_n 2, 1) := by decide +kernel
theorem dX8_see_8 : decode cX8_see 8 = .ok (.invokestatic 108, 3) := by decide +kernel
theorem dX8_see_11 : decode cX8_see 11 = .ok (.ifCond .ne 9, 3) := by decide +kernel
theorem dX8_see_14 : decode cX8_see 14 = .ok (.aload_n 0, 1) := by decide +kernel
theorem dX8_see_15 : decode cX8_see 15 = .ok (.iconst (-1), 1) := by decide +kernel
theorem dX8_see_16 : decode cX8_see 16 = .ok (.invokevirtual 152, 3) := by decide +kernel
theorem dX8_see_19 : decode cX8_see 19 = .ok (.lreturn, 1) := by decide +kernel
theorem dX8_see_20 : decode cX8_see 20 = .ok (.aload_n 0, 1) := by decide +kernel
theorem dX8_see_21 : decode cX8_see 21 = .ok (.getfield 72, 3) := by decide +kernel
theorem dX8_see_24 : decode cX8_see 24 = .ok (.iload_n 1, 1) := by decide +kernel
theorem dX8_see_25 : decode cX8_see 25 = .ok (.iaload, 1) := by decide +kernel
theorem dX8_see_26 : decode cX8_see 26 = .ok (.istore_n 3, 1) := by decide +kernel
theorem dX8_see_27 : decode cX8_see 27 = .ok (.iload_n 3, 1) := by decide +kernel
theorem dX8_see_28 : decode cX8_see 28 = .ok (.bipush (-3), 2) := by decide +kernel
theorem dX8_see_30 : decode cX8_see 30 = .ok (.if_icmp .ne 12, 3) := by decide +kernel
theorem dX8_see_33 : decode cX8_see 33 = .ok (.aload_n 0, 1) := by decide +kernel
theorem dX8_see_34 : decode cX8_see 34 = .ok (.bipush 9, 2) := by decide +kernel
theorem dX8_see_36 : decode cX8_see 36 = .ok (.invokevirtual 152, 3) := by decide +kernel
theorem dX8_see_39 : decode cX8_see 39 = .ok (.goto 16, 3) := by decide +kernel
theorem dX8_see_42 : decode cX8_see 42 = .ok (.aload_n 0, 1) := by decide +kernel
theorem dX8_see_43 : decode cX8_see 43 = .ok (.aload_n 0, 1) := by decide +kernel
theorem dX8_see_44 : decode cX8_see 44 = .ok (.getfield 57, 3) := by decide +kernel
theorem dX8_see_47 : decode cX8_see 47 = .ok (.iload_n 3, 1) := by decide +kernel
theorem dX8_see_48 : decode cX8_see 48 = .ok (.iaload, 1) := by decide +kernel
theorem dX8_see_49 : decode cX8_see 49 = .ok (.iload_n 3, 1) := by decide +kernel
theorem dX8_see_50 : decode cX8_see 50 = .ok (.iload_n 2, 1) := by decide +kernel
theorem dX8_see_51 : decode cX8_see 51 = .ok (.iconst 0, 1) := by decide +kernel
theorem dX8_see_52 : decode cX8_see 52 = .ok (.invokevirtual 167, 3) := by decide +kernel
theorem dX8_see_55 : decode cX8_see 55 = .ok (.lreturn, 1) := by decide +kernel
theorem dX8_put__0 : decode cX8_put_ 0 = .ok (.iload_n 1, 1) := by decide +kernel
theorem dX8_put__1 : decode cX8_put_ 1 = .ok (.invokestatic 126, 3) := by decide +kernel
theorem dX8_put__4 : decode cX8_put_ 4 = .ok (.ifCond .eq 10, 3) := by decide +kernel
theorem dX8_put__7 : decode cX8_put_ 7 = .ok (.iload_n 2, 1) := by decide +kernel
theorem dX8_put__8 : decode cX8_put_ 8 = .ok (.invokestatic 108, 3) := by decide +kernel
theorem dX8_put__11 : decode cX8_put_ 11 = .ok (.ifCond .ne 10, 3) := by decide +kernel
theorem dX8_put__14 : decode cX8_put_ 14 = .ok (.aload_n 0, 1) := by decide +kernel
theorem dX8_put__15 : decode cX8_put_ 15 = .ok (.iconst (-1), 1) := by decide +kernel
theorem dX8_put__16 : decode cX8_put_ 16 = .ok (.putfield 132, 3) := by decide +kernel
theorem dX8_put__19 : decode cX8_put_ 19 = .ok (.iconst (-1), 1) := by decide +kernel
theorem dX8_put__20 : decode cX8_put_ 20 = .ok (.ireturn, 1) := by decide +kernel
theorem dX8_put__21 : decode cX8_put_ 21 = .ok (.aload_n 0, 1) := by decide +kernel
theorem dX8_put__22 : decode cX8_put_ 22 = .ok (.getfield 72, 3) := by decide +kernel
theorem dX8_put__25 : decode cX8_put_ 25 = .ok (.iload_n 1, 1) := by decide +kernel
theorem dX8_put__26 : decode cX8_put_ 26 = .ok (.iaload, 1) := by decide +kernel
theorem dX8_put__27 : decode cX8_put_ 27 = .ok (.istore 5, 2) := by decide +kernel
theorem dX8_put__29 : decode cX8_put_ 29 = .ok (.iload 5, 2) := by decide +kernel
theorem dX8_put__31 : decode cX8_put_ 31 = .ok (.bipush (-3), 2) := by decide +kernel
theorem dX8_put__33 : decode cX8_put_ 33 = .ok (.if_icmp .ne 12, 3) := by decide +kernel
theorem dX8_put__36 : decode cX8_put_ 36 = .ok (.aload_n 0, 1) := by decide +kernel
theorem dX8_put__37 : decode cX8_put_ 37 = .ok (.bipush 9, 2) := by decide +kernel
theorem dX8_put__39 : decode cX8_put_ 39 = .ok (.putfield 132, 3) := by decide +kernel
theorem dX8_put__42 : decode cX8_put_ 42 = .ok (.bipush 9, 2) := by decide +kernel
theorem dX8_put__44 : decode cX8_put_ 44 = .ok (.ireturn, 1) := by decide +kernel
theorem dX8_put__45 : decode cX8_put_ 45 = .ok (.aload_n 0, 1) := by decide +kernel
theorem dX8_put__46 : decode cX8_put_ 46 = .ok (.aload_n 0, 1) := by decide +kernel
theorem dX8_put__47 : decode cX8_put_ 47 = .ok (.getfield 57, 3) := by decide +kernel
theorem dX8_put__50 : decode cX8_put_ 50 = .ok (.iload 5, 2) := by decide +kernel
theorem dX8_put__52 : decode cX8_put_ 52 = .ok (.iaload, 1) := by decide +kernel
theorem dX8_put__53 : decode cX8_put_ 53 = .ok (.iload 5, 2) := by decide +kernel
theorem dX8_put__55 : decode cX8_put_ 55 = .ok (.iload_n 2, 1) := by decide +kernel
theorem dX8_put__56 : decode cX8_put_ 56 = .ok (.iconst 1, 1) := by decide +kernel
theorem dX8_put__57 : decode cX8_put_ 57 = .ok (.invokevirtual 167, 3) := by decide +kernel
theorem dX8_put__60 : decode cX8_put_ 60 = .ok (.lstore 6, 2) := by decide +kernel
theorem dX8_put__62 : decode cX8_put_ 62 = .ok (.aload_n 0, 1) := by decide +kernel
theorem dX8_put__63 : decode cX8_put_ 63 = .ok (.getfield 132, 3) := by decide +kernel
theorem dX8_put__66 : decode cX8_put_ 66 = .ok (.ifCond .ne 25, 3) := by decide +kernel
theorem dX8_put__69 : decode cX8_put_ 69 = .ok (.aload_n 0, 1) := by decide +kernel
theorem dX8_put__70 : decode cX8_put_ 70 = .ok (.getfield 149, 3) := by decide +kernel
theorem dX8_put__73 : decode cX8_put_ 73 = .ok (.bipush (-3), 2) := by decide +kernel
theorem dX8_put__75 : decode cX8_put_ 75 = .ok (.if_icmp .ne 16, 3) := by decide +kernel
theorem dX8_put__78 : decode cX8_put_ 78 = .ok (.aload_n 0, 1) := by decide +kernel
theorem dX8_put__79 : decode cX8_put_ 79 = .ok (.getfield 34, 3) := by decide +kernel
theorem dX8_put__82 : decode cX8_put_ 82 = .ok (.aload_n 0, 1) := by decide +kernel
theorem dX8_put__83 : decode cX8_put_ 83 = .ok (.getfield 146, 3) := by decide +kernel
theorem dX8_put__86 : decode cX8_put_ 86 = .ok (.lload_n 3, 1) := by decide +kernel
theorem dX8_put__87 : decode cX8_put_ 87 = .ok (.lastore, 1) := by decide +kernel
theorem dX8_put__88 : decode cX8_put_ 88 = .ok (.goto 39, 3) := by decide +kernel
theorem dX8_put__91 : decode cX8_put_ 91 = .ok (.aload_n 0, 1) := by decide +kernel
theorem dX8_put__92 : decode cX8_put_ 92 = .ok (.getfield 132, 3) := by decide +kernel
theorem dX8_put__95 : decode cX8_put_ 95 = .ok (.ifCond .ne 32, 3) := by decide +kernel
theorem dX8_put__98 : decode cX8_put_ 98 = .ok (.aload_n 0, 1) := by decide +kernel
theorem dX8_put__99 : decode cX8_put_ 99 = .ok (.getfield 66, 3) := by decide +kernel
theorem dX8_put__102 : decode cX8_put_ 102 = .ok (.iconst 4, 1) := by decide +kernel
theorem dX8_put__103 : decode cX8_put_ 103 = .ok (.bipush 12, 2) := by decide +kernel
theorem dX8_put__105 : decode cX8_put_ 105 = .ok (.aload_n 0, 1) := by decide +kernel
theorem dX8_put__106 : decode cX8_put_ 106 = .ok (.getfield 149, 3) := by decide +kernel
theorem dX8_put__109 : decode cX8_put_ 109 = .ok (.imul, 1) := by decide +kernel
theorem dX8_put__110 : decode cX8_put_ 110 = .ok (.aload_n 0, 1) := by decide +kernel
theorem dX8_put__111 : decode cX8_put_ 111 = .ok (.getfield 146, 3) := by decide +kernel
theorem dX8_put__114 : decode cX8_put_ 114 = .ok (.iconst 4, 1) := by decide +kernel
theorem dX8_put__115 : decode cX8_put_ 115 = .ok (.idiv, 1) := by decide +kernel
theorem dX8_put__116 : decode cX8_put_ 116 = .ok (.iadd, 1) := by decide +kernel
theorem dX8_put__117 : decode cX8_put_ 117 = .ok (.imul, 1) := by decide +kernel
theorem dX8_put__118 : decode cX8_put_ 118 = .ok (.aload_n 0, 1) := by decide +kernel
theorem dX8_put__119 : decode cX8_put_ 119 = .ok (.getfield 146, 3) := by decide +kernel
theorem dX8_put__122 : decode cX8_put_ 122 = .ok (.iconst 4, 1) := by decide +kernel
theorem dX8_put__123 : decode cX8_put_ 123 = .ok (.irem, 1) := by decide +kernel
theorem dX8_put__124 : decode cX8_put_ 124 = .ok (.iadd, 1) := by decide +kernel
theorem dX8_put__125 : decode cX8_put_ 125 = .ok (.lload_n 3, 1) := by decide +kernel
theorem dX8_put__126 : decode cX8_put_ 126 = .ok (.lastore, 1) := by decide +kernel
theorem dX8_put__127 : decode cX8_put_ 127 = .ok (.aload_n 0, 1) := by decide +kernel
theorem dX8_put__128 : decode cX8_put_ 128 = .ok (.getfield 132, 3) := by decide +kernel
theorem dX8_put__131 : decode cX8_put_ 131 = .ok (.ireturn, 1) := by decide +kernel
theorem dX8_that_0 : decode cX8_that 0 = .ok (.iload_n 1, 1) := by decide +kernel
theorem dX8_that_1 : decode cX8_that 1 = .ok (.invokestatic 126, 3) := by decide +kernel
theorem dX8_that_4 : decode cX8_that 4 = .ok (.ifCond .eq 18, 3) := by decide +kernel
theorem dX8_that_7 : decode cX8_that 7 = .ok (.aload_n 0, 1) := by decide +kernel
theorem dX8_that_8 : decode cX8_that 8 = .ok (.iload_n 2, 1) := by decide +kernel
theorem dX8_that_9 : decode cX8_that 9 = .ok (.invokevirtual 98, 3) := by decide +kernel
theorem dX8_that_12 : decode cX8_that 12 = .ok (.ifCond .eq 10, 3) := by decide +kernel
theorem dX8_that_15 : decode cX8_that 15 = .ok (.iload_n 3, 1) := by decide +kernel
theorem dX8_that_16 : decode cX8_that 16 = .ok (.invokestatic 126, 3) := by decide +kernel
theorem dX8_that_19 : decode cX8_that 19 = .ok (.ifCond .ne 10, 3) := by decide +kernel
theorem dX8_that_22 : decode cX8_that 22 = .ok (.aload_n 0, 1) := by decide +kernel
theorem dX8_that_23 : decode cX8_that 23 = .ok (.iconst (-1), 1) := by decide +kernel
theorem dX8_that_24 : decode cX8_that 24 = .ok (.putfield 132, 3) := by decide +kernel
theorem dX8_that_27 : decode cX8_that 27 = .ok (.iconst (-1), 1) := by decide +kernel
theorem dX8_that_28 : decode cX8_that 28 = .ok (.ireturn, 1) := by decide +kernel
theorem dX8_that_29 : decode cX8_that 29 = .ok (.aload_n 0, 1) := by decide +kernel
theorem dX8_that_30 : decode cX8_that 30 = .ok (.getfield 72, 3) := by decide +kernel
theorem dX8_that_33 : decode cX8_that 33 = .ok (.iload_n 1, 1) := by decide +kernel
theorem dX8_that_34 : decode cX8_that 34 = .ok (.iaload, 1) := by decide +kernel
theorem dX8_that_35 : decode cX8_that 35 = .ok (.istore 4, 2) := by decide +kernel
theorem dX8_that_37 : decode cX8_that 37 = .ok (.iload 4, 2) := by decide +kernel
theorem dX8_that_39 : decode cX8_that 39 = .ok (.bipush (-3), 2) := by decide +kernel
theorem dX8_that_41 : decode cX8_that 41 = .ok (.if_icmp .ne 12, 3) := by decide +kernel
theorem dX8_that_44 : decode cX8_that 44 = .ok (.aload_n 0, 1) := by decide +kernel
theorem dX8_that_45 : decode cX8_that 45 = .ok (.bipush 9, 2) := by decide +kernel
theorem dX8_that_47 : decode cX8_that 47 = .ok (.putfield 132, 3) := by decide +kernel
theorem dX8_that_50 : decode cX8_that 50 = .ok (.bipush 9, 2) := by decide +kernel
theorem dX8_that_52 : decode cX8_that 52 = .ok (.ireturn, 1) := by decide +kernel
theorem dX8_that_53 : decode cX8_that 53 = .ok (.aload_n 0, 1) := by decide +kernel
theorem dX8_that_54 : decode cX8_that 54 = .ok (.getfield 57, 3) := by decide +kernel
theorem dX8_that_57 : decode cX8_that 57 = .ok (.iload 4, 2) := by decide +kernel
theorem dX8_that_59 : decode cX8_that 59 = .ok (.iaload, 1) := by decide +kernel
theorem dX8_that_60 : decode cX8_that 60 = .ok (.istore 5, 2) := by decide +kernel
theorem dX8_that_62 : decode cX8_that 62 = .ok (.iload 5, 2) := by decide +kernel
theorem dX8_that_64 : decode cX8_that 64 = .ok (.bipush (-3), 2) := by decide +kernel
theorem dX8_that_66 : decode cX8_that 66 = .ok (.if_icmp .eq 57, 3) := by decide +kernel
theorem dX8_that_69 : decode cX8_that 69 = .ok (.iload 5, 2) := by decide +kernel
theorem dX8_that_71 : decode cX8_that 71 = .ok (.iload_n 2, 1) := by decide +kernel
theorem dX8_that_72 : decode cX8_that 72 = .ok (.if_icmp .eq 51, 3) := by decide +kernel
theorem dX8_that_75 : decode cX8_that 75 = .ok (.iload 4, 2) := by decide +kernel
theorem dX8_that_77 : decode cX8_that 77 = .ok (.bipush (-3), 2) := by decide +kernel
theorem dX8_that_79 : decode cX8_that 79 = .ok (.if_icmp .eq 12, 3) := by decide +kernel
theorem dX8_that_82 : decode cX8_that 82 = .ok (.aload_n 0, 1) := by decide +kernel
theorem dX8_that_83 : decode cX8_that 83 = .ok (.iload 5, 2) := by decide +kernel
theorem dX8_that_85 : decode cX8_that 85 = .ok (.invokevirtual 129, 3) := by decide +kernel
theorem dX8_that_88 : decode cX8_that 88 = .ok (.ifCond .ne 8, 3) := by decide +kernel
theorem dX8_that_91 : decode cX8_that 91 = .ok (.bipush (-3), 2) := by decide +kernel
theorem dX8_that_93 : decode cX8_that 93 = .ok (.goto 16, 3) := by decide +kernel
theorem dX8_that_96 : decode cX8_that 96 = .ok (.aload_n 0, 1) := by decide +kernel
theorem dX8_that_97 : decode cX8_that 97 = .ok (.getfield 63, 3) := by decide +kernel
theorem dX8_that_100 : decode cX8_that 100 = .ok (.bipush 12, 2) := by decide +kernel
theorem dX8_that_102 : decode cX8_that 102 = .ok (.iload 4, 2) := by decide +kernel
theorem dX8_that_104 : decode cX8_that 104 = .ok (.imul, 1) := by decide +kernel
theorem dX8_that_105 : decode cX8_that 105 = .ok (.iload 5, 2) := by decide +kernel
theorem dX8_that_107 : decode cX8_that 107 = .ok (.iadd, 1) := by decide +kernel
theorem dX8_that_108 : decode cX8_that 108 = .ok (.iaload, 1) := by decide +kernel
theorem dX8_that_109 : decode cX8_that 109 = .ok (.istore 4, 2) := by decide +kernel
theorem dX8_that_111 : decode cX8_that 111 = .ok (.aload_n 0, 1) := by decide +kernel
theorem dX8_that_112 : decode cX8_that 112 = .ok (.getfield 13, 3) := by decide +kernel
theorem dX8_that_115 : decode cX8_that 115 = .ok (.iload 5, 2) := by decide +kernel
theorem dX8_that_117 : decode cX8_that 117 = .ok (.iaload, 1) := by decide +kernel
theorem dX8_that_118 : decode cX8_that 118 = .ok (.istore 5, 2) := by decide +kernel
theorem dX8_that_120 : decode cX8_that 120 = .ok (.goto (-58), 3) := by decide +kernel
theorem dX8_that_123 : decode cX8_that 123 = .ok (.aload_n 0, 1) := by decide +kernel
theorem dX8_that_124 : decode cX8_that 124 = .ok (.iload 5, 2) := by decide +kernel
theorem dX8_that_126 : decode cX8_that 126 = .ok (.bipush (-3), 2) := by decide +kernel
theorem dX8_that_128 : decode cX8_that 128 = .ok (.if_icmp .ne 8, 3) := by decide +kernel
theorem dX8_that_131 : decode cX8_that 131 = .ok (.bipush 8, 2) := by decide +kernel
theorem dX8_that_133 : decode cX8_that 133 = .ok (.goto 15, 3) := by decide +kernel
theorem dX8_that_136 : decode cX8_that 136 = .ok (.iload 4, 2) := by decide +kernel
theorem dX8_that_138 : decode cX8_that 138 = .ok (.bipush (-3), 2) := by decide +kernel
theorem dX8_that_140 : decode cX8_that 140 = .ok (.if_icmp .ne 7, 3) := by decide +kernel
theorem dX8_that_143 : decode cX8_that 143 = .ok (.iconst 4, 1) := by decide +kernel
theorem dX8_that_144 : decode cX8_that 144 = .ok (.goto 4, 3) := by decide +kernel
theorem dX8_that_147 : decode cX8_that 147 = .ok (.iconst 0, 1) := by decide +kernel
theorem dX8_that_148 : decode cX8_that 148 = .ok (.putfield 132, 3) := by decide +kernel
theorem dX8_that_151 : decode cX8_that 151 = .ok (.aload_n 0, 1) := by decide +kernel
theorem dX8_that_152 : decode cX8_that 152 = .ok (.getfield 72, 3) := by decide +kernel
theorem dX8_that_155 : decode cX8_that 155 = .ok (.iload_n 3, 1) := by decide +kernel
theorem dX8_that_156 : decode cX8_that 156 = .ok (.aload_n 0, 1) := by decide +kernel
theorem dX8_that_157 : decode cX8_that 157 = .ok (.getfield 132, 3) := by decide +kernel
theorem dX8_that_160 : decode cX8_that 160 = .ok (.ifCond .ne 8, 3) := by decide +kernel
theorem dX8_that_163 : decode cX8_that 163 = .ok (.iload 4, 2) := by decide +kernel
theorem dX8_that_165 : decode cX8_that 165 = .ok (.goto 9, 3) := by decide +kernel
theorem dX8_that_168 : decode cX8_that 168 = .ok (.aload_n 0, 1) := by decide +kernel
theorem dX8_that_169 : decode cX8_that 169 = .ok (.getfield 72, 3) := by decide +kernel
theorem dX8_that_172 : decode cX8_that 172 = .ok (.iload_n 3, 1) := by decide +kernel
theorem dX8_that_173 : decode cX8_that 173 = .ok (.iaload, 1) := by decide +kernel
theorem dX8_that_174 : decode cX8_that 174 = .ok (.iastore, 1) := by decide +kernel
theorem dX8_that_175 : decode cX8_that 175 = .ok (.aload_n 0, 1) := by decide +kernel
theorem dX8_that_176 : decode cX8_that 176 = .ok (.getfield 132, 3) := by decide +kernel
theorem dX8_that_179 : decode cX8_that 179 = .ok (.ireturn, 1) := by decide +kernel
theorem dX8_constant_0 : decode cX8_constant 0 = .ok (.aload_n 0, 1) := by decide +kernel
theorem dX8_constant_1 : decode cX8_constant 1 = .ok (.iload_n 1, 1) := by decide +kernel
theorem dX8_constant_2 : decode cX8_constant 2 = .ok (.invokevirtual 98, 3) := by decide +kernel
theorem dX8_constant_5 : decode cX8_constant 5 = .ok (.ifCond .eq 32, 3) := by decide +kernel
theorem dX8_constant_8 : decode cX8_constant 8 = .ok (.iload_n 2, 1) := by decide +kernel
theorem dX8_constant_9 : decode cX8_constant 9 = .ok (.iconst 0, 1) := by decide +kernel
theorem dX8_constant_10 : decode cX8_constant 10 = .ok (.aload_n 0, 1) := by decide +kernel
theorem dX8_constant_11 : decode cX8_constant 11 = .ok (.getfield 28, 3) := by decide +kernel
theorem dX8_constant_14 : decode cX8_constant 14 = .ok (.iload_n 1, 1) := by decide +kernel
theorem dX8_constant_15 : decode cX8_constant 15 = .ok (.iaload, 1) := by decide +kernel
theorem dX8_constant_16 : decode cX8_constant 16 = .ok (.iconst 1, 1) := by decide +kernel
theorem dX8_constant_17 : decode cX8_constant 17 = .ok (.isub, 1) := by decide +kernel
theorem dX8_constant_18 : decode cX8_constant 18 = .ok (.invokestatic 94, 3) := by decide +kernel
theorem dX8_constant_21 : decode cX8_constant 21 = .ok (.ifCond .eq 16, 3) := by decide +kernel
theorem dX8_constant_24 : decode cX8_constant 24 = .ok (.aload_n 0, 1) := by decide +kernel
theorem dX8_constant_25 : decode cX8_constant 25 = .ok (.getfield 38, 3) := by decide +kernel
theorem dX8_constant_28 : decode cX8_constant 28 = .ok (.iconst 4, 1) := by decide +kernel
theorem dX8_constant_29 : decode cX8_constant 29 = .ok (.iload_n 1, 1) := by decide +kernel
theorem dX8_constant_30 : decode cX8_constant 30 = .ok (.imul, 1) := by decide +kernel
theorem dX8_constant_31 : decode cX8_constant 31 = .ok (.iload_n 2, 1) := by decide +kernel
theorem dX8_constant_32 : decode cX8_constant 32 = .ok (.iadd, 1) := by decide +kernel
theorem dX8_constant_33 : decode cX8_constant 33 = .ok (.baload, 1) := by decide +kernel
theorem dX8_constant_34 : decode cX8_constant 34 = .ok (.ifCond .ne 9, 3) := by decide +kernel
theorem dX8_constant_37 : decode cX8_constant 37 = .ok (.aload_n 0, 1) := by decide +kernel
theorem dX8_constant_38 : decode cX8_constant 38 = .ok (.iconst (-1), 1) := by decide +kernel
theorem dX8_constant_39 : decode cX8_constant 39 = .ok (.invokevirtual 152, 3) := by decide +kernel
theorem dX8_constant_42 : decode cX8_constant 42 = .ok (.lreturn, 1) := by decide +kernel
theorem dX8_constant_43 : decode cX8_constant 43 = .ok (.aload_n 0, 1) := by decide +kernel
theorem dX8_constant_44 : decode cX8_constant 44 = .ok (.iconst 0, 1) := by decide +kernel
theorem dX8_constant_45 : decode cX8_constant 45 = .ok (.putfield 132, 3) := by decide +kernel
theorem dX8_constant_48 : decode cX8_constant 48 = .ok (.aload_n 0, 1) := by decide +kernel
theorem dX8_constant_49 : decode cX8_constant 49 = .ok (.getfield 34, 3) := by decide +kernel
theorem dX8_constant_52 : decode cX8_constant 52 = .ok (.iconst 4, 1) := by decide +kernel
theorem dX8_constant_53 : decode cX8_constant 53 = .ok (.iload_n 1, 1) := by decide +kernel
theorem dX8_constant_54 : decode cX8_constant 54 = .ok (.imul, 1) := by decide +kernel
theorem dX8_constant_55 : decode cX8_constant 55 = .ok (.iload_n 2, 1) := by decide +kernel
theorem dX8_constant_56 : decode cX8_constant 56 = .ok (.iadd, 1) := by decide +kernel
theorem dX8_constant_57 : decode cX8_constant 57 = .ok (.laload, 1) := by decide +kernel
theorem dX8_constant_58 : decode cX8_constant 58 = .ok (.lreturn, 1) := by decide +kernel
theorem dX8_lambda_0 : decode cX8_lambda 0 = .ok (.iload_n 1, 1) := by decide +kernel
theorem dX8_lambda_1 : decode cX8_lambda 1 = .ok (.invokestatic 126, 3) := by decide +kernel
theorem dX8_lambda_4 : decode cX8_lambda 4 = .ok (.ifCond .ne 5, 3) := by decide +kernel
theorem dX8_lambda_7 : decode cX8_lambda 7 = .ok (.iconst (-1), 1) := by decide +kernel
theorem dX8_lambda_8 : decode cX8_lambda 8 = .ok (.ireturn, 1) := by decide +kernel
theorem dX8_lambda_9 : decode cX8_lambda 9 = .ok (.aload_n 0, 1) := by decide +kernel
theorem dX8_lambda_10 : decode cX8_lambda 10 = .ok (.getfield 72, 3) := by decide +kernel
theorem dX8_lambda_13 : decode cX8_lambda 13 = .ok (.iload_n 1, 1) := by decide +kernel
theorem dX8_lambda_14 : decode cX8_lambda 14 = .ok (.iaload, 1) := by decide +kernel
theorem dX8_lambda_15 : decode cX8_lambda 15 = .ok (.istore_n 3, 1) := by decide +kernel
theorem dX8_lambda_16 : decode cX8_lambda 16 = .ok (.iload_n 3, 1) := by decide +kernel
theorem dX8_lambda_17 : decode cX8_lambda 17 = .ok (.bipush (-3), 2) := by decide +kernel
theorem dX8_lambda_19 : decode cX8_lambda 19 = .ok (.if_icmp .ne 6, 3) := by decide +kernel
theorem dX8_lambda_22 : decode cX8_lambda 22 = .ok (.bipush (-3), 2) := by decide +kernel
theorem dX8_lambda_24 : decode cX8_lambda 24 = .ok (.ireturn, 1) := by decide +kernel
theorem dX8_lambda_25 : decode cX8_lambda 25 = .ok (.aload_n 0, 1) := by decide +kernel
theorem dX8_lambda_26 : decode cX8_lambda 26 = .ok (.getfield 57, 3) := by decide +kernel
theorem dX8_lambda_29 : decode cX8_lambda 29 = .ok (.iload_n 3, 1) := by decide +kernel
theorem dX8_lambda_30 : decode cX8_lambda 30 = .ok (.iaload, 1) := by decide +kernel
theorem dX8_lambda_31 : decode cX8_lambda 31 = .ok (.istore 4, 2) := by decide +kernel
theorem dX8_lambda_33 : decode cX8_lambda 33 = .ok (.iload_n 2, 1) := by decide +kernel
theorem dX8_lambda_34 : decode cX8_lambda 34 = .ok (.iconst 0, 1) := by decide +kernel
theorem dX8_lambda_35 : decode cX8_lambda 35 = .ok (.aload_n 0, 1) := by decide +kernel
theorem dX8_lambda_36 : decode cX8_lambda 36 = .ok (.getfield 45, 3) := by decide +kernel
theorem dX8_lambda_39 : decode cX8_lambda 39 = .ok (.iload 4, 2) := by decide +kernel
theorem dX8_lambda_41 : decode cX8_lambda 41 = .ok (.iaload, 1) := by decide +kernel
theorem dX8_lambda_42 : decode cX8_lambda 42 = .ok (.invokestatic 94, 3) := by decide +kernel
theorem dX8_lambda_45 : decode cX8_lambda 45 = .ok (.ifCond .ne 5, 3) := by decide +kernel
theorem dX8_lambda_48 : decode cX8_lambda 48 = .ok (.iconst (-1), 1) := by decide +kernel
theorem dX8_lambda_49 : decode cX8_lambda 49 = .ok (.ireturn, 1) := by decide +kernel
theorem dX8_lambda_50 : decode cX8_lambda 50 = .ok (.aload_n 0, 1) := by decide +kernel
theorem dX8_lambda_51 : decode cX8_lambda 51 = .ok (.getfield 170, 3) := by decide +kernel
theorem dX8_lambda_54 : decode cX8_lambda 54 = .ok (.bipush 6, 2) := by decide +kernel
theorem dX8_lambda_56 : decode cX8_lambda 56 = .ok (.if_icmp .ne 6, 3) := by decide +kernel
theorem dX8_lambda_59 : decode cX8_lambda 59 = .ok (.bipush (-2), 2) := by decide +kernel
theorem dX8_lambda_61 : decode cX8_lambda 61 = .ok (.ireturn, 1) := by decide +kernel
theorem dX8_lambda_62 : decode cX8_lambda 62 = .ok (.aload_n 0, 1) := by decide +kernel
theorem dX8_lambda_63 : decode cX8_lambda 63 = .ok (.getfield 75, 3) := by decide +kernel
theorem dX8_lambda_66 : decode cX8_lambda 66 = .ok (.aload_n 0, 1) := by decide +kernel
theorem dX8_lambda_67 : decode cX8_lambda 67 = .ok (.getfield 170, 3) := by decide +kernel
theorem dX8_lambda_70 : decode cX8_lambda 70 = .ok (.iload 4, 2) := by decide +kernel
theorem dX8_lambda_72 : decode cX8_lambda 72 = .ok (.iastore, 1) := by decide +kernel
theorem dX8_lambda_73 : decode cX8_lambda 73 = .ok (.aload_n 0, 1) := by decide +kernel
theorem dX8_lambda_74 : decode cX8_lambda 74 = .ok (.getfield 78, 3) := by decide +kernel
theorem dX8_lambda_77 : decode cX8_lambda 77 = .ok (.aload_n 0, 1) := by decide +kernel
theorem dX8_lambda_78 : decode cX8_lambda 78 = .ok (.getfield 170, 3) := by decide +kernel
theorem dX8_lambda_81 : decode cX8_lambda 81 = .ok (.aload_n 0, 1) := by decide +kernel
theorem dX8_lambda_82 : decode cX8_lambda 82 = .ok (.getfield 42, 3) := by decide +kernel
theorem dX8_lambda_85 : decode cX8_lambda 85 = .ok (.iload 4, 2) := by decide +kernel
theorem dX8_lambda_87 : decode cX8_lambda 87 = .ok (.baload, 1) := by decide +kernel
theorem dX8_lambda_88 : decode cX8_lambda 88 = .ok (.ifCond .eq 8, 3) := by decide +kernel
theorem dX8_lambda_91 : decode cX8_lambda 91 = .ok (.bipush (-3), 2) := by decide +kernel
theorem dX8_lambda_93 : decode cX8_lambda 93 = .ok (.goto 4, 3) := by decide +kernel
theorem dX8_lambda_96 : decode cX8_lambda 96 = .ok (.iload_n 3, 1) := by decide +kernel
theorem dX8_lambda_97 : decode cX8_lambda 97 = .ok (.iastore, 1) := by decide +kernel
theorem dX8_lambda_98 : decode cX8_lambda 98 = .ok (.aload_n 0, 1) := by decide +kernel
theorem dX8_lambda_99 : decode cX8_lambda 99 = .ok (.getfield 81, 3) := by decide +kernel
theorem dX8_lambda_102 : decode cX8_lambda 102 = .ok (.aload_n 0, 1) := by decide +kernel
theorem dX8_lambda_103 : decode cX8_lambda 103 = .ok (.getfield 170, 3) := by decide +kernel
theorem dX8_lambda_106 : decode cX8_lambda 106 = .ok (.iload_n 2, 1) := by decide +kernel
theorem dX8_lambda_107 : decode cX8_lambda 107 = .ok (.iastore, 1) := by decide +kernel
theorem dX8_lambda_108 : decode cX8_lambda 108 = .ok (.iconst 0, 1) := by decide +kernel
theorem dX8_lambda_109 : decode cX8_lambda 109 = .ok (.istore 5, 2) := by decide +kernel
theorem dX8_lambda_111 : decode cX8_lambda 111 = .ok (.iload 5, 2) := by decide +kernel
theorem dX8_lambda_113 : decode cX8_lambda 113 = .ok (.iload_n 2, 1) := by decide +kernel
theorem dX8_lambda_114 : decode cX8_lambda 114 = .ok (.if_icmp .ge 35, 3) := by decide +kernel
theorem dX8_lambda_117 : decode cX8_lambda 117 = .ok (.aload_n 0, 1) := by decide +kernel
theorem dX8_lambda_118 : decode cX8_lambda 118 = .ok (.getfield 84, 3) := by decide +kernel
theorem dX8_lambda_121 : decode cX8_lambda 121 = .ok (.iconst 4, 1) := by decide +kernel
theorem dX8_lambda_122 : decode cX8_lambda 122 = .ok (.aload_n 0, 1) := by decide +kernel
theorem dX8_lambda_123 : decode cX8_lambda 123 = .ok (.getfield 170, 3) := by decide +kernel
theorem dX8_lambda_126 : decode cX8_lambda 126 = .ok (.imul, 1) := by decide +kernel
theorem dX8_lambda_127 : decode cX8_lambda 127 = .ok (.iload 5, 2) := by decide +kernel
theorem dX8_lambda_129 : decode cX8_lambda 129 = .ok (.iadd, 1) := by decide +kernel
theorem dX8_lambda_130 : decode cX8_lambda 130 = .ok (.aload_n 0, 1) := by decide +kernel
theorem dX8_lambda_131 : decode cX8_lambda 131 = .ok (.getfield 51, 3) := by decide +kernel
theorem dX8_lambda_134 : decode cX8_lambda 134 = .ok (.iconst 4, 1) := by decide +kernel
theorem dX8_lambda_135 : decode cX8_lambda 135 = .ok (.iload 4, 2) := by decide +kernel
theorem dX8_lambda_137 : decode cX8_lambda 137 = .ok (.imul, 1) := by decide +kernel
theorem dX8_lambda_138 : decode cX8_lambda 138 = .ok (.iload 5, 2) := by decide +kernel
theorem dX8_lambda_140 : decode cX8_lambda 140 = .ok (.iadd, 1) := by decide +kernel
theorem dX8_lambda_141 : decode cX8_lambda 141 = .ok (.laload, 1) := by decide +kernel
theorem dX8_lambda_142 : decode cX8_lambda 142 = .ok (.lastore, 1) := by decide +kernel
theorem dX8_lambda_143 : decode cX8_lambda 143 = .ok (.iinc 5 1, 3) := by decide +kernel
theorem dX8_lambda_146 : decode cX8_lambda 146 = .ok (.goto (-35), 3) := by decide +kernel
theorem dX8_lambda_149 : decode cX8_lambda 149 = .ok (.aload_n 0, 1) := by decide +kernel
theorem dX8_lambda_150 : decode cX8_lambda 150 = .ok (.dup, 1) := by decide +kernel
theorem dX8_lambda_151 : decode cX8_lambda 151 = .ok (.getfield 170, 3) := by decide +kernel
theorem dX8_lambda_154 : decode cX8_lambda 154 = .ok (.iconst 1, 1) := by decide +kernel
theorem dX8_lambda_155 : decode cX8_lambda 155 = .ok (.iadd, 1) := by decide +kernel
theorem dX8_lambda_156 : decode cX8_lambda 156 = .ok (.putfield 170, 3) := by decide +kernel
theorem dX8_lambda_159 : decode cX8_lambda 159 = .ok (.aload_n 0, 1) := by decide +kernel
theorem dX8_lambda_160 : decode cX8_lambda 160 = .ok (.getfield 170, 3) := by decide +kernel
theorem dX8_lambda_163 : decode cX8_lambda 163 = .ok (.iconst 1, 1) := by decide +kernel
theorem dX8_lambda_164 : decode cX8_lambda 164 = .ok (.isub, 1) := by decide +kernel
theorem dX8_lambda_165 : decode cX8_lambda 165 = .ok (.ireturn, 1) := by decide +kernel
theorem dX8_seen_0 : decode cX8_seen 0 = .ok (.iload_n 1, 1) := by decide +kernel
theorem dX8_seen_1 : decode cX8_seen 1 = .ok (.iconst 0, 1) := by decide +kernel
theorem dX8_seen_2 : decode cX8_seen 2 = .ok (.aload_n 0, 1) := by decide +kernel
theorem dX8_seen_3 : decode cX8_seen 3 = .ok (.getfield 170, 3) := by decide +kernel
theorem dX8_seen_6 : decode cX8_seen 6 = .ok (.iconst 1, 1) := by decide +kernel
theorem dX8_seen_7 : decode cX8_seen 7 = .ok (.isub, 1) := by decide +kernel
theorem dX8_seen_8 : decode cX8_seen 8 = .ok (.invokestatic 94, 3) := by decide +kernel
theorem dX8_seen_11 : decode cX8_seen 11 = .ok (.ifCond .eq 10, 3) := by decide +kernel
theorem dX8_seen_14 : decode cX8_seen 14 = .ok (.iload_n 2, 1) := by decide +kernel
theorem dX8_seen_15 : decode cX8_seen 15 = .ok (.invokestatic 108, 3) := by decide +kernel
theorem dX8_seen_18 : decode cX8_seen 18 = .ok (.ifCond .ne 9, 3) := by decide +kernel
theorem dX8_seen_21 : decode cX8_seen 21 = .ok (.aload_n 0, 1) := by decide +kernel
theorem dX8_seen_22 : decode cX8_seen 22 = .ok (.iconst (-1), 1) := by decide +kernel
theorem dX8_seen_23 : decode cX8_seen 23 = .ok (.invokevirtual 152, 3) := by decide +kernel
theorem dX8_seen_26 : decode cX8_seen 26 = .ok (.lreturn, 1) := by decide +kernel
theorem dX8_seen_27 : decode cX8_seen 27 = .ok (.aload_n 0, 1) := by decide +kernel
theorem dX8_seen_28 : decode cX8_seen 28 = .ok (.getfield 75, 3) := by decide +kernel
theorem dX8_seen_31 : decode cX8_seen 31 = .ok (.iload_n 1, 1) := by decide +kernel
theorem dX8_seen_32 : decode cX8_seen 32 = .ok (.iaload, 1) := by decide +kernel
theorem dX8_seen_33 : decode cX8_seen 33 = .ok (.istore_n 3, 1) := by decide +kernel
theorem dX8_seen_34 : decode cX8_seen 34 = .ok (.aload_n 0, 1) := by decide +kernel
theorem dX8_seen_35 : decode cX8_seen 35 = .ok (.iload_n 3, 1) := by decide +kernel
theorem dX8_seen_36 : decode cX8_seen 36 = .ok (.aload_n 0, 1) := by decide +kernel
theorem dX8_seen_37 : decode cX8_seen 37 = .ok (.getfield 81, 3) := by decide +kernel
theorem dX8_seen_40 : decode cX8_seen 40 = .ok (.iload_n 1, 1) := by decide +kernel
theorem dX8_seen_41 : decode cX8_seen 41 = .ok (.iaload, 1) := by decide +kernel
theorem dX8_seen_42 : decode cX8_seen 42 = .ok (.iload_n 2, 1) := by decide +kernel
theorem dX8_seen_43 : decode cX8_seen 43 = .ok (.invokevirtual 160, 3) := by decide +kernel
theorem dX8_seen_46 : decode cX8_seen 46 = .ok (.istore 4, 2) := by decide +kernel
theorem dX8_seen_48 : decode cX8_seen 48 = .ok (.iload 4, 2) := by decide +kernel
theorem dX8_seen_50 : decode cX8_seen 50 = .ok (.ifCond .ge 17, 3) := by decide +kernel
theorem dX8_seen_53 : decode cX8_seen 53 = .ok (.aload_n 0, 1) := by decide +kernel
theorem dX8_seen_54 : decode cX8_seen 54 = .ok (.iload_n 3, 1) := by decide +kernel
theorem dX8_seen_55 : decode cX8_seen 55 = .ok (.aload_n 0, 1) := by decide +kernel
theorem dX8_seen_56 : decode cX8_seen 56 = .ok (.getfield 78, 3) := by decide +kernel
theorem dX8_seen_59 : decode cX8_seen 59 = .ok (.iload_n 1, 1) := by decide +kernel
theorem dX8_seen_60 : decode cX8_seen 60 = .ok (.iaload, 1) := by decide +kernel
theorem dX8_seen_61 : decode cX8_seen 61 = .ok (.iload_n 2, 1) := by decide +kernel
theorem dX8_seen_62 : decode cX8_seen 62 = .ok (.iconst 0, 1) := by decide +kernel
theorem dX8_seen_63 : decode cX8_seen 63 = .ok (.invokevirtual 167, 3) := by decide +kernel
theorem dX8_seen_66 : decode cX8_seen 66 = .ok (.lreturn, 1) := by decide +kernel
theorem dX8_seen_67 : decode cX8_seen 67 = .ok (.aload_n 0, 1) := by decide +kernel
theorem dX8_seen_68 : decode cX8_seen 68 = .ok (.getfield 54, 3) := by decide +kernel
theorem dX8_seen_71 : decode cX8_seen 71 = .ok (.iconst 4, 1) := by decide +kernel
theorem dX8_seen_72 : decode cX8_seen 72 = .ok (.iload_n 3, 1) := by decide +kernel
theorem dX8_seen_73 : decode cX8_seen 73 = .ok (.imul, 1) := by decide +kernel
theorem dX8_seen_74 : decode cX8_seen 74 = .ok (.iload 4, 2) := by decide +kernel
theorem dX8_seen_76 : decode cX8_seen 76 = .ok (.iadd, 1) := by decide +kernel
theorem dX8_seen_77 : decode cX8_seen 77 = .ok (.baload, 1) := by decide +kernel
theorem dX8_seen_78 : decode cX8_seen 78 = .ok (.ifCond .eq 10, 3) := by decide +kernel
theorem dX8_seen_81 : decode cX8_seen 81 = .ok (.aload_n 0, 1) := by decide +kernel
theorem dX8_seen_82 : decode cX8_seen 82 = .ok (.bipush 7, 2) := by decide +kernel
theorem dX8_seen_84 : decode cX8_seen 84 = .ok (.invokevirtual 152, 3) := by decide +kernel
theorem dX8_seen_87 : decode cX8_seen 87 = .ok (.lreturn, 1) := by decide +kernel
theorem dX8_seen_88 : decode cX8_seen 88 = .ok (.aload_n 0, 1) := by decide +kernel
theorem dX8_seen_89 : decode cX8_seen 89 = .ok (.iconst 0, 1) := by decide +kernel
theorem dX8_seen_90 : decode cX8_seen 90 = .ok (.putfield 132, 3) := by decide +kernel
theorem dX8_seen_93 : decode cX8_seen 93 = .ok (.aload_n 0, 1) := by decide +kernel
theorem dX8_seen_94 : decode cX8_seen 94 = .ok (.getfield 84, 3) := by decide +kernel
theorem dX8_seen_97 : decode cX8_seen 97 = .ok (.iconst 4, 1) := by decide +kernel
theorem dX8_seen_98 : decode cX8_seen 98 = .ok (.iload_n 1, 1) := by decide +kernel
theorem dX8_seen_99 : decode cX8_seen 99 = .ok (.imul, 1) := by decide +kernel
theorem dX8_seen_100 : decode cX8_seen 100 = .ok (.iload 4, 2) := by decide +kernel
theorem dX8_seen_102 : decode cX8_seen 102 = .ok (.iadd, 1) := by decide +kernel
theorem dX8_seen_103 : decode cX8_seen 103 = .ok (.laload, 1) := by decide +kernel
theorem dX8_seen_104 : decode cX8_seen 104 = .ok (.lreturn, 1) := by decide +kernel
theorem dX8_why_0 : decode cX8_why 0 = .ok (.aload_n 0, 1) := by decide +kernel
theorem dX8_why_1 : decode cX8_why 1 = .ok (.getfield 132, 3) := by decide +kernel
theorem dX8_why_4 : decode cX8_why 4 = .ok (.ireturn, 1) := by decide +kernel
theorem dX8_count_0 : decode cX8_count 0 = .ok (.iconst 0, 1) := by decide +kernel
theorem dX8_count_1 : decode cX8_count 1 = .ok (.istore_n 2, 1) := by decide +kernel
theorem dX8_count_2 : decode cX8_count 2 = .ok (.iconst 0, 1) := by decide +kernel
theorem dX8_count_3 : decode cX8_count 3 = .ok (.istore_n 3, 1) := by decide +kernel
theorem dX8_count_4 : decode cX8_count 4 = .ok (.iload_n 3, 1) := by decide +kernel
theorem dX8_count_5 : decode cX8_count 5 = .ok (.bipush 8, 2) := by decide +kernel
theorem dX8_count_7 : decode cX8_count 7 = .ok (.if_icmp .ge 28, 3) := by decide +kernel
theorem dX8_count_10 : decode cX8_count 10 = .ok (.iload_n 2, 1) := by decide +kernel
theorem dX8_count_11 : decode cX8_count 11 = .ok (.aload_n 0, 1) := by decide +kernel
theorem dX8_count_12 : decode cX8_count 12 = .ok (.getfield 72, 3) := by decide +kernel
theorem dX8_count_15 : decode cX8_count 15 = .ok (.iload_n 3, 1) := by decide +kernel
theorem dX8_count_16 : decode cX8_count 16 = .ok (.iaload, 1) := by decide +kernel
theorem dX8_count_17 : decode cX8_count 17 = .ok (.bipush (-3), 2) := by decide +kernel
theorem dX8_count_19 : decode cX8_count 19 = .ok (.if_icmp .ne 7, 3) := by decide +kernel
theorem dX8_count_22 : decode cX8_count 22 = .ok (.iconst 0, 1) := by decide +kernel
theorem dX8_count_23 : decode cX8_count 23 = .ok (.goto 4, 3) := by decide +kernel
theorem dX8_count_26 : decode cX8_count 26 = .ok (.iconst 1, 1) := by decide +kernel
theorem dX8_count_27 : decode cX8_count 27 = .ok (.iadd, 1) := by decide +kernel
theorem dX8_count_28 : decode cX8_count 28 = .ok (.istore_n 2, 1) := by decide +kernel
theorem dX8_count_29 : decode cX8_count 29 = .ok (.iinc 3 1, 3) := by decide +kernel
theorem dX8_count_32 : decode cX8_count 32 = .ok (.goto (-28), 3) := by decide +kernel
theorem dX8_count_35 : decode cX8_count 35 = .ok (.iload_n 1, 1) := by decide +kernel
theorem dX8_count_36 : decode cX8_count 36 = .ok (.ifCond .ne 10, 3) := by decide +kernel
theorem dX8_count_39 : decode cX8_count 39 = .ok (.aload_n 0, 1) := by decide +kernel
theorem dX8_count_40 : decode cX8_count 40 = .ok (.getfield 90, 3) := by decide +kernel
theorem dX8_count_43 : decode cX8_count 43 = .ok (.goto 37, 3) := by decide +kernel
theorem dX8_count_46 : decode cX8_count 46 = .ok (.iload_n 1, 1) := by decide +kernel
theorem dX8_count_47 : decode cX8_count 47 = .ok (.iconst 1, 1) := by decide +kernel
theorem dX8_count_48 : decode cX8_count 48 = .ok (.if_icmp .ne 10, 3) := by decide +kernel
theorem dX8_count_51 : decode cX8_count 51 = .ok (.aload_n 0, 1) := by decide +kernel
theorem dX8_count_52 : decode cX8_count 52 = .ok (.getfield 135, 3) := by decide +kernel
theorem dX8_count_55 : decode cX8_count 55 = .ok (.goto 25, 3) := by decide +kernel
theorem dX8_count_58 : decode cX8_count 58 = .ok (.iload_n 1, 1) := by decide +kernel
theorem dX8_count_59 : decode cX8_count 59 = .ok (.iconst 2, 1) := by decide +kernel
theorem dX8_count_60 : decode cX8_count 60 = .ok (.if_icmp .ne 10, 3) := by decide +kernel
theorem dX8_count_63 : decode cX8_count 63 = .ok (.aload_n 0, 1) := by decide +kernel
theorem dX8_count_64 : decode cX8_count 64 = .ok (.getfield 170, 3) := by decide +kernel
theorem dX8_count_67 : decode cX8_count 67 = .ok (.goto 13, 3) := by decide +kernel
theorem dX8_count_70 : decode cX8_count 70 = .ok (.iload_n 1, 1) := by decide +kernel
theorem dX8_count_71 : decode cX8_count 71 = .ok (.iconst 3, 1) := by decide +kernel
theorem dX8_count_72 : decode cX8_count 72 = .ok (.if_icmp .ne 7, 3) := by decide +kernel
theorem dX8_count_75 : decode cX8_count 75 = .ok (.iload_n 2, 1) := by decide +kernel
theorem dX8_count_76 : decode cX8_count 76 = .ok (.goto 4, 3) := by decide +kernel
theorem dX8_count_79 : decode cX8_count 79 = .ok (.iconst (-1), 1) := by decide +kernel
theorem dX8_count_80 : decode cX8_count 80 = .ok (.ireturn, 1) := by decide +kernel
