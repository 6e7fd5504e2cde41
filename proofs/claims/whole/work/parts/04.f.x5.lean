set_option maxRecDepth 20000 in
theorem ggX5_init_X5_note : GoodIn wsX5_init wsX5_note := goodIn_r _ [31, 15, 16, 32, 33, 34, 35, 36, 37, 38, 39, 40, 41, 42, 43, 44, 45, 46, 47, 48, 49, 50, 51, 52, 53, 54, 55] (by decide +kernel) (by decide +kernel)
set_option maxRecDepth 20000 in
theorem gX5_init_X5_note : GoodIn wsX5_init (wsV RX5 75 RX5 yX5_note wsX5_note) := goodIn_app (goodIn_of _ (by decide +kernel)) ggX5_init_X5_note
theorem dX5_init_0 : decode cX5_init 0 = .ok (.aload_n 0, 1) := by decide +kernel
theorem dX5_init_1 : decode cX5_init 1 = .ok (.invokespecial 1, 3) := by decide +kernel
theorem dX5_init_4 : decode cX5_init 4 = .ok (.aload_n 0, 1) := by decide +kernel
theorem dX5_init_5 : decode cX5_init 5 = .ok (.iconst 1, 1) := by decide +kernel
theorem dX5_init_6 : decode cX5_init 6 = .ok (.putfield 7, 3) := by decide +kernel
theorem dX5_init_9 : decode cX5_init 9 = .ok (.aload_n 0, 1) := by decide +kernel
theorem dX5_init_10 : decode cX5_init 10 = .ok (.sipush 256, 3) := by decide +kernel
theorem dX5_init_13 : decode cX5_init 13 = .ok (.newarray .int, 2) := by decide +kernel
theorem dX5_init_15 : decode cX5_init 15 = .ok (.putfield 13, 3) := by decide +kernel
theorem dX5_init_18 : decode cX5_init 18 = .ok (.aload_n 0, 1) := by decide +kernel
theorem dX5_init_19 : decode cX5_init 19 = .ok (.bipush 60, 2) := by decide +kernel
theorem dX5_init_21 : decode cX5_init 21 = .ok (.newarray .int, 2) := by decide +kernel
theorem dX5_init_23 : decode cX5_init 23 = .ok (.dup, 1) := by decide +kernel
theorem dX5_init_24 : decode cX5_init 24 = .ok (.iconst 0, 1) := by decide +kernel
theorem dX5_init_25 : decode cX5_init 25 = .ok (.sipush 256, 3) := by decide +kernel
theorem dX5_init_28 : decode cX5_init 28 = .ok (.iastore, 1) := by decide +kernel
theorem dX5_init_29 : decode cX5_init 29 = .ok (.dup, 1) := by decide +kernel
theorem dX5_init_30 : decode cX5_init 30 = .ok (.iconst 1, 1) := by decide +kernel
theorem dX5_init_31 : decode cX5_init 31 = .ok (.iconst 0, 1) := by decide +kernel
theorem dX5_init_32 : decode cX5_init 32 = .ok (.iastore, 1) := by decide +kernel
theorem dX5_init_33 : decode cX5_init 33 = .ok (.dup, 1) := by decide +kernel
theorem dX5_init_34 : decode cX5_init 34 = .ok (.iconst 2, 1) := by decide +kernel
theorem dX5_init_35 : decode cX5_init 35 = .ok (.iconst 0, 1) := by decide +kernel
theorem dX5_init_36 : decode cX5_init 36 = .ok (.iastore, 1) := by decide +kernel
theorem dX5_init_37 : decode cX5_init 37 = .ok (.dup, 1) := by decide +kernel
theorem dX5_init_38 : decode cX5_init 38 = .ok (.iconst 3, 1) := by decide +kernel
theorem dX5_init_39 : decode cX5_init 39 = .ok (.iconst 0, 1) := by decide +kernel
theorem dX5_init_40 : decode cX5_init 40 = .ok (.iastore, 1) := by decide +kernel
theorem dX5_init_41 : decode cX5_init 41 = .ok (.dup, 1) := by decide +kernel
theorem dX5_init_42 : decode cX5_init 42 = .ok (.iconst 4, 1) := by decide +kernel
theorem dX5_init_43 : decode cX5_init 43 = .ok (.iconst 0, 1) := by decide +kernel
theorem dX5_init_44 : decode cX5_init 44 = .ok (.iastore, 1) := by decide +kernel
theorem dX5_init_45 : decode cX5_init 45 = .ok (.dup, 1) := by decide +kernel
theorem dX5_init_46 : decode cX5_init 46 = .ok (.iconst 5, 1) := by decide +kernel
theorem dX5_init_47 : decode cX5_init 47 = .ok (.iconst 0, 1) := by decide +kernel
theorem dX5_init_48 : decode cX5_init 48 = .ok (.iastore, 1) := by decide +kernel
theorem dX5_init_49 : decode cX5_init 49 = .ok (.dup, 1) := by decide +kernel
theorem dX5_init_50 : decode cX5_init 50 = .ok (.bipush 6, 2) := by decide +kernel
theorem dX5_init_52 : decode cX5_init 52 = .ok (.iconst 0, 1) := by decide +kernel
theorem dX5_init_53 : decode cX5_init 53 = .ok (.iastore, 1) := by decide +kernel
theorem dX5_init_54 : decode cX5_init 54 = .ok (.dup, 1) := by decide +kernel
theorem dX5_init_55 : decode cX5_init 55 = .ok (.bipush 7, 2) := by decide +kernel
theorem dX5_init_57 : decode cX5_init 57 = .ok (.iconst 0, 1) := by decide +kernel
theorem dX5_init_58 : decode cX5_init 58 = .ok (.iastore, 1) := by decide +kernel
theorem dX5_init_59 : decode cX5_init 59 = .ok (.dup, 1) := by decide +kernel
theorem dX5_init_60 : decode cX5_init 60 = .ok (.bipush 8, 2) := by decide +kernel
theorem dX5_init_62 : decode cX5_init 62 = .ok (.iconst 0, 1) := by decide +kernel
theorem dX5_init_63 : decode cX5_init 63 = .ok (.iastore, 1) := by decide +kernel
theorem dX5_init_64 : decode cX5_init 64 = .ok (.dup, 1) := by decide +kernel
theorem dX5_init_65 : decode cX5_init 65 = .ok (.bipush 9, 2) := by decide +kernel
theorem dX5_init_67 : decode cX5_init 67 = .ok (.iconst 0, 1) := by decide +kernel
theorem dX5_init_68 : decode cX5_init 68 = .ok (.iastore, 1) := by decide +kernel
theorem dX5_init_69 : decode cX5_init 69 = .ok (.dup, 1) := by decide +kernel
theorem dX5_init_70 : decode cX5_init 70 = .ok (.bipush 10, 2) := by decide +kernel
theorem dX5_init_72 : decode cX5_init 72 = .ok (.iconst 0, 1) := by decide +kernel
theorem dX5_init_73 : decode cX5_init 73 = .ok (.iastore, 1) := by decide +kernel
theorem dX5_init_74 : decode cX5_init 74 = .ok (.dup, 1) := by decide +kernel
theorem dX5_init_75 : decode cX5_init 75 = .ok (.bipush 11, 2) := by decide +kernel
theorem dX5_init_77 : decode cX5_init 77 = .ok (.iconst 0, 1) := by decide +kernel
theorem dX5_init_78 : decode cX5_init 78 = .ok (.iastore, 1) := by decide +kernel
theorem dX5_init_79 : decode cX5_init 79 = .ok (.dup, 1) := by decide +kernel
theorem dX5_init_80 : decode cX5_init 80 = .ok (.bipush 12, 2) := by decide +kernel
theorem dX5_init_82 : decode cX5_init 82 = .ok (.iconst 0, 1) := by decide +kernel
theorem dX5_init_83 : decode cX5_init 83 = .ok (.iastore, 1) := by decide +kernel
theorem dX5_init_84 : decode cX5_init 84 = .ok (.dup, 1) := by decide +kernel
theorem dX5_init_85 : decode cX5_init 85 = .ok (.bipush 13, 2) := by decide +kernel
theorem dX5_init_87 : decode cX5_init 87 = .ok (.iconst 0, 1) := by decide +kernel
theorem dX5_init_88 : decode cX5_init 88 = .ok (.iastore, 1) := by decide +kernel
theorem dX5_init_89 : decode cX5_init 89 = .ok (.dup, 1) := by decide +kernel
theorem dX5_init_90 : decode cX5_init 90 = .ok (.bipush 14, 2) := by decide +kernel
theorem dX5_init_92 : decode cX5_init 92 = .ok (.iconst 0, 1) := by decide +kernel
theorem dX5_init_93 : decode cX5_init 93 = .ok (.iastore, 1) := by decide +kernel
theorem dX5_init_94 : decode cX5_init 94 = .ok (.dup, 1) := by decide +kernel
theorem dX5_init_95 : decode cX5_init 95 = .ok (.bipush 15, 2) := by decide +kernel
theorem dX5_init_97 : decode cX5_init 97 = .ok (.iconst 0, 1) := by decide +kernel
theorem dX5_init_98 : decode cX5_init 98 = .ok (.iastore, 1) := by decide +kernel
theorem dX5_init_99 : decode cX5_init 99 = .ok (.dup, 1) := by decide +kernel
theorem dX5_init_100 : decode cX5_init 100 = .ok (.bipush 16, 2) := by decide +kernel
theorem dX5_init_102 : decode cX5_init 102 = .ok (.iconst 0, 1) := by decide +kernel
theorem dX5_init_103 : decode cX5_init 103 = .ok (.iastore, 1) := by decide +kernel
theorem dX5_init_104 : decode cX5_init 104 = .ok (.dup, 1) := by decide +kernel
theorem dX5_init_105 : decode cX5_init 105 = .ok (.bipush 17, 2) := by decide +kernel
theorem dX5_init_107 : decode cX5_init 107 = .ok (.iconst 0, 1) := by decide +kernel
theorem dX5_init_108 : decode cX5_init 108 = .ok (.iastore, 1) := by decide +kernel
theorem dX5_init_109 : decode cX5_init 109 = .ok (.dup, 1) := by decide +kernel
theorem dX5_init_110 : decode cX5_init 110 = .ok (.bipush 18, 2) := by decide +kernel
theorem dX5_init_112 : decode cX5_init 112 = .ok (.iconst 0, 1) := by decide +kernel
theorem dX5_init_113 : decode cX5_init 113 = .ok (.iastore, 1) := by decide +kernel
theorem dX5_init_114 : decode cX5_init 114 = .ok (.dup, 1) := by decide +kernel
theorem dX5_init_115 : decode cX5_init 115 = .ok (.bipush 19, 2) := by decide +kernel
theorem dX5_init_117 : decode cX5_init 117 = .ok (.iconst 0, 1) := by decide +kernel
theorem dX5_init_118 : decode cX5_init 118 = .ok (.iastore, 1) := by decide +kernel
theorem dX5_init_119 : decode cX5_init 119 = .ok (.dup, 1) := by decide +kernel
theorem dX5_init_120 : decode cX5_init 120 = .ok (.bipush 20, 2) := by decide +kernel
theorem dX5_init_122 : decode cX5_init 122 = .ok (.iconst 0, 1) := by decide +kernel
theorem dX5_init_123 : decode cX5_init 123 = .ok (.iastore, 1) := by decide +kernel
theorem dX5_init_124 : decode cX5_init 124 = .ok (.dup, 1) := by decide +kernel
theorem dX5_init_125 : decode cX5_init 125 = .ok (.bipush 21, 2) := by decide +kernel
theorem dX5_init_127 : decode cX5_init 127 = .ok (.iconst 0, 1) := by decide +kernel
theorem dX5_init_128 : decode cX5_init 128 = .ok (.iastore, 1) := by decide +kernel
theorem dX5_init_129 : decode cX5_init 129 = .ok (.dup, 1) := by decide +kernel
theorem dX5_init_130 : decode cX5_init 130 = .ok (.bipush 22, 2) := by decide +kernel
theorem dX5_init_132 : decode cX5_init 132 = .ok (.iconst 0, 1) := by decide +kernel
theorem dX5_init_133 : decode cX5_init 133 = .ok (.iastore, 1) := by decide +kernel
theorem dX5_init_134 : decode cX5_init 134 = .ok (.dup, 1) := by decide +kernel
theorem dX5_init_135 : decode cX5_init 135 = .ok (.bipush 23, 2) := by decide +kernel
theorem dX5_init_137 : decode cX5_init 137 = .ok (.iconst 0, 1) := by decide +kernel
theorem dX5_init_138 : decode cX5_init 138 = .ok (.iastore, 1) := by decide +kernel
theorem dX5_init_139 : decode cX5_init 139 = .ok (.dup, 1) := by decide +kernel
theorem dX5_init_140 : decode cX5_init 140 = .ok (.bipush 24, 2) := by decide +kernel
theorem dX5_init_142 : decode cX5_init 142 = .ok (.iconst 0, 1) := by decide +kernel
theorem dX5_init_143 : decode cX5_init 143 = .ok (.iastore, 1) := by decide +kernel
theorem dX5_init_144 : decode cX5_init 144 = .ok (.dup, 1) := by decide +kernel
theorem dX5_init_145 : decode cX5_init 145 = .ok (.bipush 25, 2) := by decide +kernel
theorem dX5_init_147 : decode cX5_init 147 = .ok (.iconst 0, 1) := by decide +kernel
theorem dX5_init_148 : decode cX5_init 148 = .ok (.iastore, 1) := by decide +kernel
theorem dX5_init_149 : decode cX5_init 149 = .ok (.dup, 1) := by decide +kernel
theorem dX5_init_150 : decode cX5_init 150 = .ok (.bipush 26, 2) := by decide +kernel
theorem dX5_init_152 : decode cX5_init 152 = .ok (.iconst 0, 1) := by decide +kernel
theorem dX5_init_153 : decode cX5_init 153 = .ok (.iastore, 1) := by decide +kernel
theorem dX5_init_154 : decode cX5_init 154 = .ok (.dup, 1) := by decide +kernel
theorem dX5_init_155 : decode cX5_init 155 = .ok (.bipush 27, 2) := by decide +kernel
theorem dX5_init_157 : decode cX5_init 157 = .ok (.iconst 0, 1) := by decide +kernel
theorem dX5_init_158 : decode cX5_init 158 = .ok (.iastore, 1) := by decide +kernel
theorem dX5_init_159 : decode cX5_init 159 = .ok (.dup, 1) := by decide +kernel
theorem dX5_init_160 : decode cX5_init 160 = .ok (.bipush 28, 2) := by decide +kernel
theorem dX5_init_162 : decode cX5_init 162 = .ok (.iconst 0, 1) := by decide +kernel
theorem dX5_init_163 : decode cX5_init 163 = .ok (.iastore, 1) := by decide +kernel
theorem dX5_init_164 : decode cX5_init 164 = .ok (.dup, 1) := by decide +kernel
theorem dX5_init_165 : decode cX5_init 165 = .ok (.bipush 29, 2) := by decide +kernel
theorem dX5_init_167 : decode cX5_init 167 = .ok (.iconst 0, 1) := by decide +kernel
theorem dX5_init_168 : decode cX5_init 168 = .ok (.iastore, 1) := by decide +kernel
theorem dX5_init_169 : decode cX5_init 169 = .ok (.dup, 1) := by decide +kernel
theorem dX5_init_170 : decode cX5_init 170 = .ok (.bipush 30, 2) := by decide +kernel
theorem dX5_init_172 : decode cX5_init 172 = .ok (.iconst 0, 1) := by decide +kernel
theorem dX5_init_173 : decode cX5_init 173 = .ok (.iastore, 1) := by decide +kernel
theorem dX5_init_174 : decode cX5_init 174 = .ok (.dup, 1) := by decide +kernel
theorem dX5_init_175 : decode cX5_init 175 = .ok (.bipush 31, 2) := by decide +kernel
theorem dX5_init_177 : decode cX5_init 177 = .ok (.iconst 0, 1) := by decide +kernel
theorem dX5_init_178 : decode cX5_init 178 = .ok (.iastore, 1) := by decide +kernel
theorem dX5_init_179 : decode cX5_init 179 = .ok (.dup, 1) := by decide +kernel
theorem dX5_init_180 : decode cX5_init 180 = .ok (.bipush 32, 2) := by decide +kernel
theorem dX5_init_182 : decode cX5_init 182 = .ok (.iconst 0, 1) := by decide +kernel
theorem dX5_init_183 : decode cX5_init 183 = .ok (.iastore, 1) := by decide +kernel
theorem dX5_init_184 : decode cX5_init 184 = .ok (.dup, 1) := by decide +kernel
theorem dX5_init_185 : decode cX5_init 185 = .ok (.bipush 33, 2) := by decide +kernel
theorem dX5_init_187 : decode cX5_init 187 = .ok (.iconst 0, 1) := by decide +kernel
theorem dX5_init_188 : decode cX5_init 188 = .ok (.iastore, 1) := by decide +kernel
theorem dX5_init_189 : decode cX5_init 189 = .ok (.dup, 1) := by decide +kernel
theorem dX5_init_190 : decode cX5_init 190 = .ok (.bipush 34, 2) := by decide +kernel
theorem dX5_init_192 : decode cX5_init 192 = .ok (.iconst 0, 1) := by decide +kernel
theorem dX5_init_193 : decode cX5_init 193 = .ok (.iastore, 1) := by decide +kernel
theorem dX5_init_194 : decode cX5_init 194 = .ok (.dup, 1) := by decide +kernel
theorem dX5_init_195 : decode cX5_init 195 = .ok (.bipush 35, 2) := by decide +kernel
theorem dX5_init_197 : decode cX5_init 197 = .ok (.iconst 0, 1) := by decide +kernel
theorem dX5_init_198 : decode cX5_init 198 = .ok (.iastore, 1) := by decide +kernel
theorem dX5_init_199 : decode cX5_init 199 = .ok (.dup, 1) := by decide +kernel
theorem dX5_init_200 : decode cX5_init 200 = .ok (.bipush 36, 2) := by decide +kernel
theorem dX5_init_202 : decode cX5_init 202 = .ok (.iconst 0, 1) := by decide +kernel
theorem dX5_init_203 : decode cX5_init 203 = .ok (.iastore, 1) := by decide +kernel
theorem dX5_init_204 : decode cX5_init 204 = .ok (.dup, 1) := by decide +kernel
theorem dX5_init_205 : decode cX5_init 205 = .ok (.bipush 37, 2) := by decide +kernel
theorem dX5_init_207 : decode cX5_init 207 = .ok (.iconst 0, 1) := by decide +kernel
theorem dX5_init_208 : decode cX5_init 208 = .ok (.iastore, 1) := by decide +kernel
theorem dX5_init_209 : decode cX5_init 209 = .ok (.dup, 1) := by decide +kernel
theorem dX5_init_210 : decode cX5_init 210 = .ok (.bipush 38, 2) := by decide +kernel
theorem dX5_init_212 : decode cX5_init 212 = .ok (.iconst 0, 1) := by decide +kernel
theorem dX5_init_213 : decode cX5_init 213 = .ok (.iastore, 1) := by decide +kernel
theorem dX5_init_214 : decode cX5_init 214 = .ok (.dup, 1) := by decide +kernel
theorem dX5_init_215 : decode cX5_init 215 = .ok (.bipush 39, 2) := by decide +kernel
theorem dX5_init_217 : decode cX5_init 217 = .ok (.iconst 0, 1) := by decide +kernel
theorem dX5_init_218 : decode cX5_init 218 = .ok (.iastore, 1) := by decide +kernel
theorem dX5_init_219 : decode cX5_init 219 = .ok (.dup, 1) := by decide +kernel
theorem dX5_init_220 : decode cX5_init 220 = .ok (.bipush 40, 2) := by decide +kernel
theorem dX5_init_222 : decode cX5_init 222 = .ok (.iconst 0, 1) := by decide +kernel
theorem dX5_init_223 : decode cX5_init 223 = .ok (.iastore, 1) := by decide +kernel
theorem dX5_init_224 : decode cX5_init 224 = .ok (.dup, 1) := by decide +kernel
theorem dX5_init_225 : decode cX5_init 225 = .ok (.bipush 41, 2) := by decide +kernel
theorem dX5_init_227 : decode cX5_init 227 = .ok (.iconst 0, 1) := by decide +kernel
theorem dX5_init_228 : decode cX5_init 228 = .ok (.iastore, 1) := by decide +kernel
theorem dX5_init_229 : decode cX5_init 229 = .ok (.dup, 1) := by decide +kernel
theorem dX5_init_230 : decode cX5_init 230 = .ok (.bipush 42, 2) := by decide +kernel
theorem dX5_init_232 : decode cX5_init 232 = .ok (.iconst 0, 1) := by decide +kernel
theorem dX5_init_233 : decode cX5_init 233 = .ok (.iastore, 1) := by decide +kernel
theorem dX5_init_234 : decode cX5_init 234 = .ok (.dup, 1) := by decide +kernel
theorem dX5_init_235 : decode cX5_init 235 = .ok (.bipush 43, 2) := by decide +kernel
theorem dX5_init_237 : decode cX5_init 237 = .ok (.iconst 0, 1) := by decide +kernel
theorem dX5_init_238 : decode cX5_init 238 = .ok (.iastore, 1) := by decide +kernel
theorem dX5_init_239 : decode cX5_init 239 = .ok (.dup, 1) := by decide +kernel
theorem dX5_init_240 : decode cX5_init 240 = .ok (.bipush 44, 2) := by decide +kernel
theorem dX5_init_242 : decode cX5_init 242 = .ok (.iconst 0, 1) := by decide +kernel
theorem dX5_init_243 : decode cX5_init 243 = .ok (.iastore, 1) := by decide +kernel
theorem dX5_init_244 : decode cX5_init 244 = .ok (.dup, 1) := by decide +kernel
theorem dX5_init_245 : decode cX5_init 245 = .ok (.bipush 45, 2) := by decide +kernel
theorem dX5_init_247 : decode cX5_init 247 = .ok (.iconst 0, 1) := by decide +kernel
theorem dX5_init_248 : decode cX5_init 248 = .ok (.iastore, 1) := by decide +kernel
theorem dX5_init_249 : decode cX5_init 249 = .ok (.dup, 1) := by decide +kernel
theorem dX5_init_250 : decode cX5_init 250 = .ok (.bipush 46, 2) := by decide +kernel
theorem dX5_init_252 : decode cX5_init 252 = .ok (.iconst 0, 1) := by decide +kernel
theorem dX5_init_253 : decode cX5_init 253 = .ok (.iastore, 1) := by decide +kernel
theorem dX5_init_254 : decode cX5_init 254 = .ok (.dup, 1) := by decide +kernel
theorem dX5_init_255 : decode cX5_init 255 = .ok (.bipush 47, 2) := by decide +kernel
theorem dX5_init_257 : decode cX5_init 257 = .ok (.iconst 0, 1) := by decide +kernel
theorem dX5_init_258 : decode cX5_init 258 = .ok (.iastore, 1) := by decide +kernel
theorem dX5_init_259 : decode cX5_init 259 = .ok (.dup, 1) := by decide +kernel
theorem dX5_init_260 : decode cX5_init 260 = .ok (.bipush 48, 2) := by decide +kernel
theorem dX5_init_262 : decode cX5_init 262 = .ok (.iconst 0, 1) := by decide +kernel
theorem dX5_init_263 : decode cX5_init 263 = .ok (.iastore, 1) := by decide +kernel
theorem dX5_init_264 : decode cX5_init 264 = .ok (.dup, 1) := by decide +kernel
theorem dX5_init_265 : decode cX5_init 265 = .ok (.bipush 49, 2) := by decide +kernel
theorem dX5_init_267 : decode cX5_init 267 = .ok (.iconst 0, 1) := by decide +kernel
theorem dX5_init_268 : decode cX5_init 268 = .ok (.iastore, 1) := by decide +kernel
theorem dX5_init_269 : decode cX5_init 269 = .ok (.dup, 1) := by decide +kernel
theorem dX5_init_270 : decode cX5_init 270 = .ok (.bipush 50, 2) := by decide +kernel
theorem dX5_init_272 : decode cX5_init 272 = .ok (.iconst 0, 1) := by decide +kernel
theorem dX5_init_273 : decode cX5_init 273 = .ok (.iastore, 1) := by decide +kernel
theorem dX5_init_274 : decode cX5_init 274 = .ok (.dup, 1) := by decide +kernel
theorem dX5_init_275 : decode cX5_init 275 = .ok (.bipush 51, 2) := by decide +kernel
theorem dX5_init_277 : decode cX5_init 277 = .ok (.iconst 0, 1) := by decide +kernel
theorem dX5_init_278 : decode cX5_init 278 = .ok (.iastore, 1) := by decide +kernel
theorem dX5_init_279 : decode cX5_init 279 = .ok (.dup, 1) := by decide +kernel
theorem dX5_init_280 : decode cX5_init 280 = .ok (.bipush 52, 2) := by decide +kernel
theorem dX5_init_282 : decode cX5_init 282 = .ok (.iconst 0, 1) := by decide +kernel
theorem dX5_init_283 : decode cX5_init 283 = .ok (.iastore, 1) := by decide +kernel
theorem dX5_init_284 : decode cX5_init 284 = .ok (.dup, 1) := by decide +kernel
theorem dX5_init_285 : decode cX5_init 285 = .ok (.bipush 53, 2) := by decide +kernel
theorem dX5_init_287 : decode cX5_init 287 = .ok (.iconst 0, 1) := by decide +kernel
theorem dX5_init_288 : decode cX5_init 288 = .ok (.iastore, 1) := by decide +kernel
theorem dX5_init_289 : decode cX5_init 289 = .ok (.dup, 1) := by decide +kernel
theorem dX5_init_290 : decode cX5_init 290 = .ok (.bipush 54, 2) := by decide +kernel
theorem dX5_init_292 : decode cX5_init 292 = .ok (.iconst 0, 1) := by decide +kernel
theorem dX5_init_293 : decode cX5_init 293 = .ok (.iastore, 1) := by decide +kernel
theorem dX5_init_294 : decode cX5_init 294 = .ok (.dup, 1) := by decide +kernel
theorem dX5_init_295 : decode cX5_init 295 = .ok (.bipush 55, 2) := by decide +kernel
theorem dX5_init_297 : decode cX5_init 297 = .ok (.iconst 0, 1) := by decide +kernel
theorem dX5_init_298 : decode cX5_init 298 = .ok (.iastore, 1) := by decide +kernel
theorem dX5_init_299 : decode cX5_init 299 = .ok (.dup, 1) := by decide +kernel
theorem dX5_init_300 : decode cX5_init 300 = .ok (.bipush 56, 2) := by decide +kernel
theorem dX5_init_302 : decode cX5_init 302 = .ok (.iconst 0, 1) := by decide +kernel
theorem dX5_init_303 : decode cX5_init 303 = .ok (.iastore, 1) := by decide +kernel
theorem dX5_init_304 : decode cX5_init 304 = .ok (.dup, 1) := by decide +kernel
theorem dX5_init_305 : decode cX5_init 305 = .ok (.bipush 57, 2) := by decide +kernel
theorem dX5_init_307 : decode cX5_init 307 = .ok (.iconst 0, 1) := by decide +kernel
theorem dX5_init_308 : decode cX5_init 308 = .ok (.iastore, 1) := by decide +kernel
theorem dX5_init_309 : decode cX5_init 309 = .ok (.dup, 1) := by decide +kernel
theorem dX5_init_310 : decode cX5_init 310 = .ok (.bipush 58, 2) := by decide +kernel
theorem dX5_init_312 : decode cX5_init 312 = .ok (.iconst 0, 1) := by decide +kernel
theorem dX5_init_313 : decode cX5_init 313 = .ok (.iastore, 1) := by decide +kernel
theorem dX5_init_314 : decode cX5_init 314 = .ok (.dup, 1) := by decide +kernel
theorem dX5_init_315 : decode cX5_init 315 = .ok (.bipush 59, 2) := by decide +kernel
theorem dX5_init_317 : decode cX5_init 317 = .ok (.iconst 0, 1) := by decide +kernel
theorem dX5_init_318 : decode cX5_init 318 = .ok (.iastore, 1) := by decide +kernel
theorem dX5_init_319 : decode cX5_init 319 = .ok (.putfield 17, 3) := by decide +kernel
theorem dX5_init_322 : decode cX5_init 322 = .ok (.aload_n 0, 1) := by decide +kernel
theorem dX5_init_323 : decode cX5_init 323 = .ok (.bipush 60, 2) := by decide +kernel
theorem dX5_init_325 : decode cX5_init 325 = .ok (.newarray .int, 2) := by decide +kernel
theorem dX5_init_327 : decode cX5_init 327 = .ok (.putfield 20, 3) := by decide +kernel
theorem dX5_init_330 : decode cX5_init 330 = .ok (.aload_n 0, 1) := by decide +kernel
theorem dX5_init_331 : decode cX5_init 331 = .ok (.bipush 60, 2) := by decide +kernel
theorem dX5_init_333 : decode cX5_init 333 = .ok (.newarray .boolean, 2) := by decide +kernel
theorem dX5_init_335 : decode cX5_init 335 = .ok (.putfield 23, 3) := by decide +kernel
theorem dX5_init_338 : decode cX5_init 338 = .ok (.aload_n 0, 1) := by decide +kernel
theorem dX5_init_339 : decode cX5_init 339 = .ok (.bipush 60, 2) := by decide +kernel
theorem dX5_init_341 : decode cX5_init 341 = .ok (.newarray .int, 2) := by decide +kernel
theorem dX5_init_343 : decode cX5_init 343 = .ok (.putfield 27, 3) := by decide +kernel
theorem dX5_init_346 : decode cX5_init 346 = .ok (.aload_n 0, 1) := by decide +kernel
theorem dX5_init_347 : decode cX5_init 347 = .ok (.bipush 60, 2) := by decide +kernel
theorem dX5_init_349 : decode cX5_init 349 = .ok (.newarray .int, 2) := by decide +kernel
theorem dX5_init_351 : decode cX5_init 351 = .ok (.putfield 30, 3) := by decide +kernel
theorem dX5_init_354 : decode cX5_init 354 = .ok (.aload_n 0, 1) := by decide +kernel
theorem dX5_init_355 : decode cX5_init 355 = .ok (.sipush 300, 3) := by decide +kernel
theorem dX5_init_358 : decode cX5_init 358 = .ok (.newarray .int, 2) := by decide +kernel
theorem dX5_init_360 : decode cX5_init 360 = .ok (.putfield 33, 3) := by decide +kernel
theorem dX5_init_363 : decode cX5_init 363 = .ok (.aload_n 0, 1) := by decide +kernel
theorem dX5_init_364 : decode cX5_init 364 = .ok (.sipush 300, 3) := by decide +kernel
theorem dX5_init_367 : decode cX5_init 367 = .ok (.newarray .int, 2) := by decide +kernel
theorem dX5_init_369 : decode cX5_init 369 = .ok (.putfield 36, 3) := by decide +kernel
theorem dX5_init_372 : decode cX5_init 372 = .ok (.aload_n 0, 1) := by decide +kernel
theorem dX5_init_373 : decode cX5_init 373 = .ok (.bipush 60, 2) := by decide +kernel
theorem dX5_init_375 : decode cX5_init 375 = .ok (.newarray .int, 2) := by decide +kernel
theorem dX5_init_377 : decode cX5_init 377 = .ok (.putfield 39, 3) := by decide +kernel
theorem dX5_init_380 : decode cX5_init 380 = .ok (.aload_n 0, 1) := by decide +kernel
theorem dX5_init_381 : decode cX5_init 381 = .ok (.sipush 1200, 3) := by decide +kernel
theorem dX5_init_384 : decode cX5_init 384 = .ok (.newarray .int, 2) := by decide +kernel
theorem dX5_init_386 : decode cX5_init 386 = .ok (.putfield 42, 3) := by decide +kernel
theorem dX5_init_389 : decode cX5_init 389 = .ok (.aload_n 0, 1) := by decide +kernel
theorem dX5_init_390 : decode cX5_init 390 = .ok (.iconst 2, 1) := by decide +kernel
theorem dX5_init_391 : decode cX5_init 391 = .ok (.putfield 45, 3) := by decide +kernel
theorem dX5_init_394 : decode cX5_init 394 = .ok (.aload_n 0, 1) := by decide +kernel
theorem dX5_init_395 : decode cX5_init 395 = .ok (.bipush 20, 2) := by decide +kernel
theorem dX5_init_397 : decode cX5_init 397 = .ok (.putfield 48, 3) := by decide +kernel
theorem dX5_init_400 : decode cX5_init 400 = .ok (.aload_n 0, 1) := by decide +kernel
theorem dX5_init_401 : decode cX5_init 401 = .ok (.bipush 15, 2) := by decide +kernel
theorem dX5_init_403 : decode cX5_init 403 = .ok (.newarray .boolean, 2) := by decide +kernel
theorem dX5_init_405 : decode cX5_init 405 = .ok (.putfield 51, 3) := by decide +kernel
theorem dX5_init_408 : decode cX5_init 408 = .ok (.aload_n 0, 1) := by decide +kernel
theorem dX5_init_409 : decode cX5_init 409 = .ok (.sipush 256, 3) := by decide +kernel
theorem dX5_init_412 : decode cX5_init 412 = .ok (.newarray .boolean, 2) := by decide +kernel
theorem dX5_init_414 : decode cX5_init 414 = .ok (.putfield 54, 3) := by decide +kernel
theorem dX5_init_417 : decode cX5_init 417 = .ok (.aload_n 0, 1) := by decide +kernel
theorem dX5_init_418 : decode cX5_init 418 = .ok (.sipush 256, 3) := by decide +kernel
theorem dX5_init_421 : decode cX5_init 421 = .ok (.newarray .boolean, 2) := by decide +kernel
theorem dX5_init_423 : decode cX5_init 423 = .ok (.putfield 57, 3) := by decide +kernel
theorem dX5_init_426 : decode cX5_init 426 = .ok (.aload_n 0, 1) := by decide +kernel
theorem dX5_init_427 : decode cX5_init 427 = .ok (.sipush 256, 3) := by decide +kernel
theorem dX5_init_430 : decode cX5_init 430 = .ok (.newarray .int, 2) := by decide +kernel
theorem dX5_init_432 : decode cX5_init 432 = .ok (.putfield 60, 3) := by decide +kernel
theorem dX5_init_435 : decode cX5_init 435 = .ok (.aload_n 0, 1) := by decide +kernel
theorem dX5_init_436 : decode cX5_init 436 = .ok (.bipush 60, 2) := by decide +kernel
theorem dX5_init_438 : decode cX5_init 438 = .ok (.newarray .boolean, 2) := by decide +kernel
theorem dX5_init_440 : decode cX5_init 440 = .ok (.putfield 63, 3) := by decide +kernel
theorem dX5_init_443 : decode cX5_init 443 = .ok (.aload_n 0, 1) := by decide +kernel
theorem dX5_init_444 : decode cX5_init 444 = .ok (.bipush 60, 2) := by decide +kernel
theorem dX5_init_446 : decode cX5_init 446 = .ok (.newarray .int, 2) := by decide +kernel
theorem dX5_init_448 : decode cX5_init 448 = .ok (.putfield 66, 3) := by decide +kernel
theorem dX5_init_451 : decode cX5_init 451 = .ok (.aload_n 0, 1) := by decide +kernel
theorem dX5_init_452 : decode cX5_init 452 = .ok (.bipush 60, 2) := by decide +kernel
theorem dX5_init_454 : decode cX5_init 454 = .ok (.newarray .int, 2) := by decide +kernel
theorem dX5_init_456 : decode cX5_init 456 = .ok (.putfield 69, 3) := by decide +kernel
theorem dX5_init_459 : decode cX5_init 459 = .ok (.aload_n 0, 1) := by decide +kernel
theorem dX5_init_460 : decode cX5_init 460 = .ok (.bipush 60, 2) := by decide +kernel
theorem dX5_init_462 : decode cX5_init 462 = .ok (.newarray .boolean, 2) := by decide +kernel
theorem dX5_init_464 : decode cX5_init 464 = .ok (.putfield 72, 3) := by decide +kernel
theorem dX5_init_467 : decode cX5_init 467 = .ok (.aload_n 0, 1) := by decide +kernel
theorem dX5_init_468 : decode cX5_init 468 = .ok (.iconst 0, 1) := by decide +kernel
theorem dX5_init_469 : decode cX5_init 469 = .ok (.iconst 1, 1) := by decide +kernel
theorem dX5_init_470 : decode cX5_init 470 = .ok (.invokevirtual 75, 3) := by decide +kernel
theorem dX5_init_473 : decode cX5_init 473 = .ok (.return_, 1) := by decide +kernel
theorem dX5_thrown_0 : decode cX5_thrown 0 = .ok (.aload_n 0, 1) := by decide +kernel
theorem dX5_thrown_1 : decode cX5_thrown 1 = .ok (.getfield 79, 3) := by decide +kernel
theorem dX5_thrown_4 : decode cX5_thrown 4 = .ok (.ireturn, 1) := by decide +kernel
theorem dX5_goesWell_0 : decode cX5_goesWell 0 = .ok (.aload_n 0, 1) := by decide +kernel
theorem dX5_goesWell_1 : decode cX5_goesWell 1 = .ok (.iload_n 1, 1) := by decide +kernel
theorem dX5_goesWell_2 : decode cX5_goesWell 2 = .ok (.putfield 79, 3) := by decide +kernel
theorem dX5_goesWell_5 : decode cX5_goesWell 5 = .ok (.iload_n 1, 1) := by decide +kernel
theorem dX5_goesWell_6 : decode cX5_goesWell 6 = .ok (.ifCond .ne 7, 3) := by decide +kernel
theorem dX5_goesWell_9 : decode cX5_goesWell 9 = .ok (.iconst 1, 1) := by decide +kernel
theorem dX5_goesWell_10 : decode cX5_goesWell 10 = .ok (.goto 4, 3) := by decide +kernel
theorem dX5_goesWell_13 : decode cX5_goesWell 13 = .ok (.iconst 0, 1) := by decide +kernel
theorem dX5_goesWell_14 : decode cX5_goesWell 14 = .ok (.ireturn, 1) := by decide +kernel
theorem dX5_in_0 : decode cX5_in 0 = .ok (.iload_n 0, 1) := by decide +kernel
theorem dX5_in_1 : decode cX5_in 1 = .ok (.iload_n 1, 1) := by decide +kernel
theorem dX5_in_2 : decode cX5_in 2 = .ok (.if_icmp .lt 12, 3) := by decide +kernel
theorem dX5_in_5 : decode cX5_in 5 = .ok (.iload_n 0, 1) := by decide +kernel
theorem dX5_in_6 : decode cX5_in 6 = .ok (.iload_n 2, 1) := by decide +kernel
theorem dX5_in_7 : decode cX5_in 7 = .ok (.if_icmp .gt 7, 3) := by decide +kernel
theorem dX5_in_10 : decode cX5_in 10 = .ok (.iconst 1, 1) := by decide +kernel
theorem dX5_in_11 : decode cX5_in 11 = .ok (.goto 4, 3) := by decide +kernel
theorem dX5_in_14 : decode cX5_in 14 = .ok (.iconst 0, 1) := by decide +kernel
theorem dX5_in_15 : decode cX5_in 15 = .ok (.ireturn, 1) := by decide +kernel
set_option maxRecDepth 20000 in
theorem ggX5_isPiece_X5_in : GoodIn wsX5_isPiece wsX5_in := goodIn_r _ [6] (by decide +kernel) (by decide +kernel)
set_option maxRecDepth 20000 in
theorem gX5_isPiece_X5_in : GoodIn wsX5_isPiece (va_wsS RX5 82 yX5_in wsX5_in) := goodIn_app (goodIn_of _ (by decide +kernel)) ggX5_isPiece_X5_in
theorem dX5_isPiece_0 : decode cX5_isPiece 0 = .ok (.iload_n 1, 1) := by decide +kernel
theorem dX5_isPiece_1 : decode cX5_isPiece 1 = .ok (.iconst 0, 1) := by decide +kernel
theorem dX5_isPiece_2 : decode cX5_isPiece 2 = .ok (.aload_n 0, 1) := by decide +kernel
theorem dX5_isPiece_3 : decode cX5_isPiece 3 = .ok (.getfield 7, 3) := by decide +kernel
theorem dX5_isPiece_6 : decode cX5_isPiece 6 = .ok (.iconst 1, 1) := by decide +kernel
theorem dX5_isPiece_7 : decode cX5_isPiece 7 = .ok (.isub, 1) := by decide +kernel
theorem dX5_isPiece_8 : decode cX5_isPiece 8 = .ok (.invokestatic 82, 3) := by decide +kernel
theorem dX5_isPiece_11 : decode cX5_isPiece 11 = .ok (.ifCond .eq 16, 3) := by decide +kernel
theorem dX5_isPiece_14 : decode cX5_isPiece 14 = .ok (.aload_n 0, 1) := by decide +kernel
theorem dX5_isPiece_15 : decode cX5_isPiece 15 = .ok (.getfield 17, 3) := by decide +kernel
theorem dX5_isPiece_18 : decode cX5_isPiece 18 = .ok (.iload_n 1, 1) := by decide +kernel
theorem dX5_isPiece_19 : decode cX5_isPiece 19 = .ok (.iaload, 1) := by decide +kernel
theorem dX5_isPiece_20 : decode cX5_isPiece 20 = .ok (.ifCond .le 7, 3) := by decide +kernel
theorem dX5_isPiece_23 : decode cX5_isPiece 23 = .ok (.iconst 1, 1) := by decide +kernel
theorem dX5_isPiece_24 : decode cX5_isPiece 24 = .ok (.goto 4, 3) := by decide +kernel
theorem dX5_isPiece_27 : decode cX5_isPiece 27 = .ok (.iconst 0, 1) := by decide +kernel
theorem dX5_isPiece_28 : decode cX5_isPiece 28 = .ok (.ireturn, 1) := by decide +kernel
set_option maxRecDepth 20000 in
theorem ggX5_isCell_X5_in : GoodIn wsX5_isCell wsX5_in := goodIn_r _ [4] (by decide +kernel) (by decide +kernel)
set_option maxRecDepth 20000 in
theorem gX5_isCell_X5_in : GoodIn wsX5_isCell (va_wsS RX5 82 yX5_in wsX5_in) := goodIn_app (goodIn_of _ (by decide +kernel)) ggX5_isCell_X5_in
theorem dX5_isCell_0 : decode cX5_isCell 0 = .ok (.iload_n 0, 1) := by decide +kernel
theorem dX5_isCell_1 : decode cX5_isCell 1 = .ok (.iconst 0, 1) := by decide +kernel
theorem dX5_isCell_2 : decode cX5_isCell 2 = .ok (.sipush 255, 3) := by decide +kernel
theorem dX5_isCell_5 : decode cX5_isCell 5 = .ok (.invokestatic 82, 3) := by decide +kernel
theorem dX5_isCell_8 : decode cX5_isCell 8 = .ok (.ireturn, 1) := by decide +kernel
set_option maxRecDepth 20000 in
theorem ggX5_isLine_X5_in : GoodIn wsX5_isLine wsX5_in := goodIn_r _ [4] (by decide +kernel) (by decide +kernel)
set_option maxRecDepth 20000 in
theorem gX5_isLine_X5_in : GoodIn wsX5_isLine (va_wsS RX5 82 yX5_in wsX5_in) := goodIn_app (goodIn_of _ (by decide +kernel)) ggX5_isLine_X5_in
theorem dX5_isLine_0 : decode cX5_isLine 0 = .ok (.iload_n 0, 1) := by decide +kernel
theorem dX5_isLine_1 : decode cX5_isLine 1 = .ok (.iconst 0, 1) := by decide +kernel
theorem dX5_isLine_2 : decode cX5_isLine 2 = .ok (.bipush 14, 2) := by decide +kernel
theorem dX5_isLine_4 : decode cX5_isLine 4 = .ok (.invokestatic 82, 3) := by decide +kernel
theorem dX5_isLine_7 : decode cX5_isLine 7 = .ok (.ifCond .ne 14, 3) := by decide +kernel
theorem dX5_isLine_10 : decode cX5_isLine 10 = .ok (.iload_n 0, 1) := by decide +kernel
theorem dX5_isLine_11 : decode cX5_isLine 11 = .ok (.bipush 16, 2) := by decide +kernel
theorem dX5_isLine_13 : decode cX5_isLine 13 = .ok (.bipush 30, 2) := by decide +kernel
theorem dX5_isLine_15 : decode cX5_isLine 15 = .ok (.invokestatic 82, 3) := by decide +kernel
theorem dX5_isLine_18 : decode cX5_isLine 18 = .ok (.ifCond .eq 7, 3) := by decide +kernel
theorem dX5_isLine_21 : decode cX5_isLine 21 = .ok (.iconst 1, 1) := by decide +kernel
theorem dX5_isLine_22 : decode cX5_isLine 22 = .ok (.goto 4, 3) := by decide +kernel
theorem dX5_isLine_25 : decode cX5_isLine 25 = .ok (.iconst 0, 1) := by decide +kernel
theorem dX5_isLine_26 : decode cX5_isLine 26 = .ok (.ireturn, 1) := by decide +kernel
theorem dX5_note_0 : decode cX5_note 0 = .ok (.aload_n 0, 1) := by decide +kernel
theorem dX5_note_1 : decode cX5_note 1 = .ok (.getfield 39, 3) := by decide +kernel
theorem dX5_note_4 : decode cX5_note 4 = .ok (.iload_n 1, 1) := by decide +kernel
theorem dX5_note_5 : decode cX5_note 5 = .ok (.iaload, 1) := by decide +kernel
theorem dX5_note_6 : decode cX5_note 6 = .ok (.bipush 20, 2) := by decide +kernel
theorem dX5_note_8 : decode cX5_note 8 = .ok (.if_icmp .ge 30, 3) := by decide +kernel
theorem dX5_note_11 : decode cX5_note 11 = .ok (.aload_n 0, 1) := by decide +kernel
theorem dX5_note_12 : decode cX5_note 12 = .ok (.getfield 42, 3) := by decide +kernel
theorem dX5_note_15 : decode cX5_note 15 = .ok (.bipush 20, 2) := by decide +kernel
theorem dX5_note_17 : decode cX5_note 17 = .ok (.iload_n 1, 1) := by decide +kernel
theorem dX5_note_18 : decode cX5_note 18 = .ok (.imul, 1) := by decide +kernel
theorem dX5_note_19 : decode cX5_note 19 = .ok (.aload_n 0, 1) := by decide +kernel
theorem dX5_note_20 : decode cX5_note 20 = .ok (.getfield 39, 3) := by decide +kernel
theorem dX5_note_23 : decode cX5_note 23 = .ok (.iload_n 1, 1) := by decide +kernel
theorem dX5_note_24 : decode cX5_note 24 = .ok (.iaload, 1) := by decide +kernel
theorem dX5_note_25 : decode cX5_note 25 = .ok (.iadd, 1) := by decide +kernel
theorem dX5_note_26 : decode cX5_note 26 = .ok (.iload_n 2, 1) := by decide +kernel
theorem dX5_note_27 : decode cX5_note 27 = .ok (.iastore, 1) := by decide +kernel
theorem dX5_note_28 : decode cX5_note 28 = .ok (.aload_n 0, 1) := by decide +kernel
theorem dX5_note_29 : decode cX5_note 29 = .ok (.getfield 39, 3) := by decide +kernel
theorem dX5_note_32 : decode cX5_note 32 = .ok (.iload_n 1, 1) := by decide +kernel
theorem dX5_note_33 : decode cX5_note 33 = .ok (.dup2, 1) := by decide +kernel
theorem dX5_note_34 : decode cX5_note 34 = .ok (.iaload, 1) := by decide +kernel
theorem dX5_note_35 : decode cX5_note 35 = .ok (.iconst 1, 1) := by decide +kernel
theorem dX5_note_36 : decode cX5_note 36 = .ok (.iadd, 1) := by decide +kernel
theorem dX5_note_37 : decode cX5_note 37 = .ok (.iastore, 1) := by decide +kernel
theorem dX5_note_38 : decode cX5_note 38 = .ok (.return_, 1) := by decide +kernel
theorem dX5_isBeyond_0 : decode cX5_isBeyond 0 = .ok (.iload_n 1, 1) := by decide +kernel
theorem dX5_isBeyond_1 : decode cX5_isBeyond 1 = .ok (.bipush 16, 2) := by decide +kernel
theorem dX5_isBeyond_3 : decode cX5_isBeyond 3 = .ok (.if_icmp .ge 19, 3) := by decide +kernel
theorem dX5_isBeyond_6 : decode cX5_isBeyond 6 = .ok (.iload_n 0, 1) := by decide +kernel
theorem dX5_isBeyond_7 : decode cX5_isBeyond 7 = .ok (.bipush 16, 2) := by decide +kernel
theorem dX5_isBeyond_9 : decode cX5_isBeyond 9 = .ok (.idiv, 1) := by decide +kernel
theorem dX5_isBeyond_10 : decode cX5_isBeyond 10 = .ok (.iload_n 1, 1) := by decide +kernel
theorem dX5_isBeyond_11 : decode cX5_isBeyond 11 = .ok (.if_icmp .le 7, 3) := by decide +kernel
theorem dX5_isBeyond_14 : decode cX5_isBeyond 14 = .ok (.iconst 1, 1) := by decide +kernel
theorem dX5_isBeyond_15 : decode cX5_isBeyond 15 = .ok (.goto 23, 3) := by decide +kernel
theorem dX5_isBeyond_18 : decode cX5_isBeyond 18 = .ok (.iconst 0, 1) := by decide +kernel
theorem dX5_isBeyond_19 : decode cX5_isBeyond 19 = .ok (.goto 19, 3) := by decide +kernel
theorem dX5_isBeyond_22 : decode cX5_isBeyond 22 = .ok (.iload_n 0, 1) := by decide +kernel
theorem dX5_isBeyond_23 : decode cX5_isBeyond 23 = .ok (.bipush 16, 2) := by decide +kernel
theorem dX5_isBeyond_25 : decode cX5_isBeyond 25 = .ok (.irem, 1) := by decide +kernel
theorem dX5_isBeyond_26 : decode cX5_isBeyond 26 = .ok (.iload_n 1, 1) := by decide +kernel
theorem dX5_isBeyond_27 : decode cX5_isBeyond 27 = .ok (.bipush 16, 2) := by decide +kernel
theorem dX5_isBeyond_29 : decode cX5_isBeyond 29 = .ok (.isub, 1) := by decide +kernel
theorem dX5_isBeyond_30 : decode cX5_isBeyond 30 = .ok (.if_icmp .le 7, 3) := by decide +kernel
theorem dX5_isBeyond_33 : decode cX5_isBeyond 33 = .ok (.iconst 1, 1) := by decide +kernel
theorem dX5_isBeyond_34 : decode cX5_isBeyond 34 = .ok (.goto 4, 3) := by decide +kernel
theorem dX5_isBeyond_37 : decode cX5_isBeyond 37 = .ok (.iconst 0, 1) := by decide +kernel
theorem dX5_isBeyond_38 : decode cX5_isBeyond 38 = .ok (.ireturn, 1) := by decide +kernel
set_option maxRecDepth 20000 in
theorem ggX5_setSide_X5_isBeyond : GoodIn wsX5_setSide wsX5_isBeyond := goodIn_r _ [6] (by decide +kernel) (by decide +kernel)
set_option maxRecDepth 20000 in
theorem gX5_setSide_X5_isBeyond : GoodIn wsX5_setSide (va_wsS RX5 86 yX5_isBeyond wsX5_isBeyond) := goodIn_app (goodIn_of _ (by decide +kernel)) ggX5_setSide_X5_isBeyond
theorem dX5_setSide_0 : decode cX5_setSide 0 = .ok (.iconst 0, 1) := by decide +kernel
theorem dX5_setSide_1 : decode cX5_setSide 1 = .ok (.istore 4, 2) := by decide +kernel
theorem dX5_setSide_3 : decode cX5_setSide 3 = .ok (.iconst 0, 1) := by decide +kernel
theorem dX5_setSide_4 : decode cX5_setSide 4 = .ok (.istore 5, 2) := by decide +kernel
theorem dX5_setSide_6 : decode cX5_setSide 6 = .ok (.iload 5, 2) := by decide +kernel
theorem dX5_setSide_8 : decode cX5_setSide 8 = .ok (.sipush 256, 3) := by decide +kernel
theorem dX5_setSide_11 : decode cX5_setSide 11 = .ok (.if_icmp .ge 62, 3) := by decide +kernel
theorem dX5_setSide_14 : decode cX5_setSide 14 = .ok (.aload_n 0, 1) := by decide +kernel
theorem dX5_setSide_15 : decode cX5_setSide 15 = .ok (.getfield 54, 3) := by decide +kernel
theorem dX5_setSide_18 : decode cX5_setSide 18 = .ok (.iload 5, 2) := by decide +kernel
theorem dX5_setSide_20 : decode cX5_setSide 20 = .ok (.aload_n 0, 1) := by decide +kernel
theorem dX5_setSide_21 : decode cX5_setSide 21 = .ok (.getfield 13, 3) := by decide +kernel
theorem dX5_setSide_24 : decode cX5_setSide 24 = .ok (.iload 5, 2) := by decide +kernel
theorem dX5_setSide_26 : decode cX5_setSide 26 = .ok (.iaload, 1) := by decide +kernel
theorem dX5_setSide_27 : decode cX5_setSide 27 = .ok (.iload_n 1, 1) := by decide +kernel
theorem dX5_setSide_28 : decode cX5_setSide 28 = .ok (.if_icmp .ne 17, 3) := by decide +kernel
theorem dX5_setSide_31 : decode cX5_setSide 31 = .ok (.iload 5, 2) := by decide +kernel
theorem dX5_setSide_33 : decode cX5_setSide 33 = .ok (.iload_n 2, 1) := by decide +kernel
theorem dX5_setSide_34 : decode cX5_setSide 34 = .ok (.invokestatic 86, 3) := by decide +kernel
theorem dX5_setSide_37 : decode cX5_setSide 37 = .ok (.iload_n 3, 1) := by decide +kernel
theorem dX5_setSide_38 : decode cX5_setSide 38 = .ok (.if_icmp .ne 7, 3) := by decide +kernel
theorem dX5_setSide_41 : decode cX5_setSide 41 = .ok (.iconst 1, 1) := by decide +kernel
theorem dX5_setSide_42 : decode cX5_setSide 42 = .ok (.goto 4, 3) := by decide +kernel
theorem dX5_setSide_45 : decode cX5_setSide 45 = .ok (.iconst 0, 1) := by decide +kernel
theorem dX5_setSide_46 : decode cX5_setSide 46 = .ok (.bastore, 1) := by decide +kernel
theorem dX5_setSide_47 : decode cX5_setSide 47 = .ok (.iload 4, 2) := by decide +kernel
theorem dX5_setSide_49 : decode cX5_setSide 49 = .ok (.aload_n 0, 1) := by decide +kernel
theorem dX5_setSide_50 : decode cX5_setSide 50 = .ok (.getfield 54, 3) := by decide +kernel
theorem dX5_setSide_53 : decode cX5_setSide 53 = .ok (.iload 5, 2) := by decide +kernel
theorem dX5_setSide_55 : decode cX5_setSide 55 = .ok (.baload, 1) := by decide +kernel
theorem dX5_setSide_56 : decode cX5_setSide 56 = .ok (.ifCond .eq 7, 3) := by decide +kernel
theorem dX5_setSide_59 : decode cX5_setSide 59 = .ok (.iconst 1, 1) := by decide +kernel
theorem dX5_setSide_60 : decode cX5_setSide 60 = .ok (.goto 4, 3) := by decide +kernel
theorem dX5_setSide_63 : decode cX5_setSide 63 = .ok (.iconst 0, 1) := by decide +kernel
theorem dX5_setSide_64 : decode cX5_setSide 64 = .ok (.iadd, 1) := by decide +kernel
theorem dX5_setSide_65 : decode cX5_setSide 65 = .ok (.istore 4, 2) := by decide +kernel
theorem dX5_setSide_67 : decode cX5_setSide 67 = .ok (.iinc 5 1, 3) := by decide +kernel
theorem dX5_setSide_70 : decode cX5_setSide 70 = .ok (.goto (-64), 3) := by decide +kernel
theorem dX5_setSide_73 : decode cX5_setSide 73 = .ok (.iload 4, 2) := by decide +kernel
theorem dX5_setSide_75 : decode cX5_setSide 75 = .ok (.ireturn, 1) := by decide +kernel
theorem dX5_setPiece_0 : decode cX5_setPiece 0 = .ok (.iconst 0, 1) := by decide +kernel
theorem dX5_setPiece_1 : decode cX5_setPiece 1 = .ok (.istore_n 3, 1) := by decide +kernel
theorem dX5_setPiece_2 : decode cX5_setPiece 2 = .ok (.iconst 0, 1) := by decide +kernel
theorem dX5_setPiece_3 : decode cX5_setPiece 3 = .ok (.istore 4, 2) := by decide +kernel
theorem dX5_setPiece_5 : decode cX5_setPiece 5 = .ok (.iload 4, 2) := by decide +kernel
theorem dX5_setPiece_7 : decode cX5_setPiece 7 = .ok (.sipush 256, 3) := by decide +kernel
theorem dX5_setPiece_10 : decode cX5_setPiece 10 = .ok (.if_icmp .ge 56, 3) := by decide +kernel
theorem dX5_setPiece_13 : decode cX5_setPiece 13 = .ok (.aload_n 0, 1) := by decide +kernel
theorem dX5_setPiece_14 : decode cX5_setPiece 14 = .ok (.getfield 54, 3) := by decide +kernel
theorem dX5_setPiece_17 : decode cX5_setPiece 17 = .ok (.iload 4, 2) := by decide +kernel
theorem dX5_setPiece_19 : decode cX5_setPiece 19 = .ok (.aload_n 0, 1) := by decide +kernel
theorem dX5_setPiece_20 : decode cX5_setPiece 20 = .ok (.getfield 13, 3) := by decide +kernel
theorem dX5_setPiece_23 : decode cX5_setPiece 23 = .ok (.iload 4, 2) := by decide +kernel
theorem dX5_setPiece_25 : decode cX5_setPiece 25 = .ok (.iaload, 1) := by decide +kernel
theorem dX5_setPiece_26 : decode cX5_setPiece 26 = .ok (.iload_n 1, 1) := by decide +kernel
theorem dX5_setPiece_27 : decode cX5_setPiece 27 = .ok (.if_icmp .ne 13, 3) := by decide +kernel
theorem dX5_setPiece_30 : decode cX5_setPiece 30 = .ok (.iload 4, 2) := by decide +kernel
theorem dX5_setPiece_32 : decode cX5_setPiece 32 = .ok (.iload_n 2, 1) := by decide +kernel
theorem dX5_setPiece_33 : decode cX5_setPiece 33 = .ok (.if_icmp .eq 7, 3) := by decide +kernel
theorem dX5_setPiece_36 : decode cX5_setPiece 36 = .ok (.iconst 1, 1) := by decide +kernel
theorem dX5_setPiece_37 : decode cX5_setPiece 37 = .ok (.goto 4, 3) := by decide +kernel
theorem dX5_setPiece_40 : decode cX5_setPiece 40 = .ok (.iconst 0, 1) := by decide +kernel
theorem dX5_setPiece_41 : decode cX5_setPiece 41 = .ok (.bastore, 1) := by decide +kernel
theorem dX5_setPiece_42 : decode cX5_setPiece 42 = .ok (.iload_n 3, 1) := by decide +kernel
theorem dX5_setPiece_43 : decode cX5_setPiece 43 = .ok (.aload_n 0, 1) := by decide +kernel
theorem dX5_setPiece_44 : decode cX5_setPiece 44 = .ok (.getfield 54, 3) := by decide +kernel
theorem dX5_setPiece_47 : decode cX5_setPiece 47 = .ok (.iload 4, 2) := by decide +kernel
theorem dX5_setPiece_49 : decode cX5_setPiece 49 = .ok (.baload, 1) := by decide +kernel
theorem dX5_setPiece_50 : decode cX5_setPiece 50 = .ok (.ifCond .eq 7, 3) := by decide +kernel
theorem dX5_setPiece_53 : decode cX5_setPiece 53 = .ok (.iconst 1, 1) := by decide +kernel
theorem dX5_setPiece_54 : decode cX5_setPiece 54 = .ok (.goto 4, 3) := by decide +kernel
theorem dX5_setPiece_57 : decode cX5_setPiece 57 = .ok (.iconst 0, 1) := by decide +kernel
theorem dX5_setPiece_58 : decode cX5_setPiece 58 = .ok (.iadd, 1) := by decide +kernel
theorem dX5_setPiece_59 : decode cX5_setPiece 59 = .ok (.istore_n 3, 1) := by decide +kernel
theorem dX5_setPiece_60 : decode cX5_setPiece 60 = .ok (.iinc 4 1, 3) := by decide +kernel
theorem dX5_setPiece_63 : decode cX5_setPiece 63 = .ok (.goto (-58), 3) := by decide +kernel
theorem dX5_setPiece_66 : decode cX5_setPiece 66 = .ok (.iload_n 3, 1) := by decide +kernel
theorem dX5_setPiece_67 : decode cX5_setPiece 67 = .ok (.ireturn, 1) := by decide +kernel
set_option maxRecDepth 20000 in
theorem ggX5_beside_X5_in : GoodIn wsX5_beside wsX5_in := goodIn_r _ [4] (by decide +kernel) (by decide +kernel)
set_option maxRecDepth 20000 in
theorem gX5_beside_X5_in : GoodIn wsX5_beside (va_wsS RX5 82 yX5_in wsX5_in) := goodIn_app (goodIn_of _ (by decide +kernel)) ggX5_beside_X5_in
theorem dX5_beside_0 : decode cX5_beside 0 = .ok (.iload_n 0, 1) := by decide +kernel
theorem dX5_beside_1 : decode cX5_beside 1 = .ok (.bipush 16, 2) := by decide +kernel
theorem dX5_beside_3 : decode cX5_beside 3 = .ok (.idiv, 1) := by decide +kernel
theorem dX5_beside_4 : decode cX5_beside 4 = .ok (.iload_n 1, 1) := by decide +kernel
theorem dX5_beside_5 : decode cX5_beside 5 = .ok (.ifCond .ne 7, 3) := by decide +kernel
theorem dX5_beside_8 : decode cX5_beside 8 = .ok (.iconst (-1), 1) := by decide +kernel
theorem dX5_beside_9 : decode cX5_beside 9 = .ok (.goto 13, 3) := by decide +kernel
theorem dX5_beside_12 : decode cX5_beside 12 = .ok (.iload_n 1, 1) := by decide +kernel
theorem dX5_beside_13 : decode cX5_beside 13 = .ok (.iconst 1, 1) := by decide +kernel
theorem dX5_beside_14 : decode cX5_beside 14 = .ok (.if_icmp .ne 7, 3) := by decide +kernel
theorem dX5_beside_17 : decode cX5_beside 17 = .ok (.iconst 1, 1) := by decide +kernel
theorem dX5_beside_18 : decode cX5_beside 18 = .ok (.goto 4, 3) := by decide +kernel
theorem dX5_beside_21 : decode cX5_beside 21 = .ok (.iconst 0, 1) := by decide +kernel
theorem dX5_beside_22 : decode cX5_beside 22 = .ok (.iadd, 1) := by decide +kernel
theorem dX5_beside_23 : decode cX5_beside 23 = .ok (.istore_n 2, 1) := by decide +kernel
theorem dX5_beside_24 : decode cX5_beside 24 = .ok (.iload_n 0, 1) := by decide +kernel
theorem dX5_beside_25 : decode cX5_beside 25 = .ok (.bipush 16, 2) := by decide +kernel
theorem dX5_beside_27 : decode cX5_beside 27 = .ok (.irem, 1) := by decide +kernel
theorem dX5_beside_28 : decode cX5_beside 28 = .ok (.iload_n 1, 1) := by decide +kernel
theorem dX5_beside_29 : decode cX5_beside 29 = .ok (.iconst 2, 1) := by decide +kernel
theorem dX5_beside_30 : decode cX5_beside 30 = .ok (.if_icmp .ne 7, 3) := by decide +kernel
theorem dX5_beside_33 : decode cX5_beside 33 = .ok (.iconst (-1), 1) := by decide +kernel
theorem dX5_beside_34 : decode cX5_beside 34 = .ok (.goto 13, 3) := by decide +kernel
theorem dX5_beside_37 : decode cX5_beside 37 = .ok (.iload_n 1, 1) := by decide +kernel
theorem dX5_beside_38 : decode cX5_beside 38 = .ok (.iconst 3, 1) := by decide +kernel
theorem dX5_beside_39 : decode cX5_beside 39 = .ok (.if_icmp .ne 7, 3) := by decide +kernel
theorem dX5_beside_42 : decode cX5_beside 42 = .ok (.iconst 1, 1) := by decide +kernel
theorem dX5_beside_43 : decode cX5_beside 43 = .ok (.goto 4, 3) := by decide +kernel
theorem dX5_beside_46 : decode cX5_beside 46 = .ok (.iconst 0, 1) := by decide +kernel
theorem dX5_beside_47 : decode cX5_beside 47 = .ok (.iadd, 1) := by decide +kernel
theorem dX5_beside_48 : decode cX5_beside 48 = .ok (.istore_n 3, 1) := by decide +kernel
theorem dX5_beside_49 : decode cX5_beside 49 = .ok (.iload_n 2, 1) := by decide +kernel
theorem dX5_beside_50 : decode cX5_beside 50 = .ok (.iconst 0, 1) := by decide +kernel
theorem dX5_beside_51 : decode cX5_beside 51 = .ok (.bipush 15, 2) := by decide +kernel
theorem dX5_beside_53 : decode cX5_beside 53 = .ok (.invokestatic 82, 3) := by decide +kernel
theorem dX5_beside_56 : decode cX5_beside 56 = .ok (.ifCond .eq 22, 3) := by decide +kernel
theorem dX5_beside_59 : decode cX5_beside 59 = .ok (.iload_n 3, 1) := by decide +kernel
theorem dX5_beside_60 : decode cX5_beside 60 = .ok (.iconst 0, 1) := by decide +kernel
theorem dX5_beside_61 : decode cX5_beside 61 = .ok (.bipush 15, 2) := by decide +kernel
theorem dX5_beside_63 : decode cX5_beside 63 = .ok (.invokestatic 82, 3) := by decide +kernel
theorem dX5_beside_66 : decode cX5_beside 66 = .ok (.ifCond .eq 12, 3) := by decide +kernel
theorem dX5_beside_69 : decode cX5_beside 69 = .ok (.bipush 16, 2) := by decide +kernel
theorem dX5_beside_71 : decode cX5_beside 71 = .ok (.iload_n 2, 1) := by decide +kernel
theorem dX5_beside_72 : decode cX5_beside 72 = .ok (.imul, 1) := by decide +kernel
theorem dX5_beside_73 : decode cX5_beside 73 = .ok (.iload_n 3, 1) := by decide +kernel
theorem dX5_beside_74 : decode cX5_beside 74 = .ok (.iadd, 1) := by decide +kernel
theorem dX5_beside_75 : decode cX5_beside 75 = .ok (.goto 4, 3) := by decide +kernel
theorem dX5_beside_78 : decode cX5_beside 78 = .ok (.iconst (-1), 1) := by decide +kernel
theorem dX5_beside_79 : decode cX5_beside 79 = .ok (.ireturn, 1) := by decide +kernel
set_option maxRecDepth 20000 in
theorem ggX5_isOne_X5_beside : GoodIn wsX5_isOne wsX5_beside := goodIn_r _ [7, 8, 9, 6, 10] (by decide +kernel) (by decide +kernel)
set_option maxRecDepth 20000 in
theorem gX5_isOne_X5_beside : GoodIn wsX5_isOne (va_wsS RX5 90 yX5_beside wsX5_beside) := goodIn_app (goodIn_of _ (by decide +kernel)) ggX5_isOne_X5_beside
theorem dX5_isOne_0 : decode cX5_isOne 0 = .ok (.iconst 0, 1) := by decide +kernel
theorem dX5_isOne_1 : decode cX5_isOne 1 = .ok (.istore_n 1, 1) := by decide +kernel
theorem dX5_isOne_2 : decode cX5_isOne 2 = .ok (.iconst 0, 1) := by decide +kernel
theorem dX5_isOne_3 : decode cX5_isOne 3 = .ok (.istore_n 2, 1) := by decide +kernel
theorem dX5_isOne_4 : decode cX5_isOne 4 = .ok (.iconst 0, 1) := by decide +kernel
theorem dX5_isOne_5 : decode cX5_isOne 5 = .ok (.istore_n 3, 1) := by decide +kernel
theorem dX5_isOne_6 : decode cX5_isOne 6 = .ok (.iload_n 3, 1) := by decide +kernel
theorem dX5_isOne_7 : decode cX5_isOne 7 = .ok (.sipush 256, 3) := by decide +kernel
theorem dX5_isOne_10 : decode cX5_isOne 10 = .ok (.if_icmp .ge 56, 3) := by decide +kernel
theorem dX5_isOne_13 : decode cX5_isOne 13 = .ok (.aload_n 0, 1) := by decide +kernel
theorem dX5_isOne_14 : decode cX5_isOne 14 = .ok (.getfield 57, 3) := by decide +kernel
theorem dX5_isOne_17 : decode cX5_isOne 17 = .ok (.iload_n 3, 1) := by decide +kernel
theorem dX5_isOne_18 : decode cX5_isOne 18 = .ok (.iconst 0, 1) := by decide +kernel
theorem dX5_isOne_19 : decode cX5_isOne 19 = .ok (.bastore, 1) := by decide +kernel
theorem dX5_isOne_20 : decode cX5_isOne 20 = .ok (.iload_n 2, 1) := by decide +kernel
theorem dX5_isOne_21 : decode cX5_isOne 21 = .ok (.aload_n 0, 1) := by decide +kernel
theorem dX5_isOne_22 : decode cX5_isOne 22 = .ok (.getfield 54, 3) := by decide +kernel
theorem dX5_isOne_25 : decode cX5_isOne 25 = .ok (.iload_n 3, 1) := by decide +kernel
theorem dX5_isOne_26 : decode cX5_isOne 26 = .ok (.baload, 1) := by decide +kernel
theorem dX5_isOne_27 : decode cX5_isOne 27 = .ok (.ifCond .eq 7, 3) := by decide +kernel
theorem dX5_isOne_30 : decode cX5_isOne 30 = .ok (.iconst 1, 1) := by decide +kernel
theorem dX5_isOne_31 : decode cX5_isOne 31 = .ok (.goto 4, 3) := by decide +kernel
theorem dX5_isOne_34 : decode cX5_isOne 34 = .ok (.iconst 0, 1) := by decide +kernel
theorem dX5_isOne_35 : decode cX5_isOne 35 = .ok (.iadd, 1) := by decide +kernel
theorem dX5_isOne_36 : decode cX5_isOne 36 = .ok (.istore_n 2, 1) := by decide +kernel
theorem dX5_isOne_37 : decode cX5_isOne 37 = .ok (.aload_n 0, 1) := by decide +kernel
theorem dX5_isOne_38 : decode cX5_isOne 38 = .ok (.getfield 54, 3) := by decide +kernel
theorem dX5_isOne_41 : decode cX5_isOne 41 = .ok (.iload_n 3, 1) := by decide +kernel
theorem dX5_isOne_42 : decode cX5_isOne 42 = .ok (.baload, 1) := by decide +kernel
theorem dX5_isOne_43 : decode cX5_isOne 43 = .ok (.ifCond .eq 17, 3) := by decide +kernel
theorem dX5_isOne_46 : decode cX5_isOne 46 = .ok (.iload_n 2, 1) := by decide +kernel
theorem dX5_isOne_47 : decode cX5_isOne 47 = .ok (.iconst 1, 1) := by decide +kernel
theorem dX5_isOne_48 : decode cX5_isOne 48 = .ok (.if_icmp .ne 12, 3) := by decide +kernel
theorem dX5_isOne_51 : decode cX5_isOne 51 = .ok (.aload_n 0, 1) := by decide +kernel
theorem dX5_isOne_52 : decode cX5_isOne 52 = .ok (.getfield 60, 3) := by decide +kernel
theorem dX5_isOne_55 : decode cX5_isOne 55 = .ok (.iconst 0, 1) := by decide +kernel
theorem dX5_isOne_56 : decode cX5_isOne 56 = .ok (.iload_n 3, 1) := by decide +kernel
theorem dX5_isOne_57 : decode cX5_isOne 57 = .ok (.iastore, 1) := by decide +kernel
theorem dX5_isOne_58 : decode cX5_isOne 58 = .ok (.iconst 1, 1) := by decide +kernel
theorem dX5_isOne_59 : decode cX5_isOne 59 = .ok (.istore_n 1, 1) := by decide +kernel
theorem dX5_isOne_60 : decode cX5_isOne 60 = .ok (.iinc 3 1, 3) := by decide +kernel
theorem dX5_isOne_63 : decode cX5_isOne 63 = .ok (.goto (-57), 3) := by decide +kernel
theorem dX5_isOne_66 : decode cX5_isOne 66 = .ok (.iload_n 2, 1) := by decide +kernel
theorem dX5_isOne_67 : decode cX5_isOne 67 = .ok (.ifCond .ne 5, 3) := by decide +kernel
theorem dX5_isOne_70 : decode cX5_isOne 70 = .ok (.iconst 0, 1) := by decide +kernel
theorem dX5_isOne_71 : decode cX5_isOne 71 = .ok (.ireturn, 1) := by decide +kernel
theorem dX5_isOne_72 : decode cX5_isOne 72 = .ok (.aload_n 0, 1) := by decide +kernel
theorem dX5_isOne_73 : decode cX5_isOne 73 = .ok (.getfield 57, 3) := by decide +kernel
theorem dX5_isOne_76 : decode cX5_isOne 76 = .ok (.aload_n 0, 1) := by decide +kernel
theorem dX5_isOne_77 : decode cX5_isOne 77 = .ok (.getfield 60, 3) := by decide +kernel
theorem dX5_isOne_80 : decode cX5_isOne 80 = .ok (.iconst 0, 1) := by decide +kernel
theorem dX5_isOne_81 : decode cX5_isOne 81 = .ok (.iaload, 1) := by decide +kernel
theorem dX5_isOne_82 : decode cX5_isOne 82 = .ok (.iconst 1, 1) := by decide +kernel
theorem dX5_isOne_83 : decode cX5_isOne 83 = .ok (.bastore, 1) := by decide +kernel
theorem dX5_isOne_84 : decode cX5_isOne 84 = .ok (.iconst 1, 1) := by decide +kernel
theorem dX5_isOne_85 : decode cX5_isOne 85 = .ok (.istore_n 3, 1) := by decide +kernel
theorem dX5_isOne_86 : decode cX5_isOne 86 = .ok (.iload_n 1, 1) := by decide +kernel
theorem dX5_isOne_87 : decode cX5_isOne 87 = .ok (.ifCond .le 89, 3) := by decide +kernel
theorem dX5_isOne_90 : decode cX5_isOne 90 = .ok (.iinc 1 (-1), 3) := by decide +kernel
theorem dX5_isOne_93 : decode cX5_isOne 93 = .ok (.aload_n 0, 1) := by decide +kernel
theorem dX5_isOne_94 : decode cX5_isOne 94 = .ok (.getfield 60, 3) := by decide +kernel
theorem dX5_isOne_97 : decode cX5_isOne 97 = .ok (.iload_n 1, 1) := by decide +kernel
theorem dX5_isOne_98 : decode cX5_isOne 98 = .ok (.iaload, 1) := by decide +kernel
theorem dX5_isOne_99 : decode cX5_isOne 99 = .ok (.istore 4, 2) := by decide +kernel
theorem dX5_isOne_101 : decode cX5_isOne 101 = .ok (.iconst 0, 1) := by decide +kernel
theorem dX5_isOne_102 : decode cX5_isOne 102 = .ok (.istore 5, 2) := by decide +kernel
theorem dX5_isOne_104 : decode cX5_isOne 104 = .ok (.iload 5, 2) := by decide +kernel
theorem dX5_isOne_106 : decode cX5_isOne 106 = .ok (.iconst 4, 1) := by decide +kernel
theorem dX5_isOne_107 : decode cX5_isOne 107 = .ok (.if_icmp .ge 66, 3) := by decide +kernel
theorem dX5_isOne_110 : decode cX5_isOne 110 = .ok (.iload 4, 2) := by decide +kernel
theorem dX5_isOne_112 : decode cX5_isOne 112 = .ok (.iload 5, 2) := by decide +kernel
theorem dX5_isOne_114 : decode cX5_isOne 114 = .ok (.invokestatic 90, 3) := by decide +kernel
theorem dX5_isOne_117 : decode cX5_isOne 117 = .ok (.istore 6, 2) := by decide +kernel
theorem dX5_isOne_119 : decode cX5_isOne 119 = .ok (.iload 6, 2) := by decide +kernel
theorem dX5_isOne_121 : decode cX5_isOne 121 = .ok (.iconst (-1), 1) := by decide +kernel
theorem dX5_isOne_122 : decode cX5_isOne 122 = .ok (.if_icmp .eq 45, 3) := by decide +kernel
theorem dX5_isOne_125 : decode cX5_isOne 125 = .ok (.aload_n 0, 1) := by decide +kernel
theorem dX5_isOne_126 : decode cX5_isOne 126 = .ok (.getfield 54, 3) := by decide +kernel
theorem dX5_isOne_129 : decode cX5_isOne 129 = .ok (.iload 6, 2) := by decide +kernel
theorem dX5_isOne_131 : decode cX5_isOne 131 = .ok (.baload, 1) := by decide +kernel
theorem dX5_isOne_132 : decode cX5_isOne 132 = .ok (.ifCond .eq 35, 3) := by decide +kernel
theorem dX5_isOne_135 : decode cX5_isOne 135 = .ok (.aload_n 0, 1) := by decide +kernel
theorem dX5_isOne_136 : decode cX5_isOne 136 = .ok (.getfield 57, 3) := by decide +kernel
theorem dX5_isOne_139 : decode cX5_isOne 139 = .ok (.iload 6, 2) := by decide +kernel
theorem dX5_isOne_141 : decode cX5_isOne 141 = .ok (.baload, 1) := by decide +kernel
theorem dX5_isOne_142 : decode cX5_isOne 142 = .ok (.ifCond .ne 25, 3) := by decide +kernel
theorem dX5_isOne_145 : decode cX5_isOne 145 = .ok (.aload_n 0, 1) := by decide +kernel
theorem dX5_isOne_146 : decode cX5_isOne 146 = .ok (.getfield 57, 3) := by decide +kernel
theorem dX5_isOne_149 : decode cX5_isOne 149 = .ok (.iload 6, 2) := by decide +kernel
theorem dX5_isOne_151 : decode cX5_isOne 151 = .ok (.iconst 1, 1) := by decide +kernel
theorem dX5_isOne_152 : decode cX5_isOne 152 = .ok (.bastore, 1) := by decide +kernel
theorem dX5_isOne_153 : decode cX5_isOne 153 = .ok (.aload_n 0, 1) := by decide +kernel
theorem dX5_isOne_154 : decode cX5_isOne 154 = .ok (.getfield 60, 3) := by decide +kernel
theorem dX5_isOne_157 : decode cX5_isOne 157 = .ok (.iload_n 1, 1) := by decide +kernel
theorem dX5_isOne_158 : decode cX5_isOne 158 = .ok (.iload 6, 2) := by decide +kernel
theorem dX5_isOne_160 : decode cX5_isOne 160 = .ok (.iastore, 1) := by decide +kernel
theorem dX5_isOne_161 : decode cX5_isOne 161 = .ok (.iinc 1 1, 3) := by decide +kernel
theorem dX5_isOne_164 : decode cX5_isOne 164 = .ok (.iinc 3 1, 3) := by decide +kernel
theorem dX5_isOne_167 : decode cX5_isOne 167 = .ok (.iinc 5 1, 3) := by decide +kernel
theorem dX5_isOne_170 : decode cX5_isOne 170 = .ok (.goto (-66), 3) := by decide +kernel
theorem dX5_isOne_173 : decode cX5_isOne 173 = .ok (.goto (-87), 3) := by decide +kernel
theorem dX5_isOne_176 : decode cX5_isOne 176 = .ok (.iload_n 3, 1) := by decide +kernel
theorem dX5_isOne_177 : decode cX5_isOne 177 = .ok (.iload_n 2, 1) := by decide +kernel
theorem dX5_isOne_178 : decode cX5_isOne 178 = .ok (.if_icmp .ne 7, 3) := by decide +kernel
theorem dX5_isOne_181 : decode cX5_isOne 181 = .ok (.iconst 1, 1) := by decide +kernel
theorem dX5_isOne_182 : decode cX5_isOne 182 = .ok (.goto 4, 3) := by decide +kernel
theorem dX5_isOne_185 : decode cX5_isOne 185 = .ok (.iconst 0, 1) := by decide +kernel
theorem dX5_isOne_186 : decode cX5_isOne 186 = .ok (.ireturn, 1) := by decide +kernel
theorem dX5_isTight_0 : decode cX5_isTight 0 = .ok (.iconst 1, 1) := by decide +kernel
theorem dX5_isTight_1 : decode cX5_isTight 1 = .ok (.istore_n 2, 1) := by decide +kernel
theorem dX5_isTight_2 : decode cX5_isTight 2 = .ok (.iconst 0, 1) := by decide +kernel
theorem dX5_isTight_3 : decode cX5_isTight 3 = .ok (.istore_n 3, 1) := by decide +kernel
theorem dX5_isTight_4 : decode cX5_isTight 4 = .ok (.iload_n 3, 1) := by decide +kernel
theorem dX5_isTight_5 : decode cX5_isTight 5 = .ok (.bipush 16, 2) := by decide +kernel
theorem dX5_isTight_7 : decode cX5_isTight 7 = .ok (.if_icmp .ge 99, 3) := by decide +kernel
theorem dX5_isTight_10 : decode cX5_isTight 10 = .ok (.iconst 0, 1) := by decide +kernel
theorem dX5_isTight_11 : decode cX5_isTight 11 = .ok (.istore 4, 2) := by decide +kernel
theorem dX5_isTight_13 : decode cX5_isTight 13 = .ok (.iconst 0, 1) := by decide +kernel
theorem dX5_isTight_14 : decode cX5_isTight 14 = .ok (.istore 5, 2) := by decide +kernel
theorem dX5_isTight_16 : decode cX5_isTight 16 = .ok (.iconst 0, 1) := by decide +kernel
theorem dX5_isTight_17 : decode cX5_isTight 17 = .ok (.istore 6, 2) := by decide +kernel
theorem dX5_isTight_19 : decode cX5_isTight 19 = .ok (.iload 6, 2) := by decide +kernel
theorem dX5_isTight_21 : decode cX5_isTight 21 = .ok (.bipush 16, 2) := by decide +kernel
theorem dX5_isTight_23 : decode cX5_isTight 23 = .ok (.if_icmp .ge 61, 3) := by decide +kernel
theorem dX5_isTight_26 : decode cX5_isTight 26 = .ok (.aload_n 0, 1) := by decide +kernel
theorem dX5_isTight_27 : decode cX5_isTight 27 = .ok (.getfield 54, 3) := by decide +kernel
theorem dX5_isTight_30 : decode cX5_isTight 30 = .ok (.iload_n 1, 1) := by decide +kernel
theorem dX5_isTight_31 : decode cX5_isTight 31 = .ok (.ifCond .eq 13, 3) := by decide +kernel
theorem dX5_isTight_34 : decode cX5_isTight 34 = .ok (.bipush 16, 2) := by decide +kernel
theorem dX5_isTight_36 : decode cX5_isTight 36 = .ok (.iload_n 3, 1) := by decide +kernel
theorem dX5_isTight_37 : decode cX5_isTight 37 = .ok (.imul, 1) := by decide +kernel
theorem dX5_isTight_38 : decode cX5_isTight 38 = .ok (.iload 6, 2) := by decide +kernel
theorem dX5_isTight_40 : decode cX5_isTight 40 = .ok (.iadd, 1) := by decide +kernel
theorem dX5_isTight_41 : decode cX5_isTight 41 = .ok (.goto 10, 3) := by decide +kernel
theorem dX5_isTight_44 : decode cX5_isTight 44 = .ok (.bipush 16, 2) := by decide +kernel
theorem dX5_isTight_46 : decode cX5_isTight 46 = .ok (.iload 6, 2) := by decide +kernel
theorem dX5_isTight_48 : decode cX5_isTight 48 = .ok (.imul, 1) := by decide +kernel
theorem dX5_isTight_49 : decode cX5_isTight 49 = .ok (.iload_n 3, 1) := by decide +kernel
theorem dX5_isTight_50 : decode cX5_isTight 50 = .ok (.iadd, 1) := by decide +kernel
theorem dX5_isTight_51 : decode cX5_isTight 51 = .ok (.baload, 1) := by decide +kernel
theorem dX5_isTight_52 : decode cX5_isTight 52 = .ok (.istore 7, 2) := by decide +kernel
theorem dX5_isTight_54 : decode cX5_isTight 54 = .ok (.iload 4, 2) := by decide +kernel
theorem dX5_isTight_56 : decode cX5_isTight 56 = .ok (.iload 7, 2) := by decide +kernel
theorem dX5_isTight_58 : decode cX5_isTight 58 = .ok (.ifCond .eq 12, 3) := by decide +kernel
theorem dX5_isTight_61 : decode cX5_isTight 61 = .ok (.iload 5, 2) := by decide +kernel
theorem dX5_isTight_63 : decode cX5_isTight 63 = .ok (.ifCond .ne 7, 3) := by decide +kernel
theorem dX5_isTight_66 : decode cX5_isTight 66 = .ok (.iconst 1, 1) := by decide +kernel
theorem dX5_isTight_67 : decode cX5_isTight 67 = .ok (.goto 4, 3) := by decide +kernel
theorem dX5_isTight_70 : decode cX5_isTight 70 = .ok (.iconst 0, 1) := by decide +kernel
theorem dX5_isTight_71 : decode cX5_isTight 71 = .ok (.iadd, 1) := by decide +kernel
theorem dX5_isTight_72 : decode cX5_isTight 72 = .ok (.istore 4, 2) := by decide +kernel
theorem dX5_isTight_74 : decode cX5_isTight 74 = .ok (.iload 7, 2) := by decide +kernel
theorem dX5_isTight_76 : decode cX5_isTight 76 = .ok (.istore 5, 2) := by decide +kernel
theorem dX5_isTight_78 : decode cX5_isTight 78 = .ok (.iinc 6 1, 3) := by decide +kernel
theorem dX5_isTight_81 : decode cX5_isTight 81 = .ok (.goto (-62), 3) := by decide +kernel
theorem dX5_isTight_84 : decode cX5_isTight 84 = .ok (.iload_n 2, 1) := by decide +kernel
theorem dX5_isTight_85 : decode cX5_isTight 85 = .ok (.ifCond .eq 13, 3) := by decide +kernel
theorem dX5_isTight_88 : decode cX5_isTight 88 = .ok (.iload 4, 2) := by decide +kernel
theorem dX5_isTight_90 : decode cX5_isTight 90 = .ok (.iconst 2, 1) := by decide +kernel
theorem dX5_isTight_91 : decode cX5_isTight 91 = .ok (.if_icmp .ge 7, 3) := by decide +kernel
theorem dX5_isTight_94 : decode cX5_isTight 94 = .ok (.iconst 1, 1) := by decide +kernel
theorem dX5_isTight_95 : decode cX5_isTight 95 = .ok (.goto 4, 3) := by decide +kernel
theorem dX5_isTight_98 : decode cX5_isTight 98 = .ok (.iconst 0, 1) := by decide +kernel
theorem dX5_isTight_99 : decode cX5_isTight 99 = .ok (.istore_n 2, 1) := by decide +kernel
theorem dX5_isTight_100 : decode cX5_isTight 100 = .ok (.iinc 3 1, 3) := by decide +kernel
theorem dX5_isTight_103 : decode cX5_isTight 103 = .ok (.goto (-99), 3) := by decide +kernel
theorem dX5_isTight_106 : decode cX5_isTight 106 = .ok (.iload_n 2, 1) := by decide +kernel
theorem dX5_isTight_107 : decode cX5_isTight 107 = .ok (.ireturn, 1) := by decide +kernel
set_option maxRecDepth 20000 in
theorem ggX5_isSquare_X5_in : GoodIn wsX5_isSquare wsX5_in := goodIn_r _ [5] (by decide +kernel) (by decide +kernel)
set_option maxRecDepth 20000 in
theorem gX5_isSquare_X5_in : GoodIn wsX5_isSquare (va_wsS RX5 82 yX5_in wsX5_in) := goodIn_app (goodIn_of _ (by decide +kernel)) ggX5_isSquare_X5_in
theorem dX5_isSquare_0 : decode cX5_isSquare 0 = .ok (.iload_n 1, 1) := by decide +kernel
theorem dX5_isSquare_1 : decode cX5_isSquare 1 = .ok (.iconst 0, 1) := by decide +kernel
theorem dX5_isSquare_2 : decode cX5_isSquare 2 = .ok (.bipush 14, 2) := by decide +kernel
theorem dX5_isSquare_4 : decode cX5_isSquare 4 = .ok (.invokestatic 82, 3) := by decide +kernel
theorem dX5_isSquare_7 : decode cX5_isSquare 7 = .ok (.ifCond .eq 17, 3) := by decide +kernel
theorem dX5_isSquare_10 : decode cX5_isSquare 10 = .ok (.iload_n 2, 1) := by decide +kernel
theorem dX5_isSquare_11 : decode cX5_isSquare 11 = .ok (.iconst 0, 1) := by decide +kernel
theorem dX5_isSquare_12 : decode cX5_isSquare 12 = .ok (.bipush 14, 2) := by decide +kernel
theorem dX5_isSquare_14 : decode cX5_isSquare 14 = .ok (.invokestatic 82, 3) := by decide +kernel
theorem dX5_isSquare_17 : decode cX5_isSquare 17 = .ok (.ifCond .eq 7, 3) := by decide +kernel
theorem dX5_isSquare_20 : decode cX5_isSquare 20 = .ok (.iconst 1, 1) := by decide +kernel
theorem dX5_isSquare_21 : decode cX5_isSquare 21 = .ok (.goto 4, 3) := by decide +kernel
theorem dX5_isSquare_24 : decode cX5_isSquare 24 = .ok (.iconst 0, 1) := by decide +kernel
theorem dX5_isSquare_25 : decode cX5_isSquare 25 = .ok (.istore_n 3, 1) := by decide +kernel
theorem dX5_isSquare_26 : decode cX5_isSquare 26 = .ok (.iload_n 3, 1) := by decide +kernel
theorem dX5_isSquare_27 : decode cX5_isSquare 27 = .ok (.ifCond .eq 73, 3) := by decide +kernel
theorem dX5_isSquare_30 : decode cX5_isSquare 30 = .ok (.aload_n 0, 1) := by decide +kernel
theorem dX5_isSquare_31 : decode cX5_isSquare 31 = .ok (.getfield 54, 3) := by decide +kernel
theorem dX5_isSquare_34 : decode cX5_isSquare 34 = .ok (.bipush 16, 2) := by decide +kernel
theorem dX5_isSquare_36 : decode cX5_isSquare 36 = .ok (.iload_n 1, 1) := by decide +kernel
theorem dX5_isSquare_37 : decode cX5_isSquare 37 = .ok (.imul, 1) := by decide +kernel
theorem dX5_isSquare_38 : decode cX5_isSquare 38 = .ok (.iload_n 2, 1) := by decide +kernel
theorem dX5_isSquare_39 : decode cX5_isSquare 39 = .ok (.iadd, 1) := by decide +kernel
theorem dX5_isSquare_40 : decode cX5_isSquare 40 = .ok (.baload, 1) := by decide +kernel
theorem dX5_isSquare_41 : decode cX5_isSquare 41 = .ok (.ifCond .eq 59, 3) := by decide +kernel
theorem dX5_isSquare_44 : decode cX5_isSquare 44 = .ok (.aload_n 0, 1) := by decide +kernel
theorem dX5_isSquare_45 : decode cX5_isSquare 45 = .ok (.getfield 54, 3) := by decide +kernel
theorem dX5_isSquare_48 : decode cX5_isSquare 48 = .ok (.bipush 16, 2) := by decide +kernel
theorem dX5_isSquare_50 : decode cX5_isSquare 50 = .ok (.iload_n 1, 1) := by decide +kernel
theorem dX5_isSquare_51 : decode cX5_isSquare 51 = .ok (.imul, 1) := by decide +kernel
theorem dX5_isSquare_52 : decode cX5_isSquare 52 = .ok (.iload_n 2, 1) := by decide +kernel
theorem dX5_isSquare_53 : decode cX5_isSquare 53 = .ok (.iadd, 1) := by decide +kernel
theorem dX5_isSquare_54 : decode cX5_isSquare 54 = .ok (.iconst 1, 1) := by decide +kernel
theorem dX5_isSquare_55 : decode cX5_isSquare 55 = .ok (.iadd, 1) := by decide +kernel
theorem dX5_isSquare_56 : decode cX5_isSquare 56 = .ok (.baload, 1) := by decide +kernel
theorem dX5_isSquare_57 : decode cX5_isSquare 57 = .ok (.ifCond .eq 43, 3) := by decide +kernel
theorem dX5_isSquare_60 : decode cX5_isSquare 60 = .ok (.aload_n 0, 1) := by decide +kernel
theorem dX5_isSquare_61 : decode cX5_isSquare 61 = .ok (.getfield 54, 3) := by decide +kernel
theorem dX5_isSquare_64 : decode cX5_isSquare 64 = .ok (.bipush 16, 2) := by decide +kernel
theorem dX5_isSquare_66 : decode cX5_isSquare 66 = .ok (.iload_n 1, 1) := by decide +kernel
theorem dX5_isSquare_67 : decode cX5_isSquare 67 = .ok (.imul, 1) := by decide +kernel
theorem dX5_isSquare_68 : decode cX5_isSquare 68 = .ok (.bipush 16, 2) := by decide +kernel
theorem dX5_isSquare_70 : decode cX5_isSquare 70 = .ok (.iadd, 1) := by decide +kernel
theorem dX5_isSquare_71 : decode cX5_isSquare 71 = .ok (.iload_n 2, 1) := by decide +kernel
theorem dX5_isSquare_72 : decode cX5_isSquare 72 = .ok (.iadd, 1) := by decide +kernel
theorem dX5_isSquare_73 : decode cX5_isSquare 73 = .ok (.baload, 1) := by decide +kernel
theorem dX5_isSquare_74 : decode cX5_isSquare 74 = .ok (.ifCond .eq 26, 3) := by decide +kernel
theorem dX5_isSquare_77 : decode cX5_isSquare 77 = .ok (.aload_n 0, 1) := by decide +kernel
theorem dX5_isSquare_78 : decode cX5_isSquare 78 = .ok (.getfield 54, 3) := by decide +kernel
theorem dX5_isSquare_81 : decode cX5_isSquare 81 = .ok (.bipush 16, 2) := by decide +kernel
theorem dX5_isSquare_83 : decode cX5_isSquare 83 = .ok (.iload_n 1, 1) := by decide +kernel
theorem dX5_isSquare_84 : decode cX5_isSquare 84 = .ok (.imul, 1) := by decide +kernel
theorem dX5_isSquare_85 : decode cX5_isSquare 85 = .ok (.bipush 16, 2) := by decide +kernel
theorem dX5_isSquare_87 : decode cX5_isSquare 87 = .ok (.iadd, 1) := by decide +kernel
theorem dX5_isSquare_88 : decode cX5_isSquare 88 = .ok (.iload_n 2, 1) := by decide +kernel
theorem dX5_isSquare_89 : decode cX5_isSquare 89 = .ok (.iadd, 1) := by decide +kernel
theorem dX5_isSquare_90 : decode cX5_isSquare 90 = .ok (.iconst 1, 1) := by decide +kernel
theorem dX5_isSquare_91 : decode cX5_isSquare 91 = .ok (.iadd, 1) := by decide +kernel
theorem dX5_isSquare_92 : decode cX5_isSquare 92 = .ok (.baload, 1) := by decide +kernel
theorem dX5_isSquare_93 : decode cX5_isSquare 93 = .ok (.ifCond .eq 7, 3) := by decide +kernel
theorem dX5_isSquare_96 : decode cX5_isSquare 96 = .ok (.iconst 1, 1) := by decide +kernel
theorem dX5_isSquare_97 : decode cX5_isSquare 97 = .ok (.goto 4, 3) := by decide +kernel
theorem dX5_isSquare_100 : decode cX5_isSquare 100 = .ok (.iconst 0, 1) := by decide +kernel
theorem dX5_isSquare_101 : decode cX5_isSquare 101 = .ok (.ireturn, 1) := by decide +kernel
set_option maxRecDepth 20000 in
theorem ggX5_cut_X5_isTight : GoodIn wsX5_cut wsX5_isTight := goodIn_r _ [6, 1, 14, 15, 16, 17, 18, 19, 20, 21, 22, 23, 24, 25, 26, 27, 28, 29, 30, 31, 32, 33, 34, 35, 36, 37] (by decide +kernel) (by decide +kernel)
set_option maxRecDepth 20000 in
theorem gX5_cut_X5_isTight : GoodIn wsX5_cut (wsV RX5 94 RX5 yX5_isTight wsX5_isTight) := goodIn_app (goodIn_of _ (by decide +kernel)) ggX5_cut_X5_isTight
set_option maxRecDepth 20000 in
theorem ggX5_cut_X5_isSquare : GoodIn wsX5_cut wsX5_isSquare := goodIn_r _ [10, 1, 11, 12, 5, 13, 14, 15, 16, 17, 18, 19, 20, 21, 22, 23, 24, 25, 26, 27, 28, 29, 30, 31, 32, 33, 34, 35, 36, 37] (by decide +kernel) (by decide +kernel)
set_option maxRecDepth 20000 in
theorem gX5_cut_X5_isSquare : GoodIn wsX5_cut (wsV RX5 98 RX5 yX5_isSquare wsX5_isSquare) := goodIn_app (goodIn_of _ (by decide +kernel)) ggX5_cut_X5_isSquare
theorem dX5_cut_0 : decode cX5_cut 0 = .ok (.aload_n 0, 1) := by decide +kernel
theorem dX5_cut_1 : decode cX5_cut 1 = .ok (.iconst 1, 1) := by decide +kernel
theorem dX5_cut_2 : decode cX5_cut 2 = .ok (.invokevirtual 94, 3) := by decide +kernel
theorem dX5_cut_5 : decode cX5_cut 5 = .ok (.ifCond .eq 11, 3) := by decide +kernel
theorem dX5_cut_8 : decode cX5_cut 8 = .ok (.aload_n 0, 1) := by decide +kernel
theorem dX5_cut_9 : decode cX5_cut 9 = .ok (.iconst 0, 1) := by decide +kernel
theorem dX5_cut_10 : decode cX5_cut 10 = .ok (.invokevirtual 94, 3) := by decide +kernel
theorem dX5_cut_13 : decode cX5_cut 13 = .ok (.ifCond .ne 5, 3) := by decide +kernel
theorem dX5_cut_16 : decode cX5_cut 16 = .ok (.iconst 1, 1) := by decide +kernel
theorem dX5_cut_17 : decode cX5_cut 17 = .ok (.ireturn, 1) := by decide +kernel
theorem dX5_cut_18 : decode cX5_cut 18 = .ok (.iconst 1, 1) := by decide +kernel
theorem dX5_cut_19 : decode cX5_cut 19 = .ok (.istore_n 1, 1) := by decide +kernel
theorem dX5_cut_20 : decode cX5_cut 20 = .ok (.iconst 0, 1) := by decide +kernel
theorem dX5_cut_21 : decode cX5_cut 21 = .ok (.istore_n 2, 1) := by decide +kernel
theorem dX5_cut_22 : decode cX5_cut 22 = .ok (.iload_n 2, 1) := by decide +kernel
theorem dX5_cut_23 : decode cX5_cut 23 = .ok (.sipush 256, 3) := by decide +kernel
theorem dX5_cut_26 : decode cX5_cut 26 = .ok (.if_icmp .ge 99, 3) := by decide +kernel
theorem dX5_cut_29 : decode cX5_cut 29 = .ok (.iload_n 2, 1) := by decide +kernel
theorem dX5_cut_30 : decode cX5_cut 30 = .ok (.bipush 16, 2) := by decide +kernel
theorem dX5_cut_32 : decode cX5_cut 32 = .ok (.idiv, 1) := by decide +kernel
theorem dX5_cut_33 : decode cX5_cut 33 = .ok (.istore_n 3, 1) := by decide +kernel
theorem dX5_cut_34 : decode cX5_cut 34 = .ok (.iload_n 2, 1) := by decide +kernel
theorem dX5_cut_35 : decode cX5_cut 35 = .ok (.bipush 16, 2) := by decide +kernel
theorem dX5_cut_37 : decode cX5_cut 37 = .ok (.irem, 1) := by decide +kernel
theorem dX5_cut_38 : decode cX5_cut 38 = .ok (.istore 4, 2) := by decide +kernel
theorem dX5_cut_40 : decode cX5_cut 40 = .ok (.aload_n 0, 1) := by decide +kernel
theorem dX5_cut_41 : decode cX5_cut 41 = .ok (.iload_n 3, 1) := by decide +kernel
theorem dX5_cut_42 : decode cX5_cut 42 = .ok (.iload 4, 2) := by decide +kernel
theorem dX5_cut_44 : decode cX5_cut 44 = .ok (.invokevirtual 98, 3) := by decide +kernel
theorem dX5_cut_47 : decode cX5_cut 47 = .ok (.ifCond .ne 41, 3) := by decide +kernel
theorem dX5_cut_50 : decode cX5_cut 50 = .ok (.aload_n 0, 1) := by decide +kernel
theorem dX5_cut_51 : decode cX5_cut 51 = .ok (.iload_n 3, 1) := by decide +kernel
theorem dX5_cut_52 : decode cX5_cut 52 = .ok (.iconst 1, 1) := by decide +kernel
theorem dX5_cut_53 : decode cX5_cut 53 = .ok (.isub, 1) := by decide +kernel
theorem dX5_cut_54 : decode cX5_cut 54 = .ok (.iload 4, 2) := by decide +kernel
theorem dX5_cut_56 : decode cX5_cut 56 = .ok (.invokevirtual 98, 3) := by decide +kernel
theorem dX5_cut_59 : decode cX5_cut 59 = .ok (.ifCond .ne 29, 3) := by decide +kernel
theorem dX5_cut_62 : decode cX5_cut 62 = .ok (.aload_n 0, 1) := by decide +kernel
theorem dX5_cut_63 : decode cX5_cut 63 = .ok (.iload_n 3, 1) := by decide +kernel
theorem dX5_cut_64 : decode cX5_cut 64 = .ok (.iload 4, 2) := by decide +kernel
theorem dX5_cut_66 : decode cX5_cut 66 = .ok (.iconst 1, 1) := by decide +kernel
theorem dX5_cut_67 : decode cX5_cut 67 = .ok (.isub, 1) := by decide +kernel
theorem dX5_cut_68 : decode cX5_cut 68 = .ok (.invokevirtual 98, 3) := by decide +kernel
theorem dX5_cut_71 : decode cX5_cut 71 = .ok (.ifCond .ne 17, 3) := by decide +kernel
theorem dX5_cut_74 : decode cX5_cut 74 = .ok (.aload_n 0, 1) := by decide +kernel
theorem dX5_cut_75 : decode cX5_cut 75 = .ok (.iload_n 3, 1) := by decide +kernel
theorem dX5_cut_76 : decode cX5_cut 76 = .ok (.iconst 1, 1) := by decide +kernel
theorem dX5_cut_77 : decode cX5_cut 77 = .ok (.isub, 1) := by decide +kernel
theorem dX5_cut_78 : decode cX5_cut 78 = .ok (.iload 4, 2) := by decide +kernel
theorem dX5_cut_80 : decode cX5_cut 80 = .ok (.iconst 1, 1) := by decide +kernel
theorem dX5_cut_81 : decode cX5_cut 81 = .ok (.isub, 1) := by decide +kernel
theorem dX5_cut_82 : decode cX5_cut 82 = .ok (.invokevirtual 98, 3) := by decide +kernel
theorem dX5_cut_85 : decode cX5_cut 85 = .ok (.ifCond .eq 7, 3) := by decide +kernel
theorem dX5_cut_88 : decode cX5_cut 88 = .ok (.iconst 1, 1) := by decide +kernel
theorem dX5_cut_89 : decode cX5_cut 89 = .ok (.goto 4, 3) := by decide +kernel
theorem dX5_cut_92 : decode cX5_cut 92 = .ok (.iconst 0, 1) := by decide +kernel
theorem dX5_cut_93 : decode cX5_cut 93 = .ok (.istore 5, 2) := by decide +kernel
theorem dX5_cut_95 : decode cX5_cut 95 = .ok (.iload_n 1, 1) := by decide +kernel
theorem dX5_cut_96 : decode cX5_cut 96 = .ok (.ifCond .eq 21, 3) := by decide +kernel
theorem dX5_cut_99 : decode cX5_cut 99 = .ok (.aload_n 0, 1) := by decide +kernel
theorem dX5_cut_100 : decode cX5_cut 100 = .ok (.getfield 54, 3) := by decide +kernel
theorem dX5_cut_103 : decode cX5_cut 103 = .ok (.iload_n 2, 1) := by decide +kernel
theorem dX5_cut_104 : decode cX5_cut 104 = .ok (.baload, 1) := by decide +kernel
theorem dX5_cut_105 : decode cX5_cut 105 = .ok (.ifCond .eq 8, 3) := by decide +kernel
theorem dX5_cut_108 : decode cX5_cut 108 = .ok (.iload 5, 2) := by decide +kernel
theorem dX5_cut_110 : decode cX5_cut 110 = .ok (.ifCond .eq 7, 3) := by decide +kernel
theorem dX5_cut_113 : decode cX5_cut 113 = .ok (.iconst 1, 1) := by decide +kernel
theorem dX5_cut_114 : decode cX5_cut 114 = .ok (.goto 4, 3) := by decide +kernel
theorem dX5_cut_117 : decode cX5_cut 117 = .ok (.iconst 0, 1) := by decide +kernel
theorem dX5_cut_118 : decode cX5_cut 118 = .ok (.istore_n 1, 1) := by decide +kernel
theorem dX5_cut_119 : decode cX5_cut 119 = .ok (.iinc 2 1, 3) := by decide +kernel
theorem dX5_cut_122 : decode cX5_cut 122 = .ok (.goto (-100), 3) := by decide +kernel
theorem dX5_cut_125 : decode cX5_cut 125 = .ok (.iload_n 1, 1) := by decide +kernel
theorem dX5_cut_126 : decode cX5_cut 126 = .ok (.ifCond .eq 7, 3) := by decide +kernel
theorem dX5_cut_129 : decode cX5_cut 129 = .ok (.iconst 0, 1) := by decide +kernel
theorem dX5_cut_130 : decode cX5_cut 130 = .ok (.goto 4, 3) := by decide +kernel
theorem dX5_cut_133 : decode cX5_cut 133 = .ok (.iconst 2, 1) := by decide +kernel
theorem dX5_cut_134 : decode cX5_cut 134 = .ok (.ireturn, 1) := by decide +kernel
set_option maxRecDepth 20000 in
theorem ggX5_isTwo_X5_setSide : GoodIn wsX5_isTwo wsX5_setSide := goodIn_r _ [5, 6, 7, 8, 9, 4, 10, 23, 24, 25, 26, 27, 28, 29, 30, 31, 32, 33, 34, 35, 36, 37, 38, 39, 40, 41, 42, 43, 44, 45, 46] (by decide +kernel) (by decide +kernel)
set_option maxRecDepth 20000 in
theorem gX5_isTwo_X5_setSide : GoodIn wsX5_isTwo (wsV RX5 101 RX5 yX5_setSide wsX5_setSide) := goodIn_app (goodIn_of _ (by decide +kernel)) ggX5_isTwo_X5_setSide
set_option maxRecDepth 20000 in
theorem ggX5_isTwo_X5_isOne : GoodIn wsX5_isTwo wsX5_isOne := goodIn_r _ [14, 15, 6, 16, 17, 18, 4, 19, 20, 21, 22, 23, 24, 25, 26, 27, 28, 29, 30, 31, 32, 33, 34, 35, 36, 37, 38, 39, 40, 41, 42, 43, 44, 45, 46] (by decide +kernel) (by decide +kernel)
set_option maxRecDepth 20000 in
theorem gX5_isTwo_X5_isOne : GoodIn wsX5_isTwo (wsV RX5 105 RX5 yX5_isOne wsX5_isOne) := goodIn_app (goodIn_of _ (by decide +kernel)) ggX5_isTwo_X5_isOne
theorem dX5_isTwo_0 : decode cX5_isTwo 0 = .ok (.aload_n 0, 1) := by decide +kernel
theorem dX5_isTwo_1 : decode cX5_isTwo 1 = .ok (.iload_n 1, 1) := by decide +kernel
theorem dX5_isTwo_2 : decode cX5_isTwo 2 = .ok (.iload_n 2, 1) := by decide +kernel
theorem dX5_isTwo_3 : decode cX5_isTwo 3 = .ok (.iconst 1, 1) := by decide +kernel
theorem dX5_isTwo_4 : decode cX5_isTwo 4 = .ok (.invokevirtual 101, 3) := by decide +kernel
theorem dX5_isTwo_7 : decode cX5_isTwo 7 = .ok (.ifCond .le 31, 3) := by decide +kernel
theorem dX5_isTwo_10 : decode cX5_isTwo 10 = .ok (.aload_n 0, 1) := by decide +kernel
theorem dX5_isTwo_11 : decode cX5_isTwo 11 = .ok (.invokevirtual 105, 3) := by decide +kernel
theorem dX5_isTwo_14 : decode cX5_isTwo 14 = .ok (.ifCond .eq 24, 3) := by decide +kernel
theorem dX5_isTwo_17 : decode cX5_isTwo 17 = .ok (.aload_n 0, 1) := by decide +kernel
theorem dX5_isTwo_18 : decode cX5_isTwo 18 = .ok (.iload_n 1, 1) := by decide +kernel
theorem dX5_isTwo_19 : decode cX5_isTwo 19 = .ok (.iload_n 2, 1) := by decide +kernel
theorem dX5_isTwo_20 : decode cX5_isTwo 20 = .ok (.iconst 0, 1) := by decide +kernel
theorem dX5_isTwo_21 : decode cX5_isTwo 21 = .ok (.invokevirtual 101, 3) := by decide +kernel
theorem dX5_isTwo_24 : decode cX5_isTwo 24 = .ok (.ifCond .le 14, 3) := by decide +kernel
theorem dX5_isTwo_27 : decode cX5_isTwo 27 = .ok (.aload_n 0, 1) := by decide +kernel
theorem dX5_isTwo_28 : decode cX5_isTwo 28 = .ok (.invokevirtual 105, 3) := by decide +kernel
theorem dX5_isTwo_31 : decode cX5_isTwo 31 = .ok (.ifCond .eq 7, 3) := by decide +kernel
theorem dX5_isTwo_34 : decode cX5_isTwo 34 = .ok (.iconst 1, 1) := by decide +kernel
theorem dX5_isTwo_35 : decode cX5_isTwo 35 = .ok (.goto 4, 3) := by decide +kernel
theorem dX5_isTwo_38 : decode cX5_isTwo 38 = .ok (.iconst 0, 1) := by decide +kernel
theorem dX5_isTwo_39 : decode cX5_isTwo 39 = .ok (.ireturn, 1) := by decide +kernel
set_option maxRecDepth 20000 in
theorem ggX5_divide_X5_isPiece : GoodIn wsX5_divide wsX5_isPiece := goodIn_r _ [10, 2, 4, 11, 12, 9, 13, 49, 50, 51, 52, 53, 54, 55, 56, 57, 58, 59, 60, 61, 62, 63, 64, 65, 66, 67, 68, 69, 70, 71, 72] (by decide +kernel) (by decide +kernel)
set_option maxRecDepth 20000 in
theorem gX5_divide_X5_isPiece : GoodIn wsX5_divide (wsV RX5 109 RX5 yX5_isPiece wsX5_isPiece) := goodIn_app (goodIn_of _ (by decide +kernel)) ggX5_divide_X5_isPiece
set_option maxRecDepth 20000 in
theorem ggX5_divide_X5_isLine : GoodIn wsX5_divide wsX5_isLine := goodIn_r _ [16, 11, 12, 9, 13] (by decide +kernel) (by decide +kernel)
set_option maxRecDepth 20000 in
theorem gX5_divide_X5_isLine : GoodIn wsX5_divide (va_wsS RX5 113 yX5_isLine wsX5_isLine) := goodIn_app (goodIn_of _ (by decide +kernel)) ggX5_divide_X5_isLine
set_option maxRecDepth 20000 in
theorem ggX5_divide_X5_isTwo : GoodIn wsX5_divide wsX5_isTwo := goodIn_r _ [20, 21, 22, 23, 9, 24, 25, 3, 26, 27, 28, 29, 30, 31, 32, 33, 34, 35, 36, 37, 11, 12, 13, 49, 50, 51, 52, 53, 54, 55, 56, 57, 58, 59, 60, 61, 62, 63, 64, 65, 66, 67, 68, 69, 70, 71, 72] (by decide +kernel) (by decide +kernel)
set_option maxRecDepth 20000 in
theorem gX5_divide_X5_isTwo : GoodIn wsX5_divide (wsV RX5 116 RX5 yX5_isTwo wsX5_isTwo) := goodIn_app (goodIn_of _ (by decide +kernel)) ggX5_divide_X5_isTwo
set_option maxRecDepth 20000 in
theorem ggX5_divide_X5_goesWell : GoodIn wsX5_divide wsX5_goesWell := goodIn_r _ [41, 42, 49, 50, 51, 52, 53, 54, 55, 56, 57, 58, 59, 60, 61, 62, 63, 64, 65, 66, 67, 68, 69, 70, 71, 72] (by decide +kernel) (by decide +kernel)
set_option maxRecDepth 20000 in
theorem gX5_divide_X5_goesWell : GoodIn wsX5_divide (wsV RX5 119 RX5 yX5_goesWell wsX5_goesWell) := goodIn_app (goodIn_of _ (by decide +kernel)) ggX5_divide_X5_goesWell
set_option maxRecDepth 20000 in
theorem ggX5_divide_X5_isBeyond : GoodIn wsX5_divide wsX5_isBeyond := goodIn_r _ [28] (by decide +kernel) (by decide +kernel)
set_option maxRecDepth 20000 in
theorem gX5_divide_X5_isBeyond : GoodIn wsX5_divide (va_wsS RX5 86 yX5_isBeyond wsX5_isBeyond) := goodIn_app (goodIn_of _ (by decide +kernel)) ggX5_divide_X5_isBeyond
set_option maxRecDepth 20000 in
theorem ggX5_divide_X5_note : GoodIn wsX5_divide wsX5_note := goodIn_r _ [46, 47, 48, 49, 50, 51, 52, 53, 54, 55, 56, 57, 58, 59, 60, 61, 62, 63, 64, 65, 66, 67, 68, 69, 70, 71, 72] (by decide +kernel) (by decide +kernel)
set_option maxRecDepth 20000 in
theorem gX5_divide_X5_note : GoodIn wsX5_divide (wsV RX5 75 RX5 yX5_note wsX5_note) := goodIn_app (goodIn_of _ (by decide +kernel)) ggX5_divide_X5_note
theorem dX5_divide_0 : decode cX5_divide 0 = .ok (.aload_n 0, 1) := by decide +kernel
theorem dX5_divide_1 : decode cX5_divide 1 = .ok (.iload_n 1, 1) := by decide +kernel
theorem dX5_divide_2 : decode cX5_divide 2 = .ok (.invokevirtual 109, 3) := by decide +kernel
theorem dX5_divide_5 : decode cX5_divide 5 = .ok (.istore_n 3, 1) := by decide +kernel
theorem dX5_divide_6 : decode cX5_divide 6 = .ok (.iload_n 2, 1) := by decide +kernel
theorem dX5_divide_7 : decode cX5_divide 7 = .ok (.invokestatic 113, 3) := by decide +kernel
theorem dX5_divide_10 : decode cX5_divide 10 = .ok (.istore 4, 2) := by decide +kernel
theorem dX5_divide_12 : decode cX5_divide 12 = .ok (.iload_n 3, 1) := by decide +kernel
theorem dX5_divide_13 : decode cX5_divide 13 = .ok (.ifCond .eq 39, 3) := by decide +kernel
theorem dX5_divide_16 : decode cX5_divide 16 = .ok (.iload 4, 2) := by decide +kernel
theorem dX5_divide_18 : decode cX5_divide 18 = .ok (.ifCond .eq 34, 3) := by decide +kernel
theorem dX5_divide_21 : decode cX5_divide 21 = .ok (.aload_n 0, 1) := by decide +kernel
theorem dX5_divide_22 : decode cX5_divide 22 = .ok (.getfield 23, 3) := by decide +kernel
theorem dX5_divide_25 : decode cX5_divide 25 = .ok (.iload_n 1, 1) := by decide +kernel
theorem dX5_divide_26 : decode cX5_divide 26 = .ok (.baload, 1) := by decide +kernel
theorem dX5_divide_27 : decode cX5_divide 27 = .ok (.ifCond .ne 25, 3) := by decide +kernel
theorem dX5_divide_30 : decode cX5_divide 30 = .ok (.aload_n 0, 1) := by decide +kernel
theorem dX5_divide_31 : decode cX5_divide 31 = .ok (.getfield 7, 3) := by decide +kernel
theorem dX5_divide_34 : decode cX5_divide 34 = .ok (.bipush 60, 2) := by decide +kernel
theorem dX5_divide_36 : decode cX5_divide 36 = .ok (.if_icmp .ge 16, 3) := by decide +kernel
theorem dX5_divide_39 : decode cX5_divide 39 = .ok (.aload_n 0, 1) := by decide +kernel
theorem dX5_divide_40 : decode cX5_divide 40 = .ok (.iload_n 1, 1) := by decide +kernel
theorem dX5_divide_41 : decode cX5_divide 41 = .ok (.iload_n 2, 1) := by decide +kernel
theorem dX5_divide_42 : decode cX5_divide 42 = .ok (.invokevirtual 116, 3) := by decide +kernel
theorem dX5_divide_45 : decode cX5_divide 45 = .ok (.ifCond .eq 7, 3) := by decide +kernel
theorem dX5_divide_48 : decode cX5_divide 48 = .ok (.iconst 1, 1) := by decide +kernel
theorem dX5_divide_49 : decode cX5_divide 49 = .ok (.goto 4, 3) := by decide +kernel
theorem dX5_divide_52 : decode cX5_divide 52 = .ok (.iconst 0, 1) := by decide +kernel
theorem dX5_divide_53 : decode cX5_divide 53 = .ok (.istore 5, 2) := by decide +kernel
theorem dX5_divide_55 : decode cX5_divide 55 = .ok (.aload_n 0, 1) := by decide +kernel
theorem dX5_divide_56 : decode cX5_divide 56 = .ok (.iload_n 3, 1) := by decide +kernel
theorem dX5_divide_57 : decode cX5_divide 57 = .ok (.ifCond .ne 7, 3) := by decide +kernel
theorem dX5_divide_60 : decode cX5_divide 60 = .ok (.iconst 1, 1) := by decide +kernel
theorem dX5_divide_61 : decode cX5_divide 61 = .ok (.goto 22, 3) := by decide +kernel
theorem dX5_divide_64 : decode cX5_divide 64 = .ok (.iload 4, 2) := by decide +kernel
theorem dX5_divide_66 : decode cX5_divide 66 = .ok (.ifCond .ne 7, 3) := by decide +kernel
theorem dX5_divide_69 : decode cX5_divide 69 = .ok (.iconst 2, 1) := by decide +kernel
theorem dX5_divide_70 : decode cX5_divide 70 = .ok (.goto 13, 3) := by decide +kernel
theorem dX5_divide_73 : decode cX5_divide 73 = .ok (.iload 5, 2) := by decide +kernel
theorem dX5_divide_75 : decode cX5_divide 75 = .ok (.ifCond .eq 7, 3) := by decide +kernel
theorem dX5_divide_78 : decode cX5_divide 78 = .ok (.iconst 0, 1) := by decide +kernel
theorem dX5_divide_79 : decode cX5_divide 79 = .ok (.goto 4, 3) := by decide +kernel
theorem dX5_divide_82 : decode cX5_divide 82 = .ok (.iconst 3, 1) := by decide +kernel
theorem dX5_divide_83 : decode cX5_divide 83 = .ok (.invokevirtual 119, 3) := by decide +kernel
theorem dX5_divide_86 : decode cX5_divide 86 = .ok (.ifCond .ne 5, 3) := by decide +kernel
theorem dX5_divide_89 : decode cX5_divide 89 = .ok (.iconst 0, 1) := by decide +kernel
theorem dX5_divide_90 : decode cX5_divide 90 = .ok (.ireturn, 1) := by decide +kernel
theorem dX5_divide_91 : decode cX5_divide 91 = .ok (.aload_n 0, 1) := by decide +kernel
theorem dX5_divide_92 : decode cX5_divide 92 = .ok (.getfield 7, 3) := by decide +kernel
theorem dX5_divide_95 : decode cX5_divide 95 = .ok (.istore 6, 2) := by decide +kernel
theorem dX5_divide_97 : decode cX5_divide 97 = .ok (.aload_n 0, 1) := by decide +kernel
theorem dX5_divide_98 : decode cX5_divide 98 = .ok (.dup, 1) := by decide +kernel
theorem dX5_divide_99 : decode cX5_divide 99 = .ok (.getfield 7, 3) := by decide +kernel
theorem dX5_divide_102 : decode cX5_divide 102 = .ok (.iconst 1, 1) := by decide +kernel
theorem dX5_divide_103 : decode cX5_divide 103 = .ok (.iadd, 1) := by decide +kernel
theorem dX5_divide_104 : decode cX5_divide 104 = .ok (.putfield 7, 3) := by decide +kernel
theorem dX5_divide_107 : decode cX5_divide 107 = .ok (.iconst 0, 1) := by decide +kernel
theorem dX5_divide_108 : decode cX5_divide 108 = .ok (.istore 7, 2) := by decide +kernel
theorem dX5_divide_110 : decode cX5_divide 110 = .ok (.iload 7, 2) := by decide +kernel
theorem dX5_divide_112 : decode cX5_divide 112 = .ok (.sipush 256, 3) := by decide +kernel
theorem dX5_divide_115 : decode cX5_divide 115 = .ok (.if_icmp .ge 59, 3) := by decide +kernel
theorem dX5_divide_118 : decode cX5_divide 118 = .ok (.aload_n 0, 1) := by decide +kernel
theorem dX5_divide_119 : decode cX5_divide 119 = .ok (.getfield 13, 3) := by decide +kernel
theorem dX5_divide_122 : decode cX5_divide 122 = .ok (.iload 7, 2) := by decide +kernel
theorem dX5_divide_124 : decode cX5_divide 124 = .ok (.iaload, 1) := by decide +kernel
theorem dX5_divide_125 : decode cX5_divide 125 = .ok (.iload_n 1, 1) := by decide +kernel
theorem dX5_divide_126 : decode cX5_divide 126 = .ok (.if_icmp .ne 42, 3) := by decide +kernel
theorem dX5_divide_129 : decode cX5_divide 129 = .ok (.iload 7, 2) := by decide +kernel
theorem dX5_divide_131 : decode cX5_divide 131 = .ok (.iload_n 2, 1) := by decide +kernel
theorem dX5_divide_132 : decode cX5_divide 132 = .ok (.invokestatic 86, 3) := by decide +kernel
theorem dX5_divide_135 : decode cX5_divide 135 = .ok (.ifCond .eq 33, 3) := by decide +kernel
theorem dX5_divide_138 : decode cX5_divide 138 = .ok (.aload_n 0, 1) := by decide +kernel
theorem dX5_divide_139 : decode cX5_divide 139 = .ok (.getfield 13, 3) := by decide +kernel
theorem dX5_divide_142 : decode cX5_divide 142 = .ok (.iload 7, 2) := by decide +kernel
theorem dX5_divide_144 : decode cX5_divide 144 = .ok (.iload 6, 2) := by decide +kernel
theorem dX5_divide_146 : decode cX5_divide 146 = .ok (.iastore, 1) := by decide +kernel
theorem dX5_divide_147 : decode cX5_divide 147 = .ok (.aload_n 0, 1) := by decide +kernel
theorem dX5_divide_148 : decode cX5_divide 148 = .ok (.getfield 17, 3) := by decide +kernel
theorem dX5_divide_151 : decode cX5_divide 151 = .ok (.iload 6, 2) := by decide +kernel
theorem dX5_divide_153 : decode cX5_divide 153 = .ok (.dup2, 1) := by decide +kernel
theorem dX5_divide_154 : decode cX5_divide 154 = .ok (.iaload, 1) := by decide +kernel
theorem dX5_divide_155 : decode cX5_divide 155 = .ok (.iconst 1, 1) := by decide +kernel
theorem dX5_divide_156 : decode cX5_divide 156 = .ok (.iadd, 1) := by decide +kernel
theorem dX5_divide_157 : decode cX5_divide 157 = .ok (.iastore, 1) := by decide +kernel
theorem dX5_divide_158 : decode cX5_divide 158 = .ok (.aload_n 0, 1) := by decide +kernel
theorem dX5_divide_159 : decode cX5_divide 159 = .ok (.getfield 17, 3) := by decide +kernel
theorem dX5_divide_162 : decode cX5_divide 162 = .ok (.iload_n 1, 1) := by decide +kernel
theorem dX5_divide_163 : decode cX5_divide 163 = .ok (.dup2, 1) := by decide +kernel
theorem dX5_divide_164 : decode cX5_divide 164 = .ok (.iaload, 1) := by decide +kernel
theorem dX5_divide_165 : decode cX5_divide 165 = .ok (.iconst 1, 1) := by decide +kernel
theorem dX5_divide_166 : decode cX5_divide 166 = .ok (.isub, 1) := by decide +kernel
theorem dX5_divide_167 : decode cX5_divide 167 = .ok (.iastore, 1) := by decide +kernel
theorem dX5_divide_168 : decode cX5_divide 168 = .ok (.iinc 7 1, 3) := by decide +kernel
theorem dX5_divide_171 : decode cX5_divide 171 = .ok (.goto (-61), 3) := by decide +kernel
theorem dX5_divide_174 : decode cX5_divide 174 = .ok (.aload_n 0, 1) := by decide +kernel
theorem dX5_divide_175 : decode cX5_divide 175 = .ok (.getfield 20, 3) := by decide +kernel
theorem dX5_divide_178 : decode cX5_divide 178 = .ok (.iload 6, 2) := by decide +kernel
theorem dX5_divide_180 : decode cX5_divide 180 = .ok (.aload_n 0, 1) := by decide +kernel
theorem dX5_divide_181 : decode cX5_divide 181 = .ok (.getfield 20, 3) := by decide +kernel
theorem dX5_divide_184 : decode cX5_divide 184 = .ok (.iload_n 1, 1) := by decide +kernel
theorem dX5_divide_185 : decode cX5_divide 185 = .ok (.iaload, 1) := by decide +kernel
theorem dX5_divide_186 : decode cX5_divide 186 = .ok (.iastore, 1) := by decide +kernel
theorem dX5_divide_187 : decode cX5_divide 187 = .ok (.aload_n 0, 1) := by decide +kernel
theorem dX5_divide_188 : decode cX5_divide 188 = .ok (.iload_n 1, 1) := by decide +kernel
theorem dX5_divide_189 : decode cX5_divide 189 = .ok (.iconst 2, 1) := by decide +kernel
theorem dX5_divide_190 : decode cX5_divide 190 = .ok (.invokevirtual 75, 3) := by decide +kernel
theorem dX5_divide_193 : decode cX5_divide 193 = .ok (.aload_n 0, 1) := by decide +kernel
theorem dX5_divide_194 : decode cX5_divide 194 = .ok (.iload 6, 2) := by decide +kernel
theorem dX5_divide_196 : decode cX5_divide 196 = .ok (.iconst 1, 1) := by decide +kernel
theorem dX5_divide_197 : decode cX5_divide 197 = .ok (.invokevirtual 75, 3) := by decide +kernel
theorem dX5_divide_200 : decode cX5_divide 200 = .ok (.iload 6, 2) := by decide +kernel
theorem dX5_divide_202 : decode cX5_divide 202 = .ok (.ireturn, 1) := by decide +kernel
set_option maxRecDepth 20000 in
theorem ggX5_isBeside_X5_beside : GoodIn wsX5_isBeside wsX5_beside := goodIn_r _ [5, 6, 7, 4, 8] (by decide +kernel) (by decide +kernel)
set_option maxRecDepth 20000 in
theorem gX5_isBeside_X5_beside : GoodIn wsX5_isBeside (va_wsS RX5 90 yX5_beside wsX5_beside) := goodIn_app (goodIn_of _ (by decide +kernel)) ggX5_isBeside_X5_beside
theorem dX5_isBeside_0 : decode cX5_isBeside 0 = .ok (.iconst 0, 1) := by decide +kernel
theorem dX5_isBeside_1 : decode cX5_isBeside 1 = .ok (.istore_n 3, 1) := by decide +kernel
theorem dX5_isBeside_2 : decode cX5_isBeside 2 = .ok (.iconst 0, 1) := by decide +kernel
theorem dX5_isBeside_3 : decode cX5_isBeside 3 = .ok (.istore 4, 2) := by decide +kernel
theorem dX5_isBeside_5 : decode cX5_isBeside 5 = .ok (.iload 4, 2) := by decide +kernel
theorem dX5_isBeside_7 : decode cX5_isBeside 7 = .ok (.iconst 4, 1) := by decide +kernel
theorem dX5_isBeside_8 : decode cX5_isBeside 8 = .ok (.if_icmp .ge 44, 3) := by decide +kernel
theorem dX5_isBeside_11 : decode cX5_isBeside 11 = .ok (.iload_n 1, 1) := by decide +kernel
theorem dX5_isBeside_12 : decode cX5_isBeside 12 = .ok (.iload 4, 2) := by decide +kernel
theorem dX5_isBeside_14 : decode cX5_isBeside 14 = .ok (.invokestatic 90, 3) := by decide +kernel
theorem dX5_isBeside_17 : decode cX5_isBeside 17 = .ok (.istore 5, 2) := by decide +kernel
theorem dX5_isBeside_19 : decode cX5_isBeside 19 = .ok (.iload_n 3, 1) := by decide +kernel
theorem dX5_isBeside_20 : decode cX5_isBeside 20 = .ok (.ifCond .ne 20, 3) := by decide +kernel
theorem dX5_isBeside_23 : decode cX5_isBeside 23 = .ok (.iload 5, 2) := by decide +kernel
theorem dX5_isBeside_25 : decode cX5_isBeside 25 = .ok (.iconst (-1), 1) := by decide +kernel
theorem dX5_isBeside_26 : decode cX5_isBeside 26 = .ok (.if_icmp .eq 18, 3) := by decide +kernel
theorem dX5_isBeside_29 : decode cX5_isBeside 29 = .ok (.aload_n 0, 1) := by decide +kernel
theorem dX5_isBeside_30 : decode cX5_isBeside 30 = .ok (.getfield 13, 3) := by decide +kernel
theorem dX5_isBeside_33 : decode cX5_isBeside 33 = .ok (.iload 5, 2) := by decide +kernel
theorem dX5_isBeside_35 : decode cX5_isBeside 35 = .ok (.iaload, 1) := by decide +kernel
theorem dX5_isBeside_36 : decode cX5_isBeside 36 = .ok (.iload_n 2, 1) := by decide +kernel
theorem dX5_isBeside_37 : decode cX5_isBeside 37 = .ok (.if_icmp .ne 7, 3) := by decide +kernel
theorem dX5_isBeside_40 : decode cX5_isBeside 40 = .ok (.iconst 1, 1) := by decide +kernel
theorem dX5_isBeside_41 : decode cX5_isBeside 41 = .ok (.goto 4, 3) := by decide +kernel
theorem dX5_isBeside_44 : decode cX5_isBeside 44 = .ok (.iconst 0, 1) := by decide +kernel
theorem dX5_isBeside_45 : decode cX5_isBeside 45 = .ok (.istore_n 3, 1) := by decide +kernel
theorem dX5_isBeside_46 : decode cX5_isBeside 46 = .ok (.iinc 4 1, 3) := by decide +kernel
theorem dX5_isBeside_49 : decode cX5_isBeside 49 = .ok (.goto (-44), 3) := by decide +kernel
theorem dX5_isBeside_52 : decode cX5_isBeside 52 = .ok (.iload_n 3, 1) := by decide +kernel
theorem dX5_isBeside_53 : decode cX5_isBeside 53 = .ok (.ireturn, 1) := by decide +kernel
set_option maxRecDepth 20000 in
theorem ggX5_give_X5_isCell : GoodIn wsX5_give wsX5_isCell := goodIn_r _ [7, 8, 9, 6, 10] (by decide +kernel) (by decide +kernel)
set_option maxRecDepth 20000 in
theorem gX5_give_X5_isCell : GoodIn wsX5_give (va_wsS RX5 122 yX5_isCell wsX5_isCell) := goodIn_app (goodIn_of _ (by decide +kernel)) ggX5_give_X5_isCell
set_option maxRecDepth 20000 in
theorem ggX5_give_X5_isPiece : GoodIn wsX5_give wsX5_isPiece := goodIn_r _ [14, 15, 3, 8, 9, 6, 10, 45, 46, 47, 48, 49, 50, 51, 52, 53, 54, 55, 56, 57, 58, 59, 60, 61, 62, 63, 64, 65, 66, 67, 68] (by decide +kernel) (by decide +kernel)
set_option maxRecDepth 20000 in
theorem gX5_give_X5_isPiece : GoodIn wsX5_give (wsV RX5 109 RX5 yX5_isPiece wsX5_isPiece) := goodIn_app (goodIn_of _ (by decide +kernel)) ggX5_give_X5_isPiece
set_option maxRecDepth 20000 in
theorem ggX5_give_X5_isBeside : GoodIn wsX5_give wsX5_isBeside := goodIn_r _ [19, 1, 20, 21, 6, 22, 8, 9, 10, 45, 46, 47, 48, 49, 50, 51, 52, 53, 54, 55, 56, 57, 58, 59, 60, 61, 62, 63, 64, 65, 66, 67, 68] (by decide +kernel) (by decide +kernel)
set_option maxRecDepth 20000 in
theorem gX5_give_X5_isBeside : GoodIn wsX5_give (wsV RX5 125 RX5 yX5_isBeside wsX5_isBeside) := goodIn_app (goodIn_of _ (by decide +kernel)) ggX5_give_X5_isBeside
set_option maxRecDepth 20000 in
theorem ggX5_give_X5_setPiece : GoodIn wsX5_give wsX5_setPiece := goodIn_r _ [26, 27, 1, 45, 46, 47, 48, 49, 50, 51, 52, 53, 54, 55, 56, 57, 58, 59, 60, 61, 62, 63, 64, 65, 66, 67, 68] (by decide +kernel) (by decide +kernel)
set_option maxRecDepth 20000 in
theorem gX5_give_X5_setPiece : GoodIn wsX5_give (wsV RX5 128 RX5 yX5_setPiece wsX5_setPiece) := goodIn_app (goodIn_of _ (by decide +kernel)) ggX5_give_X5_setPiece
set_option maxRecDepth 20000 in
theorem ggX5_give_X5_isOne : GoodIn wsX5_give wsX5_isOne := goodIn_r _ [31, 32, 27, 33, 20, 21, 6, 22, 8, 9, 10, 45, 46, 47, 48, 49, 50, 51, 52, 53, 54, 55, 56, 57, 58, 59, 60, 61, 62, 63, 64, 65, 66, 67, 68] (by decide +kernel) (by decide +kernel)
set_option maxRecDepth 20000 in
theorem gX5_give_X5_isOne : GoodIn wsX5_give (wsV RX5 105 RX5 yX5_isOne wsX5_isOne) := goodIn_app (goodIn_of _ (by decide +kernel)) ggX5_give_X5_isOne
set_option maxRecDepth 20000 in
theorem ggX5_give_X5_goesWell : GoodIn wsX5_give wsX5_goesWell := goodIn_r _ [37, 38, 45, 46, 47, 48, 49, 50, 51, 52, 53, 54, 55, 56, 57, 58, 59, 60, 61, 62, 63, 64, 65, 66, 67, 68] (by decide +kernel) (by decide +kernel)
set_option maxRecDepth 20000 in
theorem gX5_give_X5_goesWell : GoodIn wsX5_give (wsV RX5 119 RX5 yX5_goesWell wsX5_goesWell) := goodIn_app (goodIn_of _ (by decide +kernel)) ggX5_give_X5_goesWell
set_option maxRecDepth 20000 in
theorem ggX5_give_X5_note : GoodIn wsX5_give wsX5_note := goodIn_r _ [42, 43, 44, 45, 46, 47, 48, 49, 50, 51, 52, 53, 54, 55, 56, 57, 58, 59, 60, 61, 62, 63, 64, 65, 66, 67, 68] (by decide +kernel) (by decide +kernel)
set_option maxRecDepth 20000 in
theorem gX5_give_X5_note : GoodIn wsX5_give (wsV RX5 75 RX5 yX5_note wsX5_note) := goodIn_app (goodIn_of _ (by decide +kernel)) ggX5_give_X5_note
theorem dX5_give_0 : decode cX5_give 0 = .ok (.iload_n 1, 1) := by decide +kernel
theorem dX5_give_1 : decode cX5_give 1 = .ok (.invokestatic 122, 3) := by decide +kernel
theorem dX5_give_4 : decode cX5_give 4 = .ok (.ifCond .eq 15, 3) := by decide +kernel
theorem dX5_give_7 : decode cX5_give 7 = .ok (.aload_n 0, 1) := by decide +kernel
theorem dX5_give_8 : decode cX5_give 8 = .ok (.iload_n 2, 1) := by decide +kernel
theorem dX5_give_9 : decode cX5_give 9 = .ok (.invokevirtual 109, 3) := by decide +kernel
theorem dX5_give_12 : decode cX5_give 12 = .ok (.ifCond .eq 7, 3) := by decide +kernel
theorem dX5_give_15 : decode cX5_give 15 = .ok (.iconst 1, 1) := by decide +kernel
theorem dX5_give_16 : decode cX5_give 16 = .ok (.goto 4, 3) := by decide +kernel
theorem dX5_give_19 : decode cX5_give 19 = .ok (.iconst 0, 1) := by decide +kernel
theorem dX5_give_20 : decode cX5_give 20 = .ok (.istore_n 3, 1) := by decide +kernel
theorem dX5_give_21 : decode cX5_give 21 = .ok (.iload_n 1, 1) := by decide +kernel
theorem dX5_give_22 : decode cX5_give 22 = .ok (.invokestatic 122, 3) := by decide +kernel
theorem dX5_give_25 : decode cX5_give 25 = .ok (.ifCond .eq 12, 3) := by decide +kernel
theorem dX5_give_28 : decode cX5_give 28 = .ok (.aload_n 0, 1) := by decide +kernel
theorem dX5_give_29 : decode cX5_give 29 = .ok (.getfield 13, 3) := by decide +kernel
theorem dX5_give_32 : decode cX5_give 32 = .ok (.iload_n 1, 1) := by decide +kernel
theorem dX5_give_33 : decode cX5_give 33 = .ok (.iaload, 1) := by decide +kernel
theorem dX5_give_34 : decode cX5_give 34 = .ok (.goto 4, 3) := by decide +kernel
theorem dX5_give_37 : decode cX5_give 37 = .ok (.iconst 0, 1) := by decide +kernel
theorem dX5_give_38 : decode cX5_give 38 = .ok (.istore 4, 2) := by decide +kernel
theorem dX5_give_40 : decode cX5_give 40 = .ok (.iload_n 3, 1) := by decide +kernel
theorem dX5_give_41 : decode cX5_give 41 = .ok (.ifCond .eq 58, 3) := by decide +kernel
theorem dX5_give_44 : decode cX5_give 44 = .ok (.iload 4, 2) := by decide +kernel
theorem dX5_give_46 : decode cX5_give 46 = .ok (.iload_n 2, 1) := by decide +kernel
theorem dX5_give_47 : decode cX5_give 47 = .ok (.if_icmp .eq 52, 3) := by decide +kernel
theorem dX5_give_50 : decode cX5_give 50 = .ok (.aload_n 0, 1) := by decide +kernel
theorem dX5_give_51 : decode cX5_give 51 = .ok (.iload_n 1, 1) := by decide +kernel
theorem dX5_give_52 : decode cX5_give 52 = .ok (.iload_n 2, 1) := by decide +kernel
theorem dX5_give_53 : decode cX5_give 53 = .ok (.invokevirtual 125, 3) := by decide +kernel
theorem dX5_give_56 : decode cX5_give 56 = .ok (.ifCond .eq 43, 3) := by decide +kernel
theorem dX5_give_59 : decode cX5_give 59 = .ok (.aload_n 0, 1) := by decide +kernel
theorem dX5_give_60 : decode cX5_give 60 = .ok (.getfield 23, 3) := by decide +kernel
theorem dX5_give_63 : decode cX5_give 63 = .ok (.iload 4, 2) := by decide +kernel
theorem dX5_give_65 : decode cX5_give 65 = .ok (.baload, 1) := by decide +kernel
theorem dX5_give_66 : decode cX5_give 66 = .ok (.ifCond .ne 33, 3) := by decide +kernel
theorem dX5_give_69 : decode cX5_give 69 = .ok (.aload_n 0, 1) := by decide +kernel
theorem dX5_give_70 : decode cX5_give 70 = .ok (.getfield 23, 3) := by decide +kernel
theorem dX5_give_73 : decode cX5_give 73 = .ok (.iload_n 2, 1) := by decide +kernel
theorem dX5_give_74 : decode cX5_give 74 = .ok (.baload, 1) := by decide +kernel
theorem dX5_give_75 : decode cX5_give 75 = .ok (.ifCond .ne 24, 3) := by decide +kernel
theorem dX5_give_78 : decode cX5_give 78 = .ok (.aload_n 0, 1) := by decide +kernel
theorem dX5_give_79 : decode cX5_give 79 = .ok (.iload 4, 2) := by decide +kernel
theorem dX5_give_81 : decode cX5_give 81 = .ok (.iload_n 1, 1) := by decide +kernel
theorem dX5_give_82 : decode cX5_give 82 = .ok (.invokevirtual 128, 3) := by decide +kernel
theorem dX5_give_85 : decode cX5_give 85 = .ok (.ifCond .le 14, 3) := by decide +kernel
theorem dX5_give_88 : decode cX5_give 88 = .ok (.aload_n 0, 1) := by decide +kernel
theorem dX5_give_89 : decode cX5_give 89 = .ok (.invokevirtual 105, 3) := by decide +kernel
theorem dX5_give_92 : decode cX5_give 92 = .ok (.ifCond .eq 7, 3) := by decide +kernel
theorem dX5_give_95 : decode cX5_give 95 = .ok (.iconst 1, 1) := by decide +kernel
theorem dX5_give_96 : decode cX5_give 96 = .ok (.goto 4, 3) := by decide +kernel
theorem dX5_give_99 : decode cX5_give 99 = .ok (.iconst 0, 1) := by decide +kernel
theorem dX5_give_100 : decode cX5_give 100 = .ok (.istore 5, 2) := by decide +kernel
theorem dX5_give_102 : decode cX5_give 102 = .ok (.aload_n 0, 1) := by decide +kernel
theorem dX5_give_103 : decode cX5_give 103 = .ok (.iload_n 3, 1) := by decide +kernel
theorem dX5_give_104 : decode cX5_give 104 = .ok (.ifCond .ne 7, 3) := by decide +kernel
theorem dX5_give_107 : decode cX5_give 107 = .ok (.iconst 1, 1) := by decide +kernel
theorem dX5_give_108 : decode cX5_give 108 = .ok (.goto 13, 3) := by decide +kernel
theorem dX5_give_111 : decode cX5_give 111 = .ok (.iload 5, 2) := by decide +kernel
theorem dX5_give_113 : decode cX5_give 113 = .ok (.ifCond .eq 7, 3) := by decide +kernel
theorem dX5_give_116 : decode cX5_give 116 = .ok (.iconst 0, 1) := by decide +kernel
theorem dX5_give_117 : decode cX5_give 117 = .ok (.goto 4, 3) := by decide +kernel
theorem dX5_give_120 : decode cX5_give 120 = .ok (.iconst 2, 1) := by decide +kernel
theorem dX5_give_121 : decode cX5_give 121 = .ok (.invokevirtual 119, 3) := by decide +kernel
theorem dX5_give_124 : decode cX5_give 124 = .ok (.ifCond .ne 5, 3) := by decide +kernel
theorem dX5_give_127 : decode cX5_give 127 = .ok (.iconst 0, 1) := by decide +kernel
theorem dX5_give_128 : decode cX5_give 128 = .ok (.ireturn, 1) := by decide +kernel
theorem dX5_give_129 : decode cX5_give 129 = .ok (.aload_n 0, 1) := by decide +kernel
theorem dX5_give_130 : decode cX5_give 130 = .ok (.getfield 13, 3) := by decide +kernel
theorem dX5_give_133 : decode cX5_give 133 = .ok (.iload_n 1, 1) := by decide +kernel
theorem dX5_give_134 : decode cX5_give 134 = .ok (.iload_n 2, 1) := by decide +kernel
theorem dX5_give_135 : decode cX5_give 135 = .ok (.iastore, 1) := by decide +kernel
theorem dX5_give_136 : decode cX5_give 136 = .ok (.aload_n 0, 1) := by decide +kernel
theorem dX5_give_137 : decode cX5_give 137 = .ok (.getfield 17, 3) := by decide +kernel
theorem dX5_give_140 : decode cX5_give 140 = .ok (.iload_n 2, 1) := by decide +kernel
theorem dX5_give_141 : decode cX5_give 141 = .ok (.dup2, 1) := by decide +kernel
theorem dX5_give_142 : decode cX5_give 142 = .ok (.iaload, 1) := by decide +kernel
theorem dX5_give_143 : decode cX5_give 143 = .ok (.iconst 1, 1) := by decide +kernel
theorem dX5_give_144 : decode cX5_give 144 = .ok (.iadd, 1) := by decide +kernel
theorem dX5_give_145 : decode cX5_give 145 = .ok (.iastore, 1) := by decide +kernel
theorem dX5_give_146 : decode cX5_give 146 = .ok (.aload_n 0, 1) := by decide +kernel
theorem dX5_give_147 : decode cX5_give 147 = .ok (.getfield 17, 3) := by decide +kernel
theorem dX5_give_150 : decode cX5_give 150 = .ok (.iload 4, 2) := by decide +kernel
theorem dX5_give_152 : decode cX5_give 152 = .ok (.dup2, 1) := by decide +kernel
theorem dX5_give_153 : decode cX5_give 153 = .ok (.iaload, 1) := by decide +kernel
theorem dX5_give_154 : decode cX5_give 154 = .ok (.iconst 1, 1) := by decide +kernel
theorem dX5_give_155 : decode cX5_give 155 = .ok (.isub, 1) := by decide +kernel
theorem dX5_give_156 : decode cX5_give 156 = .ok (.iastore, 1) := by decide +kernel
theorem dX5_give_157 : decode cX5_give 157 = .ok (.aload_n 0, 1) := by decide +kernel
theorem dX5_give_158 : decode cX5_give 158 = .ok (.iload 4, 2) := by decide +kernel
theorem dX5_give_160 : decode cX5_give 160 = .ok (.iconst 2, 1) := by decide +kernel
theorem dX5_give_161 : decode cX5_give 161 = .ok (.invokevirtual 75, 3) := by decide +kernel
theorem dX5_give_164 : decode cX5_give 164 = .ok (.aload_n 0, 1) := by decide +kernel
theorem dX5_give_165 : decode cX5_give 165 = .ok (.iload_n 2, 1) := by decide +kernel
theorem dX5_give_166 : decode cX5_give 166 = .ok (.iconst 2, 1) := by decide +kernel
theorem dX5_give_167 : decode cX5_give 167 = .ok (.invokevirtual 75, 3) := by decide +kernel
theorem dX5_give_170 : decode cX5_give 170 = .ok (.iload 4, 2) := by decide +kernel
theorem dX5_give_172 : decode cX5_give 172 = .ok (.ireturn, 1) := by decide +kernel
set_option maxRecDepth 20000 in
theorem ggX5_join_X5_isPiece : GoodIn wsX5_join wsX5_isPiece := goodIn_r _ [8, 9, 3, 10, 11, 7, 12, 31, 32, 33, 34, 35, 36, 37, 38, 39, 40, 41, 42, 43, 44, 45, 46, 47, 48, 49, 50, 51, 52, 53, 54] (by decide +kernel) (by decide +kernel)
set_option maxRecDepth 20000 in
theorem gX5_join_X5_isPiece : GoodIn wsX5_join (wsV RX5 109 RX5 yX5_isPiece wsX5_isPiece) := goodIn_app (goodIn_of _ (by decide +kernel)) ggX5_join_X5_isPiece
set_option maxRecDepth 20000 in
theorem ggX5_join_X5_isBeside : GoodIn wsX5_join wsX5_isBeside := goodIn_r _ [16, 1, 17, 18, 7, 19, 10, 11, 12, 31, 32, 33, 34, 35, 36, 37, 38, 39, 40, 41, 42, 43, 44, 45, 46, 47, 48, 49, 50, 51, 52, 53, 54] (by decide +kernel) (by decide +kernel)
set_option maxRecDepth 20000 in
theorem gX5_join_X5_isBeside : GoodIn wsX5_join (wsV RX5 125 RX5 yX5_isBeside wsX5_isBeside) := goodIn_app (goodIn_of _ (by decide +kernel)) ggX5_join_X5_isBeside
set_option maxRecDepth 20000 in
theorem ggX5_join_X5_goesWell : GoodIn wsX5_join wsX5_goesWell := goodIn_r _ [23, 24, 31, 32, 33, 34, 35, 36, 37, 38, 39, 40, 41, 42, 43, 44, 45, 46, 47, 48, 49, 50, 51, 52, 53, 54] (by decide +kernel) (by decide +kernel)
set_option maxRecDepth 20000 in
theorem gX5_join_X5_goesWell : GoodIn wsX5_join (wsV RX5 119 RX5 yX5_goesWell wsX5_goesWell) := goodIn_app (goodIn_of _ (by decide +kernel)) ggX5_join_X5_goesWell
set_option maxRecDepth 20000 in
theorem ggX5_join_X5_note : GoodIn wsX5_join wsX5_note := goodIn_r _ [28, 29, 30, 31, 32, 33, 34, 35, 36, 37, 38, 39, 40, 41, 42, 43, 44, 45, 46, 47, 48, 49, 50, 51, 52, 53, 54] (by decide +kernel) (by decide +kernel)
set_option maxRecDepth 20000 in
theorem gX5_join_X5_note : GoodIn wsX5_join (wsV RX5 75 RX5 yX5_note wsX5_note) := goodIn_app (goodIn_of _ (by decide +kernel)) ggX5_join_X5_note
theorem dX5_join_0 : decode cX5_join 0 = .ok (.aload_n 0, 1) := by decide +kernel
theorem dX5_join_1 : decode cX5_join 1 = .ok (.iload_n 1, 1) := by decide +kernel
theorem dX5_join_2 : decode cX5_join 2 = .ok (.invokevirtual 109, 3) := by decide +kernel
theorem dX5_join_5 : decode cX5_join 5 = .ok (.ifCond .eq 15, 3) := by decide +kernel
theorem dX5_join_8 : decode cX5_join 8 = .ok (.aload_n 0, 1) := by decide +kernel
theorem dX5_join_9 : decode cX5_join 9 = .ok (.iload_n 2, 1) := by decide +kernel
theorem dX5_join_10 : decode cX5_join 10 = .ok (.invokevirtual 109, 3) := by decide +kernel
theorem dX5_join_13 : decode cX5_join 13 = .ok (.ifCond .eq 7, 3) := by decide +kernel
theorem dX5_join_16 : decode cX5_join 16 = .ok (.iconst 1, 1) := by decide +kernel
theorem dX5_join_17 : decode cX5_join 17 = .ok (.goto 4, 3) := by decide +kernel
theorem dX5_join_20 : decode cX5_join 20 = .ok (.iconst 0, 1) := by decide +kernel
theorem dX5_join_21 : decode cX5_join 21 = .ok (.istore_n 3, 1) := by decide +kernel
theorem dX5_join_22 : decode cX5_join 22 = .ok (.iconst 0, 1) := by decide +kernel
theorem dX5_join_23 : decode cX5_join 23 = .ok (.istore 4, 2) := by decide +kernel
theorem dX5_join_25 : decode cX5_join 25 = .ok (.iconst 0, 1) := by decide +kernel
theorem dX5_join_26 : decode cX5_join 26 = .ok (.istore 5, 2) := by decide +kernel
theorem dX5_join_28 : decode cX5_join 28 = .ok (.iload 5, 2) := by decide +kernel
theorem dX5_join_30 : decode cX5_join 30 = .ok (.sipush 256, 3) := by decide +kernel
theorem dX5_join_33 : decode cX5_join 33 = .ok (.if_icmp .ge 46, 3) := by decide +kernel
theorem dX5_join_36 : decode cX5_join 36 = .ok (.iload_n 3, 1) := by decide +kernel
theorem dX5_join_37 : decode cX5_join 37 = .ok (.ifCond .eq 42, 3) := by decide +kernel
theorem dX5_join_40 : decode cX5_join 40 = .ok (.iload 4, 2) := by decide +kernel
theorem dX5_join_42 : decode cX5_join 42 = .ok (.ifCond .ne 24, 3) := by decide +kernel
theorem dX5_join_45 : decode cX5_join 45 = .ok (.aload_n 0, 1) := by decide +kernel
theorem dX5_join_46 : decode cX5_join 46 = .ok (.getfield 13, 3) := by decide +kernel
theorem dX5_join_49 : decode cX5_join 49 = .ok (.iload 5, 2) := by decide +kernel
theorem dX5_join_51 : decode cX5_join 51 = .ok (.iaload, 1) := by decide +kernel
theorem dX5_join_52 : decode cX5_join 52 = .ok (.iload_n 1, 1) := by decide +kernel
theorem dX5_join_53 : decode cX5_join 53 = .ok (.if_icmp .ne 17, 3) := by decide +kernel
theorem dX5_join_56 : decode cX5_join 56 = .ok (.aload_n 0, 1) := by decide +kernel
theorem dX5_join_57 : decode cX5_join 57 = .ok (.iload 5, 2) := by decide +kernel
theorem dX5_join_59 : decode cX5_join 59 = .ok (.iload_n 2, 1) := by decide +kernel
theorem dX5_join_60 : decode cX5_join 60 = .ok (.invokevirtual 125, 3) := by decide +kernel
theorem dX5_join_63 : decode cX5_join 63 = .ok (.ifCond .eq 7, 3) := by decide +kernel
theorem dX5_join_66 : decode cX5_join 66 = .ok (.iconst 1, 1) := by decide +kernel
theorem dX5_join_67 : decode cX5_join 67 = .ok (.goto 4, 3) := by decide +kernel
theorem dX5_join_70 : decode cX5_join 70 = .ok (.iconst 0, 1) := by decide +kernel
theorem dX5_join_71 : decode cX5_join 71 = .ok (.istore 4, 2) := by decide +kernel
theorem dX5_join_73 : decode cX5_join 73 = .ok (.iinc 5 1, 3) := by decide +kernel
theorem dX5_join_76 : decode cX5_join 76 = .ok (.goto (-48), 3) := by decide +kernel
theorem dX5_join_79 : decode cX5_join 79 = .ok (.iload_n 3, 1) := by decide +kernel
theorem dX5_join_80 : decode cX5_join 80 = .ok (.ifCond .eq 35, 3) := by decide +kernel
theorem dX5_join_83 : decode cX5_join 83 = .ok (.iload_n 1, 1) := by decide +kernel
theorem dX5_join_84 : decode cX5_join 84 = .ok (.iload_n 2, 1) := by decide +kernel
theorem dX5_join_85 : decode cX5_join 85 = .ok (.if_icmp .eq 30, 3) := by decide +kernel
theorem dX5_join_88 : decode cX5_join 88 = .ok (.iload 4, 2) := by decide +kernel
theorem dX5_join_90 : decode cX5_join 90 = .ok (.ifCond .eq 25, 3) := by decide +kernel
theorem dX5_join_93 : decode cX5_join 93 = .ok (.aload_n 0, 1) := by decide +kernel
theorem dX5_join_94 : decode cX5_join 94 = .ok (.getfield 23, 3) := by decide +kernel
theorem dX5_join_97 : decode cX5_join 97 = .ok (.iload_n 1, 1) := by decide +kernel
theorem dX5_join_98 : decode cX5_join 98 = .ok (.baload, 1) := by decide +kernel
theorem dX5_join_99 : decode cX5_join 99 = .ok (.ifCond .ne 16, 3) := by decide +kernel
theorem dX5_join_102 : decode cX5_join 102 = .ok (.aload_n 0, 1) := by decide +kernel
theorem dX5_join_103 : decode cX5_join 103 = .ok (.getfield 23, 3) := by decide +kernel
theorem dX5_join_106 : decode cX5_join 106 = .ok (.iload_n 2, 1) := by decide +kernel
theorem dX5_join_107 : decode cX5_join 107 = .ok (.baload, 1) := by decide +kernel
theorem dX5_join_108 : decode cX5_join 108 = .ok (.ifCond .ne 7, 3) := by decide +kernel
theorem dX5_join_111 : decode cX5_join 111 = .ok (.iconst 1, 1) := by decide +kernel
theorem dX5_join_112 : decode cX5_join 112 = .ok (.goto 4, 3) := by decide +kernel
theorem dX5_join_115 : decode cX5_join 115 = .ok (.iconst 0, 1) := by decide +kernel
theorem dX5_join_116 : decode cX5_join 116 = .ok (.istore 5, 2) := by decide +kernel
theorem dX5_join_118 : decode cX5_join 118 = .ok (.aload_n 0, 1) := by decide +kernel
theorem dX5_join_119 : decode cX5_join 119 = .ok (.iload_n 3, 1) := by decide +kernel
theorem dX5_join_120 : decode cX5_join 120 = .ok (.ifCond .ne 7, 3) := by decide +kernel
theorem dX5_join_123 : decode cX5_join 123 = .ok (.iconst 1, 1) := by decide +kernel
theorem dX5_join_124 : decode cX5_join 124 = .ok (.goto 13, 3) := by decide +kernel
theorem dX5_join_127 : decode cX5_join 127 = .ok (.iload 5, 2) := by decide +kernel
theorem dX5_join_129 : decode cX5_join 129 = .ok (.ifCond .eq 7, 3) := by decide +kernel
theorem dX5_join_132 : decode cX5_join 132 = .ok (.iconst 0, 1) := by decide +kernel
theorem dX5_join_133 : decode cX5_join 133 = .ok (.goto 4, 3) := by decide +kernel
theorem dX5_join_136 : decode cX5_join 136 = .ok (.iconst 2, 1) := by decide +kernel
theorem dX5_join_137 : decode cX5_join 137 = .ok (.invokevirtual 119, 3) := by decide +kernel
theorem dX5_join_140 : decode cX5_join 140 = .ok (.ifCond .ne 5, 3) := by decide +kernel
theorem dX5_join_143 : decode cX5_join 143 = .ok (.iconst 0, 1) := by decide +kernel
theorem dX5_join_144 : decode cX5_join 144 = .ok (.ireturn, 1) := by decide +kernel
theorem dX5_join_145 : decode cX5_join 145 = .ok (.iconst 0, 1) := by decide +kernel
theorem dX5_join_146 : decode cX5_join 146 = .ok (.istore 6, 2) := by decide +kernel
theorem dX5_join_148 : decode cX5_join 148 = .ok (.iload 6, 2) := by decide +kernel
theorem dX5_join_150 : decode cX5_join 150 = .ok (.sipush 256, 3) := by decide +kernel
theorem dX5_join_153 : decode cX5_join 153 = .ok (.if_icmp .ge 38, 3) := by decide +kernel
theorem dX5_join_156 : decode cX5_join 156 = .ok (.aload_n 0, 1) := by decide +kernel
theorem dX5_join_157 : decode cX5_join 157 = .ok (.getfield 13, 3) := by decide +kernel
theorem dX5_join_160 : decode cX5_join 160 = .ok (.iload 6, 2) := by decide +kernel
theorem dX5_join_162 : decode cX5_join 162 = .ok (.aload_n 0, 1) := by decide +kernel
theorem dX5_join_163 : decode cX5_join 163 = .ok (.getfield 13, 3) := by decide +kernel
theorem dX5_join_166 : decode cX5_join 166 = .ok (.iload 6, 2) := by decide +kernel
theorem dX5_join_168 : decode cX5_join 168 = .ok (.iaload, 1) := by decide +kernel
theorem dX5_join_169 : decode cX5_join 169 = .ok (.iload_n 2, 1) := by decide +kernel
theorem dX5_join_170 : decode cX5_join 170 = .ok (.if_icmp .ne 7, 3) := by decide +kernel
theorem dX5_join_173 : decode cX5_join 173 = .ok (.iload_n 1, 1) := by decide +kernel
theorem dX5_join_174 : decode cX5_join 174 = .ok (.goto 10, 3) := by decide +kernel
theorem dX5_join_177 : decode cX5_join 177 = .ok (.aload_n 0, 1) := by decide +kernel
theorem dX5_join_178 : decode cX5_join 178 = .ok (.getfield 13, 3) := by decide +kernel
theorem dX5_join_181 : decode cX5_join 181 = .ok (.iload 6, 2) := by decide +kernel
theorem dX5_join_183 : decode cX5_join 183 = .ok (.iaload, 1) := by decide +kernel
theorem dX5_join_184 : decode cX5_join 184 = .ok (.iastore, 1) := by decide +kernel
theorem dX5_join_185 : decode cX5_join 185 = .ok (.iinc 6 1, 3) := by decide +kernel
theorem dX5_join_188 : decode cX5_join 188 = .ok (.goto (-40), 3) := by decide +kernel
theorem dX5_join_191 : decode cX5_join 191 = .ok (.aload_n 0, 1) := by decide +kernel
theorem dX5_join_192 : decode cX5_join 192 = .ok (.getfield 17, 3) := by decide +kernel
theorem dX5_join_195 : decode cX5_join 195 = .ok (.iload_n 1, 1) := by decide +kernel
theorem dX5_join_196 : decode cX5_join 196 = .ok (.dup2, 1) := by decide +kernel
theorem dX5_join_197 : decode cX5_join 197 = .ok (.iaload, 1) := by decide +kernel
theorem dX5_join_198 : decode cX5_join 198 = .ok (.aload_n 0, 1) := by decide +kernel
theorem dX5_join_199 : decode cX5_join 199 = .ok (.getfield 17, 3) := by decide +kernel
theorem dX5_join_202 : decode cX5_join 202 = .ok (.iload_n 2, 1) := by decide +kernel
theorem dX5_join_203 : decode cX5_join 203 = .ok (.iaload, 1) := by decide +kernel
theorem dX5_join_204 : decode cX5_join 204 = .ok (.iadd, 1) := by decide +kernel
theorem dX5_join_205 : decode cX5_join 205 = .ok (.iastore, 1) := by decide +kernel
theorem dX5_join_206 : decode cX5_join 206 = .ok (.aload_n 0, 1) := by decide +kernel
theorem dX5_join_207 : decode cX5_join 207 = .ok (.getfield 17, 3) := by decide +kernel
theorem dX5_join_210 : decode cX5_join 210 = .ok (.iload_n 2, 1) := by decide +kernel
theorem dX5_join_211 : decode cX5_join 211 = .ok (.iconst 0, 1) := by decide +kernel
theorem dX5_join_212 : decode cX5_join 212 = .ok (.iastore, 1) := by decide +kernel
theorem dX5_join_213 : decode cX5_join 213 = .ok (.aload_n 0, 1) := by decide +kernel
theorem dX5_join_214 : decode cX5_join 214 = .ok (.iload_n 1, 1) := by decide +kernel
theorem dX5_join_215 : decode cX5_join 215 = .ok (.iconst 2, 1) := by decide +kernel
theorem dX5_join_216 : decode cX5_join 216 = .ok (.invokevirtual 75, 3) := by decide +kernel
theorem dX5_join_219 : decode cX5_join 219 = .ok (.aload_n 0, 1) := by decide +kernel
theorem dX5_join_220 : decode cX5_join 220 = .ok (.iload_n 2, 1) := by decide +kernel
theorem dX5_join_221 : decode cX5_join 221 = .ok (.iconst 2, 1) := by decide +kernel
theorem dX5_join_222 : decode cX5_join 222 = .ok (.invokevirtual 75, 3) := by decide +kernel
theorem dX5_join_225 : decode cX5_join 225 = .ok (.aload_n 0, 1) := by decide +kernel
theorem dX5_join_226 : decode cX5_join 226 = .ok (.getfield 17, 3) := by decide +kernel
theorem dX5_join_229 : decode cX5_join 229 = .ok (.iload_n 1, 1) := by decide +kernel
theorem dX5_join_230 : decode cX5_join 230 = .ok (.iaload, 1) := by decide +kernel
theorem dX5_join_231 : decode cX5_join 231 = .ok (.ireturn, 1) := by decide +kernel
set_option maxRecDepth 20000 in
theorem ggX5_colour_X5_isPiece : GoodIn wsX5_colour wsX5_isPiece := goodIn_r _ [7, 8, 9, 10, 11, 6, 12, 24, 25, 26, 27, 28, 29, 30, 31, 32, 33, 34, 35, 36, 37, 38, 39, 40, 41, 42, 43, 44, 45, 46, 47] (by decide +kernel) (by decide +kernel)
set_option maxRecDepth 20000 in
theorem gX5_colour_X5_isPiece : GoodIn wsX5_colour (wsV RX5 109 RX5 yX5_isPiece wsX5_isPiece) := goodIn_app (goodIn_of _ (by decide +kernel)) ggX5_colour_X5_isPiece
set_option maxRecDepth 20000 in
theorem ggX5_colour_X5_in : GoodIn wsX5_colour wsX5_in := goodIn_r _ [12] (by decide +kernel) (by decide +kernel)
set_option maxRecDepth 20000 in
theorem gX5_colour_X5_in : GoodIn wsX5_colour (va_wsS RX5 82 yX5_in wsX5_in) := goodIn_app (goodIn_of _ (by decide +kernel)) ggX5_colour_X5_in
set_option maxRecDepth 20000 in
theorem ggX5_colour_X5_goesWell : GoodIn wsX5_colour wsX5_goesWell := goodIn_r _ [16, 17, 24, 25, 26, 27, 28, 29, 30, 31, 32, 33, 34, 35, 36, 37, 38, 39, 40, 41, 42, 43, 44, 45, 46, 47] (by decide +kernel) (by decide +kernel)
set_option maxRecDepth 20000 in
theorem gX5_colour_X5_goesWell : GoodIn wsX5_colour (wsV RX5 119 RX5 yX5_goesWell wsX5_goesWell) := goodIn_app (goodIn_of _ (by decide +kernel)) ggX5_colour_X5_goesWell
set_option maxRecDepth 20000 in
theorem ggX5_colour_X5_note : GoodIn wsX5_colour wsX5_note := goodIn_r _ [21, 22, 23, 24, 25, 26, 27, 28, 29, 30, 31, 32, 33, 34, 35, 36, 37, 38, 39, 40, 41, 42, 43, 44, 45, 46, 47] (by decide +kernel) (by decide +kernel)
set_option maxRecDepth 20000 in
theorem gX5_colour_X5_note : GoodIn wsX5_colour (wsV RX5 75 RX5 yX5_note wsX5_note) := goodIn_app (goodIn_of _ (by decide +kernel)) ggX5_colour_X5_note
theorem dX5_colour_0 : decode cX5_colour 0 = .ok (.aload_n 0, 1) := by decide +kernel
theorem dX5_colour_1 : decode cX5_colour 1 = .ok (.iload_n 1, 1) := by decide +kernel
theorem dX5_colour_2 : decode cX5_colour 2 = .ok (.invokevirtual 109, 3) := by decide +kernel
theorem dX5_colour_5 : decode cX5_colour 5 = .ok (.istore_n 3, 1) := by decide +kernel
theorem dX5_colour_6 : decode cX5_colour 6 = .ok (.aload_n 0, 1) := by decide +kernel
theorem dX5_colour_7 : decode cX5_colour 7 = .ok (.iload_n 3, 1) := by decide +kernel
theorem dX5_colour_8 : decode cX5_colour 8 = .ok (.ifCond .ne 7, 3) := by decide +kernel
theorem dX5_colour_11 : decode cX5_colour 11 = .ok (.iconst 1, 1) := by decide +kernel
theorem dX5_colour_12 : decode cX5_colour 12 = .ok (.goto 31, 3) := by decide +kernel
theorem dX5_colour_15 : decode cX5_colour 15 = .ok (.iload_n 2, 1) := by decide +kernel
theorem dX5_colour_16 : decode cX5_colour 16 = .ok (.iconst 0, 1) := by decide +kernel
theorem dX5_colour_17 : decode cX5_colour 17 = .ok (.bipush 7, 2) := by decide +kernel
theorem dX5_colour_19 : decode cX5_colour 19 = .ok (.invokestatic 82, 3) := by decide +kernel
theorem dX5_colour_22 : decode cX5_colour 22 = .ok (.ifCond .ne 7, 3) := by decide +kernel
theorem dX5_colour_25 : decode cX5_colour 25 = .ok (.iconst 2, 1) := by decide +kernel
theorem dX5_colour_26 : decode cX5_colour 26 = .ok (.goto 17, 3) := by decide +kernel
theorem dX5_colour_29 : decode cX5_colour 29 = .ok (.aload_n 0, 1) := by decide +kernel
theorem dX5_colour_30 : decode cX5_colour 30 = .ok (.getfield 23, 3) := by decide +kernel
theorem dX5_colour_33 : decode cX5_colour 33 = .ok (.iload_n 1, 1) := by decide +kernel
theorem dX5_colour_34 : decode cX5_colour 34 = .ok (.baload, 1) := by decide +kernel
theorem dX5_colour_35 : decode cX5_colour 35 = .ok (.ifCond .eq 7, 3) := by decide +kernel
theorem dX5_colour_38 : decode cX5_colour 38 = .ok (.iconst 3, 1) := by decide +kernel
theorem dX5_colour_39 : decode cX5_colour 39 = .ok (.goto 4, 3) := by decide +kernel
theorem dX5_colour_42 : decode cX5_colour 42 = .ok (.iconst 0, 1) := by decide +kernel
theorem dX5_colour_43 : decode cX5_colour 43 = .ok (.invokevirtual 119, 3) := by decide +kernel
theorem dX5_colour_46 : decode cX5_colour 46 = .ok (.ifCond .ne 5, 3) := by decide +kernel
theorem dX5_colour_49 : decode cX5_colour 49 = .ok (.iconst 0, 1) := by decide +kernel
theorem dX5_colour_50 : decode cX5_colour 50 = .ok (.ireturn, 1) := by decide +kernel
theorem dX5_colour_51 : decode cX5_colour 51 = .ok (.aload_n 0, 1) := by decide +kernel
theorem dX5_colour_52 : decode cX5_colour 52 = .ok (.getfield 20, 3) := by decide +kernel
theorem dX5_colour_55 : decode cX5_colour 55 = .ok (.iload_n 1, 1) := by decide +kernel
theorem dX5_colour_56 : decode cX5_colour 56 = .ok (.iaload, 1) := by decide +kernel
theorem dX5_colour_57 : decode cX5_colour 57 = .ok (.istore 4, 2) := by decide +kernel
theorem dX5_colour_59 : decode cX5_colour 59 = .ok (.aload_n 0, 1) := by decide +kernel
theorem dX5_colour_60 : decode cX5_colour 60 = .ok (.getfield 20, 3) := by decide +kernel
theorem dX5_colour_63 : decode cX5_colour 63 = .ok (.iload_n 1, 1) := by decide +kernel
theorem dX5_colour_64 : decode cX5_colour 64 = .ok (.iload_n 2, 1) := by decide +kernel
theorem dX5_colour_65 : decode cX5_colour 65 = .ok (.iastore, 1) := by decide +kernel
theorem dX5_colour_66 : decode cX5_colour 66 = .ok (.iload 4, 2) := by decide +kernel
theorem dX5_colour_68 : decode cX5_colour 68 = .ok (.iload_n 2, 1) := by decide +kernel
theorem dX5_colour_69 : decode cX5_colour 69 = .ok (.if_icmp .eq 9, 3) := by decide +kernel
theorem dX5_colour_72 : decode cX5_colour 72 = .ok (.aload_n 0, 1) := by decide +kernel
theorem dX5_colour_73 : decode cX5_colour 73 = .ok (.iload_n 1, 1) := by decide +kernel
theorem dX5_colour_74 : decode cX5_colour 74 = .ok (.iconst 3, 1) := by decide +kernel
theorem dX5_colour_75 : decode cX5_colour 75 = .ok (.invokevirtual 75, 3) := by decide +kernel
theorem dX5_colour_78 : decode cX5_colour 78 = .ok (.iload 4, 2) := by decide +kernel
theorem dX5_colour_80 : decode cX5_colour 80 = .ok (.ireturn, 1) := by decide +kernel
set_option maxRecDepth 20000 in
theorem ggX5_finish_X5_note : GoodIn wsX5_finish wsX5_note := goodIn_r _ [9, 10, 11, 12, 13, 14, 15, 16, 17, 18, 19, 20, 21, 22, 23, 24, 25, 26, 27, 28, 29, 30, 31, 32, 33, 34, 35] (by decide +kernel) (by decide +kernel)
set_option maxRecDepth 20000 in
theorem gX5_finish_X5_note : GoodIn wsX5_finish (wsV RX5 75 RX5 yX5_note wsX5_note) := goodIn_app (goodIn_of _ (by decide +kernel)) ggX5_finish_X5_note
theorem dX5_finish_0 : decode cX5_finish 0 = .ok (.aload_n 0, 1) := by decide +kernel
theorem dX5_finish_1 : decode cX5_finish 1 = .ok (.iconst 0, 1) := by decide +kernel
theorem dX5_finish_2 : decode cX5_finish 2 = .ok (.putfield 79, 3) := by decide +kernel
theorem dX5_finish_5 : decode cX5_finish 5 = .ok (.iconst 0, 1) := by decide +kernel
theorem dX5_finish_6 : decode cX5_finish 6 = .ok (.istore_n 1, 1) := by decide +kernel
theorem dX5_finish_7 : decode cX5_finish 7 = .ok (.iconst 0, 1) := by decide +kernel
theorem dX5_finish_8 : decode cX5_finish 8 = .ok (.istore_n 2, 1) := by decide +kernel
theorem dX5_finish_9 : decode cX5_finish 9 = .ok (.iload_n 2, 1) := by decide +kernel
theorem dX5_finish_10 : decode cX5_finish 10 = .ok (.aload_n 0, 1) := by decide +kernel
theorem dX5_finish_11 : decode cX5_finish 11 = .ok (.getfield 7, 3) := by decide +kernel
theorem dX5_finish_14 : decode cX5_finish 14 = .ok (.if_icmp .ge 44, 3) := by decide +kernel
theorem dX5_finish_17 : decode cX5_finish 17 = .ok (.aload_n 0, 1) := by decide +kernel
theorem dX5_finish_18 : decode cX5_finish 18 = .ok (.getfield 17, 3) := by decide +kernel
theorem dX5_finish_21 : decode cX5_finish 21 = .ok (.iload_n 2, 1) := by decide +kernel
theorem dX5_finish_22 : decode cX5_finish 22 = .ok (.iaload, 1) := by decide +kernel
theorem dX5_finish_23 : decode cX5_finish 23 = .ok (.ifCond .le 29, 3) := by decide +kernel
theorem dX5_finish_26 : decode cX5_finish 26 = .ok (.aload_n 0, 1) := by decide +kernel
theorem dX5_finish_27 : decode cX5_finish 27 = .ok (.getfield 23, 3) := by decide +kernel
theorem dX5_finish_30 : decode cX5_finish 30 = .ok (.iload_n 2, 1) := by decide +kernel
theorem dX5_finish_31 : decode cX5_finish 31 = .ok (.baload, 1) := by decide +kernel
theorem dX5_finish_32 : decode cX5_finish 32 = .ok (.ifCond .ne 20, 3) := by decide +kernel
theorem dX5_finish_35 : decode cX5_finish 35 = .ok (.aload_n 0, 1) := by decide +kernel
theorem dX5_finish_36 : decode cX5_finish 36 = .ok (.getfield 23, 3) := by decide +kernel
theorem dX5_finish_39 : decode cX5_finish 39 = .ok (.iload_n 2, 1) := by decide +kernel
theorem dX5_finish_40 : decode cX5_finish 40 = .ok (.iconst 1, 1) := by decide +kernel
theorem dX5_finish_41 : decode cX5_finish 41 = .ok (.bastore, 1) := by decide +kernel
theorem dX5_finish_42 : decode cX5_finish 42 = .ok (.aload_n 0, 1) := by decide +kernel
theorem dX5_finish_43 : decode cX5_finish 43 = .ok (.iload_n 2, 1) := by decide +kernel
theorem dX5_finish_44 : decode cX5_finish 44 = .ok (.bipush 6, 2) := by decide +kernel
theorem dX5_finish_46 : decode cX5_finish 46 = .ok (.invokevirtual 75, 3) := by decide +kernel
theorem dX5_finish_49 : decode cX5_finish 49 = .ok (.iinc 1 1, 3) := by decide +kernel
theorem dX5_finish_52 : decode cX5_finish 52 = .ok (.iinc 2 1, 3) := by decide +kernel
theorem dX5_finish_55 : decode cX5_finish 55 = .ok (.goto (-46), 3) := by decide +kernel
theorem dX5_finish_58 : decode cX5_finish 58 = .ok (.iload_n 1, 1) := by decide +kernel
theorem dX5_finish_59 : decode cX5_finish 59 = .ok (.ireturn, 1) := by decide +kernel
set_option maxRecDepth 20000 in
theorem ggX5_heart_X5_in : GoodIn wsX5_heart wsX5_in := goodIn_r _ [5] (by decide +kernel) (by decide +kernel)
set_option maxRecDepth 20000 in
theorem gX5_heart_X5_in : GoodIn wsX5_heart (va_wsS RX5 82 yX5_in wsX5_in) := goodIn_app (goodIn_of _ (by decide +kernel)) ggX5_heart_X5_in
set_option maxRecDepth 20000 in
theorem ggX5_heart_X5_goesWell : GoodIn wsX5_heart wsX5_goesWell := goodIn_r _ [9, 10, 11, 12, 13, 14, 15, 16, 17, 18, 19, 20, 21, 22, 23, 24, 25, 26, 27, 28, 29, 30, 31, 32, 33, 34] (by decide +kernel) (by decide +kernel)
set_option maxRecDepth 20000 in
theorem gX5_heart_X5_goesWell : GoodIn wsX5_heart (wsV RX5 119 RX5 yX5_goesWell wsX5_goesWell) := goodIn_app (goodIn_of _ (by decide +kernel)) ggX5_heart_X5_goesWell
theorem dX5_heart_0 : decode cX5_heart 0 = .ok (.aload_n 0, 1) := by decide +kernel
theorem dX5_heart_1 : decode cX5_heart 1 = .ok (.iload_n 1, 1) := by decide +kernel
theorem dX5_heart_2 : decode cX5_heart 2 = .ok (.iconst 1, 1) := by decide +kernel
theorem dX5_heart_3 : decode cX5_heart 3 = .ok (.iconst 5, 1) := by decide +kernel
theorem dX5_heart_4 : decode cX5_heart 4 = .ok (.invokestatic 82, 3) := by decide +kernel
theorem dX5_heart_7 : decode cX5_heart 7 = .ok (.ifCond .eq 7, 3) := by decide +kernel
theorem dX5_heart_10 : decode cX5_heart 10 = .ok (.iconst 0, 1) := by decide +kernel
theorem dX5_heart_11 : decode cX5_heart 11 = .ok (.goto 4, 3) := by decide +kernel
theorem dX5_heart_14 : decode cX5_heart 14 = .ok (.iconst 1, 1) := by decide +kernel
theorem dX5_heart_15 : decode cX5_heart 15 = .ok (.invokevirtual 119, 3) := by decide +kernel
theorem dX5_heart_18 : decode cX5_heart 18 = .ok (.ifCond .ne 5, 3) := by decide +kernel
theorem dX5_heart_21 : decode cX5_heart 21 = .ok (.iconst 0, 1) := by decide +kernel
theorem dX5_heart_22 : decode cX5_heart 22 = .ok (.ireturn, 1) := by decide +kernel
theorem dX5_heart_23 : decode cX5_heart 23 = .ok (.aload_n 0, 1) := by decide +kernel
theorem dX5_heart_24 : decode cX5_heart 24 = .ok (.getfield 45, 3) := by decide +kernel
theorem dX5_heart_27 : decode cX5_heart 27 = .ok (.istore_n 2, 1) := by decide +kernel
theorem dX5_heart_28 : decode cX5_heart 28 = .ok (.aload_n 0, 1) := by decide +kernel
theorem dX5_heart_29 : decode cX5_heart 29 = .ok (.iload_n 1, 1) := by decide +kernel
theorem dX5_heart_30 : decode cX5_heart 30 = .ok (.putfield 45, 3) := by decide +kernel
theorem dX5_heart_33 : decode cX5_heart 33 = .ok (.iload_n 2, 1) := by decide +kernel
theorem dX5_heart_34 : decode cX5_heart 34 = .ok (.ireturn, 1) := by decide +kernel
set_option maxRecDepth 20000 in
theorem ggX5_sheet_X5_in : GoodIn wsX5_sheet wsX5_in := goodIn_r _ [5] (by decide +kernel) (by decide +kernel)
set_option maxRecDepth 20000 in
theorem gX5_sheet_X5_in : GoodIn wsX5_sheet (va_wsS RX5 82 yX5_in wsX5_in) := goodIn_app (goodIn_of _ (by decide +kernel)) ggX5_sheet_X5_in
set_option maxRecDepth 20000 in
theorem ggX5_sheet_X5_goesWell : GoodIn wsX5_sheet wsX5_goesWell := goodIn_r _ [9, 10, 11, 12, 13, 14, 15, 16, 17, 18, 19, 20, 21, 22, 23, 24, 25, 26, 27, 28, 29, 30, 31, 32, 33, 34] (by decide +kernel) (by decide +kernel)
set_option maxRecDepth 20000 in
theorem gX5_sheet_X5_goesWell : GoodIn wsX5_sheet (wsV RX5 119 RX5 yX5_goesWell wsX5_goesWell) := goodIn_app (goodIn_of _ (by decide +kernel)) ggX5_sheet_X5_goesWell
theorem dX5_sheet_0 : decode cX5_sheet 0 = .ok (.aload_n 0, 1) := by decide +kernel
theorem dX5_sheet_1 : decode cX5_sheet 1 = .ok (.iload_n 1, 1) := by decide +kernel
theorem dX5_sheet_2 : decode cX5_sheet 2 = .ok (.iconst 4, 1) := by decide +kernel
theorem dX5_sheet_3 : decode cX5_sheet 3 = .ok (.bipush 40, 2) := by decide +kernel
theorem dX5_sheet_5 : decode cX5_sheet 5 = .ok (.invokestatic 82, 3) := by decide +kernel
theorem dX5_sheet_8 : decode cX5_sheet 8 = .ok (.ifCond .eq 7, 3) := by decide +kernel
theorem dX5_sheet_11 : decode cX5_sheet 11 = .ok (.iconst 0, 1) := by decide +kernel
theorem dX5_sheet_12 : decode cX5_sheet 12 = .ok (.goto 4, 3) := by decide +kernel
theorem dX5_sheet_15 : decode cX5_sheet 15 = .ok (.iconst 1, 1) := by decide +kernel
theorem dX5_sheet_16 : decode cX5_sheet 16 = .ok (.invokevirtual 119, 3) := by decide +kernel
theorem dX5_sheet_19 : decode cX5_sheet 19 = .ok (.ifCond .ne 5, 3) := by decide +kernel
theorem dX5_sheet_22 : decode cX5_sheet 22 = .ok (.iconst 0, 1) := by decide +kernel
theorem dX5_sheet_23 : decode cX5_sheet 23 = .ok (.ireturn, 1) := by decide +kernel
theorem dX5_sheet_24 : decode cX5_sheet 24 = .ok (.aload_n 0, 1) := by decide +kernel
theorem dX5_sheet_25 : decode cX5_sheet 25 = .ok (.getfield 48, 3) := by decide +kernel
theorem dX5_sheet_28 : decode cX5_sheet 28 = .ok (.istore_n 2, 1) := by decide +kernel
theorem dX5_sheet_29 : decode cX5_sheet 29 = .ok (.aload_n 0, 1) := by decide +kernel
theorem dX5_sheet_30 : decode cX5_sheet 30 = .ok (.iload_n 1, 1) := by decide +kernel
theorem dX5_sheet_31 : decode cX5_sheet 31 = .ok (.putfield 48, 3) := by decide +kernel
theorem dX5_sheet_34 : decode cX5_sheet 34 = .ok (.iload_n 2, 1) := by decide +kernel
theorem dX5_sheet_35 : decode cX5_sheet 35 = .ok (.ireturn, 1) := by decide +kernel
theorem dX5_bars_0 : decode cX5_bars 0 = .ok (.iconst 0, 1) := by decide +kernel
theorem dX5_bars_1 : decode cX5_bars 1 = .ok (.istore_n 1, 1) := by decide +kernel
theorem dX5_bars_2 : decode cX5_bars 2 = .ok (.iconst 0, 1) := by decide +kernel
theorem dX5_bars_3 : decode cX5_bars 3 = .ok (.istore_n 2, 1) := by decide +kernel
theorem dX5_bars_4 : decode cX5_bars 4 = .ok (.iload_n 2, 1) := by decide +kernel
theorem dX5_bars_5 : decode cX5_bars 5 = .ok (.bipush 15, 2) := by decide +kernel
theorem dX5_bars_7 : decode cX5_bars 7 = .ok (.if_icmp .ge 26, 3) := by decide +kernel
theorem dX5_bars_10 : decode cX5_bars 10 = .ok (.iload_n 1, 1) := by decide +kernel
theorem dX5_bars_11 : decode cX5_bars 11 = .ok (.aload_n 0, 1) := by decide +kernel
theorem dX5_bars_12 : decode cX5_bars 12 = .ok (.getfield 51, 3) := by decide +kernel
theorem dX5_bars_15 : decode cX5_bars 15 = .ok (.iload_n 2, 1) := by decide +kernel
theorem dX5_bars_16 : decode cX5_bars 16 = .ok (.baload, 1) := by decide +kernel
theorem dX5_bars_17 : decode cX5_bars 17 = .ok (.ifCond .eq 7, 3) := by decide +kernel
theorem dX5_bars_20 : decode cX5_bars 20 = .ok (.iconst 1, 1) := by decide +kernel
theorem dX5_bars_21 : decode cX5_bars 21 = .ok (.goto 4, 3) := by decide +kernel
theorem dX5_bars_24 : decode cX5_bars 24 = .ok (.iconst 0, 1) := by decide +kernel
theorem dX5_bars_25 : decode cX5_bars 25 = .ok (.iadd, 1) := by decide +kernel
theorem dX5_bars_26 : decode cX5_bars 26 = .ok (.istore_n 1, 1) := by decide +kernel
theorem dX5_bars_27 : decode cX5_bars 27 = .ok (.iinc 2 1, 3) := by decide +kernel
theorem dX5_bars_30 : decode cX5_bars 30 = .ok (.goto (-26), 3) := by decide +kernel
theorem dX5_bars_33 : decode cX5_bars 33 = .ok (.iload_n 1, 1) := by decide +kernel
theorem dX5_bars_34 : decode cX5_bars 34 = .ok (.ireturn, 1) := by decide +kernel
set_option maxRecDepth 20000 in
theorem ggX5_bar_X5_in : GoodIn wsX5_bar wsX5_in := goodIn_r _ [5] (by decide +kernel) (by decide +kernel)
set_option maxRecDepth 20000 in
theorem gX5_bar_X5_in : GoodIn wsX5_bar (va_wsS RX5 82 yX5_in wsX5_in) := goodIn_app (goodIn_of _ (by decide +kernel)) ggX5_bar_X5_in
set_option maxRecDepth 20000 in
theorem ggX5_bar_X5_bars : GoodIn wsX5_bar wsX5_bars := goodIn_r _ [9, 1, 15, 16, 17, 18, 19, 20, 21, 22, 23, 24, 25, 26, 27, 28, 29, 30, 31, 32, 33, 34, 35, 36, 37, 38] (by decide +kernel) (by decide +kernel)
set_option maxRecDepth 20000 in
theorem gX5_bar_X5_bars : GoodIn wsX5_bar (wsV RX5 131 RX5 yX5_bars wsX5_bars) := goodIn_app (goodIn_of _ (by decide +kernel)) ggX5_bar_X5_bars
set_option maxRecDepth 20000 in
theorem ggX5_bar_X5_goesWell : GoodIn wsX5_bar wsX5_goesWell := goodIn_r _ [13, 14, 15, 16, 17, 18, 19, 20, 21, 22, 23, 24, 25, 26, 27, 28, 29, 30, 31, 32, 33, 34, 35, 36, 37, 38] (by decide +kernel) (by decide +kernel)
set_option maxRecDepth 20000 in
theorem gX5_bar_X5_goesWell : GoodIn wsX5_bar (wsV RX5 119 RX5 yX5_goesWell wsX5_goesWell) := goodIn_app (goodIn_of _ (by decide +kernel)) ggX5_bar_X5_goesWell
theorem dX5_bar_0 : decode cX5_bar 0 = .ok (.iload_n 1, 1) := by decide +kernel
theorem dX5_bar_1 : decode cX5_bar 1 = .ok (.iconst 0, 1) := by decide +kernel
theorem dX5_bar_2 : decode cX5_bar 2 = .ok (.bipush 14, 2) := by decide +kernel
theorem dX5_bar_4 : decode cX5_bar 4 = .ok (.invokestatic 82, 3) := by decide +kernel
theorem dX5_bar_7 : decode cX5_bar 7 = .ok (.istore_n 2, 1) := by decide +kernel
theorem dX5_bar_8 : decode cX5_bar 8 = .ok (.aload_n 0, 1) := by decide +kernel
theorem dX5_bar_9 : decode cX5_bar 9 = .ok (.iload_n 2, 1) := by decide +kernel
theorem dX5_bar_10 : decode cX5_bar 10 = .ok (.ifCond .ne 7, 3) := by decide +kernel
theorem dX5_bar_13 : decode cX5_bar 13 = .ok (.iconst 1, 1) := by decide +kernel
theorem dX5_bar_14 : decode cX5_bar 14 = .ok (.goto 25, 3) := by decide +kernel
theorem dX5_bar_17 : decode cX5_bar 17 = .ok (.aload_n 0, 1) := by decide +kernel
theorem dX5_bar_18 : decode cX5_bar 18 = .ok (.getfield 51, 3) := by decide +kernel
theorem dX5_bar_21 : decode cX5_bar 21 = .ok (.iload_n 1, 1) := by decide +kernel
theorem dX5_bar_22 : decode cX5_bar 22 = .ok (.baload, 1) := by decide +kernel
theorem dX5_bar_23 : decode cX5_bar 23 = .ok (.ifCond .ne 15, 3) := by decide +kernel
theorem dX5_bar_26 : decode cX5_bar 26 = .ok (.aload_n 0, 1) := by decide +kernel
theorem dX5_bar_27 : decode cX5_bar 27 = .ok (.invokevirtual 131, 3) := by decide +kernel
theorem dX5_bar_30 : decode cX5_bar 30 = .ok (.iconst 5, 1) := by decide +kernel
theorem dX5_bar_31 : decode cX5_bar 31 = .ok (.if_icmp .ne 7, 3) := by decide +kernel
theorem dX5_bar_34 : decode cX5_bar 34 = .ok (.iconst 2, 1) := by decide +kernel
theorem dX5_bar_35 : decode cX5_bar 35 = .ok (.goto 4, 3) := by decide +kernel
theorem dX5_bar_38 : decode cX5_bar 38 = .ok (.iconst 0, 1) := by decide +kernel
theorem dX5_bar_39 : decode cX5_bar 39 = .ok (.invokevirtual 119, 3) := by decide +kernel
theorem dX5_bar_42 : decode cX5_bar 42 = .ok (.ifCond .ne 5, 3) := by decide +kernel
theorem dX5_bar_45 : decode cX5_bar 45 = .ok (.iconst 0, 1) := by decide +kernel
theorem dX5_bar_46 : decode cX5_bar 46 = .ok (.ireturn, 1) := by decide +kernel
theorem dX5_bar_47 : decode cX5_bar 47 = .ok (.aload_n 0, 1) := by decide +kernel
theorem dX5_bar_48 : decode cX5_bar 48 = .ok (.getfield 51, 3) := by decide +kernel
theorem dX5_bar_51 : decode cX5_bar 51 = .ok (.iload_n 1, 1) := by decide +kernel
theorem dX5_bar_52 : decode cX5_bar 52 = .ok (.aload_n 0, 1) := by decide +kernel
theorem dX5_bar_53 : decode cX5_bar 53 = .ok (.getfield 51, 3) := by decide +kernel
theorem dX5_bar_56 : decode cX5_bar 56 = .ok (.iload_n 1, 1) := by decide +kernel
theorem dX5_bar_57 : decode cX5_bar 57 = .ok (.baload, 1) := by decide +kernel
theorem dX5_bar_58 : decode cX5_bar 58 = .ok (.ifCond .ne 7, 3) := by decide +kernel
theorem dX5_bar_61 : decode cX5_bar 61 = .ok (.iconst 1, 1) := by decide +kernel
theorem dX5_bar_62 : decode cX5_bar 62 = .ok (.goto 4, 3) := by decide +kernel
theorem dX5_bar_65 : decode cX5_bar 65 = .ok (.iconst 0, 1) := by decide +kernel
theorem dX5_bar_66 : decode cX5_bar 66 = .ok (.bastore, 1) := by decide +kernel
theorem dX5_bar_67 : decode cX5_bar 67 = .ok (.aload_n 0, 1) := by decide +kernel
theorem dX5_bar_68 : decode cX5_bar 68 = .ok (.getfield 51, 3) := by decide +kernel
theorem dX5_bar_71 : decode cX5_bar 71 = .ok (.iload_n 1, 1) := by decide +kernel
theorem dX5_bar_72 : decode cX5_bar 72 = .ok (.baload, 1) := by decide +kernel
theorem dX5_bar_73 : decode cX5_bar 73 = .ok (.ifCond .ne 7, 3) := by decide +kernel
theorem dX5_bar_76 : decode cX5_bar 76 = .ok (.iconst 1, 1) := by decide +kernel
theorem dX5_bar_77 : decode cX5_bar 77 = .ok (.goto 4, 3) := by decide +kernel
theorem dX5_bar_80 : decode cX5_bar 80 = .ok (.iconst 0, 1) := by decide +kernel
theorem dX5_bar_81 : decode cX5_bar 81 = .ok (.ireturn, 1) := by decide +kernel
set_option maxRecDepth 20000 in
theorem ggX5_paint_X5_isPiece : GoodIn wsX5_paint wsX5_isPiece := goodIn_r _ [8, 9, 10, 11, 12, 7, 13, 25, 26, 27, 28, 29, 30, 31, 32, 33, 34, 35, 36, 37, 38, 39, 40, 41, 42, 43, 44, 45, 46, 47, 48] (by decide +kernel) (by decide +kernel)
set_option maxRecDepth 20000 in
theorem gX5_paint_X5_isPiece : GoodIn wsX5_paint (wsV RX5 109 RX5 yX5_isPiece wsX5_isPiece) := goodIn_app (goodIn_of _ (by decide +kernel)) ggX5_paint_X5_isPiece
set_option maxRecDepth 20000 in
theorem ggX5_paint_X5_in : GoodIn wsX5_paint wsX5_in := goodIn_r _ [13] (by decide +kernel) (by decide +kernel)
set_option maxRecDepth 20000 in
theorem gX5_paint_X5_in : GoodIn wsX5_paint (va_wsS RX5 82 yX5_in wsX5_in) := goodIn_app (goodIn_of _ (by decide +kernel)) ggX5_paint_X5_in
set_option maxRecDepth 20000 in
theorem ggX5_paint_X5_goesWell : GoodIn wsX5_paint wsX5_goesWell := goodIn_r _ [17, 18, 25, 26, 27, 28, 29, 30, 31, 32, 33, 34, 35, 36, 37, 38, 39, 40, 41, 42, 43, 44, 45, 46, 47, 48] (by decide +kernel) (by decide +kernel)
set_option maxRecDepth 20000 in
theorem gX5_paint_X5_goesWell : GoodIn wsX5_paint (wsV RX5 119 RX5 yX5_goesWell wsX5_goesWell) := goodIn_app (goodIn_of _ (by decide +kernel)) ggX5_paint_X5_goesWell
set_option maxRecDepth 20000 in
theorem ggX5_paint_X5_note : GoodIn wsX5_paint wsX5_note := goodIn_r _ [22, 23, 24, 25, 26, 27, 28, 29, 30, 31, 32, 33, 34, 35, 36, 37, 38, 39, 40, 41, 42, 43, 44, 45, 46, 47, 48] (by decide +kernel) (by decide +kernel)
set_option maxRecDepth 20000 in
theorem gX5_paint_X5_note : GoodIn wsX5_paint (wsV RX5 75 RX5 yX5_note wsX5_note) := goodIn_app (goodIn_of _ (by decide +kernel)) ggX5_paint_X5_note
theorem dX5_paint_0 : decode cX5_paint 0 = .ok (.aload_n 0, 1) := by decide +kernel
theorem dX5_paint_1 : decode cX5_paint 1 = .ok (.iload_n 1, 1) := by decide +kernel
theorem dX5_paint_2 : decode cX5_paint 2 = .ok (.invokevirtual 109, 3) := by decide +kernel
theorem dX5_paint_5 : decode cX5_paint 5 = .ok (.istore_n 3, 1) := by decide +kernel
theorem dX5_paint_6 : decode cX5_paint 6 = .ok (.aload_n 0, 1) := by decide +kernel
theorem dX5_paint_7 : decode cX5_paint 7 = .ok (.iload_n 3, 1) := by decide +kernel
theorem dX5_paint_8 : decode cX5_paint 8 = .ok (.ifCond .ne 7, 3) := by decide +kernel
theorem dX5_paint_11 : decode cX5_paint 11 = .ok (.iconst 1, 1) := by decide +kernel
theorem dX5_paint_12 : decode cX5_paint 12 = .ok (.goto 35, 3) := by decide +kernel
theorem dX5_paint_15 : decode cX5_paint 15 = .ok (.iload_n 2, 1) := by decide +kernel
theorem dX5_paint_16 : decode cX5_paint 16 = .ok (.sipush 500, 3) := by decide +kernel
theorem dX5_paint_19 : decode cX5_paint 19 = .ok (.sipush 700, 3) := by decide +kernel
theorem dX5_paint_22 : decode cX5_paint 22 = .ok (.invokestatic 82, 3) := by decide +kernel
theorem dX5_paint_25 : decode cX5_paint 25 = .ok (.ifCond .ne 7, 3) := by decide +kernel
theorem dX5_paint_28 : decode cX5_paint 28 = .ok (.iconst 2, 1) := by decide +kernel
theorem dX5_paint_29 : decode cX5_paint 29 = .ok (.goto 18, 3) := by decide +kernel
theorem dX5_paint_32 : decode cX5_paint 32 = .ok (.aload_n 0, 1) := by decide +kernel
theorem dX5_paint_33 : decode cX5_paint 33 = .ok (.getfield 30, 3) := by decide +kernel
theorem dX5_paint_36 : decode cX5_paint 36 = .ok (.iload_n 1, 1) := by decide +kernel
theorem dX5_paint_37 : decode cX5_paint 37 = .ok (.iaload, 1) := by decide +kernel
theorem dX5_paint_38 : decode cX5_paint 38 = .ok (.iconst 5, 1) := by decide +kernel
theorem dX5_paint_39 : decode cX5_paint 39 = .ok (.if_icmp .ne 7, 3) := by decide +kernel
theorem dX5_paint_42 : decode cX5_paint 42 = .ok (.iconst 3, 1) := by decide +kernel
theorem dX5_paint_43 : decode cX5_paint 43 = .ok (.goto 4, 3) := by decide +kernel
theorem dX5_paint_46 : decode cX5_paint 46 = .ok (.iconst 0, 1) := by decide +kernel
theorem dX5_paint_47 : decode cX5_paint 47 = .ok (.invokevirtual 119, 3) := by decide +kernel
theorem dX5_paint_50 : decode cX5_paint 50 = .ok (.ifCond .ne 5, 3) := by decide +kernel
theorem dX5_paint_53 : decode cX5_paint 53 = .ok (.iconst 0, 1) := by decide +kernel
theorem dX5_paint_54 : decode cX5_paint 54 = .ok (.ireturn, 1) := by decide +kernel
theorem dX5_paint_55 : decode cX5_paint 55 = .ok (.aload_n 0, 1) := by decide +kernel
theorem dX5_paint_56 : decode cX5_paint 56 = .ok (.getfield 33, 3) := by decide +kernel
theorem dX5_paint_59 : decode cX5_paint 59 = .ok (.iconst 5, 1) := by decide +kernel
theorem dX5_paint_60 : decode cX5_paint 60 = .ok (.iload_n 1, 1) := by decide +kernel
theorem dX5_paint_61 : decode cX5_paint 61 = .ok (.imul, 1) := by decide +kernel
theorem dX5_paint_62 : decode cX5_paint 62 = .ok (.aload_n 0, 1) := by decide +kernel
theorem dX5_paint_63 : decode cX5_paint 63 = .ok (.getfield 30, 3) := by decide +kernel
theorem dX5_paint_66 : decode cX5_paint 66 = .ok (.iload_n 1, 1) := by decide +kernel
theorem dX5_paint_67 : decode cX5_paint 67 = .ok (.iaload, 1) := by decide +kernel
theorem dX5_paint_68 : decode cX5_paint 68 = .ok (.iadd, 1) := by decide +kernel
theorem dX5_paint_69 : decode cX5_paint 69 = .ok (.iload_n 2, 1) := by decide +kernel
theorem dX5_paint_70 : decode cX5_paint 70 = .ok (.iastore, 1) := by decide +kernel
theorem dX5_paint_71 : decode cX5_paint 71 = .ok (.aload_n 0, 1) := by decide +kernel
theorem dX5_paint_72 : decode cX5_paint 72 = .ok (.getfield 36, 3) := by decide +kernel
theorem dX5_paint_75 : decode cX5_paint 75 = .ok (.iconst 5, 1) := by decide +kernel
theorem dX5_paint_76 : decode cX5_paint 76 = .ok (.iload_n 1, 1) := by decide +kernel
theorem dX5_paint_77 : decode cX5_paint 77 = .ok (.imul, 1) := by decide +kernel
theorem dX5_paint_78 : decode cX5_paint 78 = .ok (.aload_n 0, 1) := by decide +kernel
theorem dX5_paint_79 : decode cX5_paint 79 = .ok (.getfield 30, 3) := by decide +kernel
theorem dX5_paint_82 : decode cX5_paint 82 = .ok (.iload_n 1, 1) := by decide +kernel
theorem dX5_paint_83 : decode cX5_paint 83 = .ok (.iaload, 1) := by decide +kernel
theorem dX5_paint_84 : decode cX5_paint 84 = .ok (.iadd, 1) := by decide +kernel
theorem dX5_paint_85 : decode cX5_paint 85 = .ok (.iconst 0, 1) := by decide +kernel
theorem dX5_paint_86 : decode cX5_paint 86 = .ok (.iastore, 1) := by decide +kernel
theorem dX5_paint_87 : decode cX5_paint 87 = .ok (.aload_n 0, 1) := by decide +kernel
theorem dX5_paint_88 : decode cX5_paint 88 = .ok (.getfield 30, 3) := by decide +kernel
theorem dX5_paint_91 : decode cX5_paint 91 = .ok (.iload_n 1, 1) := by decide +kernel
theorem dX5_paint_92 : decode cX5_paint 92 = .ok (.dup2, 1) := by decide +kernel
theorem dX5_paint_93 : decode cX5_paint 93 = .ok (.iaload, 1) := by decide +kernel
theorem dX5_paint_94 : decode cX5_paint 94 = .ok (.iconst 1, 1) := by decide +kernel
theorem dX5_paint_95 : decode cX5_paint 95 = .ok (.iadd, 1) := by decide +kernel
theorem dX5_paint_96 : decode cX5_paint 96 = .ok (.iastore, 1) := by decide +kernel
theorem dX5_paint_97 : decode cX5_paint 97 = .ok (.aload_n 0, 1) := by decide +kernel
theorem dX5_paint_98 : decode cX5_paint 98 = .ok (.iload_n 1, 1) := by decide +kernel
theorem dX5_paint_99 : decode cX5_paint 99 = .ok (.iconst 4, 1) := by decide +kernel
theorem dX5_paint_100 : decode cX5_paint 100 = .ok (.invokevirtual 75, 3) := by decide +kernel
theorem dX5_paint_103 : decode cX5_paint 103 = .ok (.aload_n 0, 1) := by decide +kernel
theorem dX5_paint_104 : decode cX5_paint 104 = .ok (.getfield 30, 3) := by decide +kernel
theorem dX5_paint_107 : decode cX5_paint 107 = .ok (.iload_n 1, 1) := by decide +kernel
theorem dX5_paint_108 : decode cX5_paint 108 = .ok (.iaload, 1) := by decide +kernel
theorem dX5_paint_109 : decode cX5_paint 109 = .ok (.ireturn, 1) := by decide +kernel
set_option maxRecDepth 20000 in
theorem ggX5_fire_X5_isPiece : GoodIn wsX5_fire wsX5_isPiece := goodIn_r _ [8, 9, 10, 11, 12, 7, 13, 25, 26, 27, 28, 29, 30, 31, 32, 33, 34, 35, 36, 37, 38, 39, 40, 41, 42, 43, 44, 45, 46, 47, 48] (by decide +kernel) (by decide +kernel)
set_option maxRecDepth 20000 in
theorem gX5_fire_X5_isPiece : GoodIn wsX5_fire (wsV RX5 109 RX5 yX5_isPiece wsX5_isPiece) := goodIn_app (goodIn_of _ (by decide +kernel)) ggX5_fire_X5_isPiece
set_option maxRecDepth 20000 in
theorem ggX5_fire_X5_in : GoodIn wsX5_fire wsX5_in := goodIn_r _ [13] (by decide +kernel) (by decide +kernel)
set_option maxRecDepth 20000 in
theorem gX5_fire_X5_in : GoodIn wsX5_fire (va_wsS RX5 82 yX5_in wsX5_in) := goodIn_app (goodIn_of _ (by decide +kernel)) ggX5_fire_X5_in
set_option maxRecDepth 20000 in
theorem ggX5_fire_X5_goesWell : GoodIn wsX5_fire wsX5_goesWell := goodIn_r _ [17, 18, 25, 26, 27, 28, 29, 30, 31, 32, 33, 34, 35, 36, 37, 38, 39, 40, 41, 42, 43, 44, 45, 46, 47, 48] (by decide +kernel) (by decide +kernel)
set_option maxRecDepth 20000 in
theorem gX5_fire_X5_goesWell : GoodIn wsX5_fire (wsV RX5 119 RX5 yX5_goesWell wsX5_goesWell) := goodIn_app (goodIn_of _ (by decide +kernel)) ggX5_fire_X5_goesWell
set_option maxRecDepth 20000 in
theorem ggX5_fire_X5_note : GoodIn wsX5_fire wsX5_note := goodIn_r _ [22, 23, 24, 25, 26, 27, 28, 29, 30, 31, 32, 33, 34, 35, 36, 37, 38, 39, 40, 41, 42, 43, 44, 45, 46, 47, 48] (by decide +kernel) (by decide +kernel)
set_option maxRecDepth 20000 in
theorem gX5_fire_X5_note : GoodIn wsX5_fire (wsV RX5 75 RX5 yX5_note wsX5_note) := goodIn_app (goodIn_of _ (by decide +kernel)) ggX5_fire_X5_note
theorem dX5_fire_0 : decode cX5_fire 0 = .ok (.aload_n 0, 1) := by decide +kernel
theorem dX5_fire_1 : decode cX5_fire 1 = .ok (.iload_n 1, 1) := by decide +kernel
theorem dX5_fire_2 : decode cX5_fire 2 = .ok (.invokevirtual 109, 3) := by decide +kernel
theorem dX5_fire_5 : decode cX5_fire 5 = .ok (.istore_n 3, 1) := by decide +kernel
theorem dX5_fire_6 : decode cX5_fire 6 = .ok (.aload_n 0, 1) := by decide +kernel
theorem dX5_fire_7 : decode cX5_fire 7 = .ok (.iload_n 3, 1) := by decide +kernel
theorem dX5_fire_8 : decode cX5_fire 8 = .ok (.ifCond .ne 7, 3) := by decide +kernel
theorem dX5_fire_11 : decode cX5_fire 11 = .ok (.iconst 1, 1) := by decide +kernel
theorem dX5_fire_12 : decode cX5_fire 12 = .ok (.goto 21, 3) := by decide +kernel
theorem dX5_fire_15 : decode cX5_fire 15 = .ok (.iload_n 2, 1) := by decide +kernel
theorem dX5_fire_16 : decode cX5_fire 16 = .ok (.sipush 500, 3) := by decide +kernel
theorem dX5_fire_19 : decode cX5_fire 19 = .ok (.sipush 750, 3) := by decide +kernel
theorem dX5_fire_22 : decode cX5_fire 22 = .ok (.invokestatic 82, 3) := by decide +kernel
theorem dX5_fire_25 : decode cX5_fire 25 = .ok (.ifCond .eq 7, 3) := by decide +kernel
theorem dX5_fire_28 : decode cX5_fire 28 = .ok (.iconst 0, 1) := by decide +kernel
theorem dX5_fire_29 : decode cX5_fire 29 = .ok (.goto 4, 3) := by decide +kernel
theorem dX5_fire_32 : decode cX5_fire 32 = .ok (.iconst 2, 1) := by decide +kernel
theorem dX5_fire_33 : decode cX5_fire 33 = .ok (.invokevirtual 119, 3) := by decide +kernel
theorem dX5_fire_36 : decode cX5_fire 36 = .ok (.ifCond .ne 5, 3) := by decide +kernel
theorem dX5_fire_39 : decode cX5_fire 39 = .ok (.iconst 0, 1) := by decide +kernel
theorem dX5_fire_40 : decode cX5_fire 40 = .ok (.ireturn, 1) := by decide +kernel
theorem dX5_fire_41 : decode cX5_fire 41 = .ok (.iconst 0, 1) := by decide +kernel
theorem dX5_fire_42 : decode cX5_fire 42 = .ok (.istore 4, 2) := by decide +kernel
theorem dX5_fire_44 : decode cX5_fire 44 = .ok (.iconst 5, 1) := by decide +kernel
theorem dX5_fire_45 : decode cX5_fire 45 = .ok (.iload_n 1, 1) := by decide +kernel
theorem dX5_fire_46 : decode cX5_fire 46 = .ok (.imul, 1) := by decide +kernel
theorem dX5_fire_47 : decode cX5_fire 47 = .ok (.istore 5, 2) := by decide +kernel
theorem dX5_fire_49 : decode cX5_fire 49 = .ok (.iload 5, 2) := by decide +kernel
theorem dX5_fire_51 : decode cX5_fire 51 = .ok (.iconst 5, 1) := by decide +kernel
theorem dX5_fire_52 : decode cX5_fire 52 = .ok (.iload_n 1, 1) := by decide +kernel
theorem dX5_fire_53 : decode cX5_fire 53 = .ok (.imul, 1) := by decide +kernel
theorem dX5_fire_54 : decode cX5_fire 54 = .ok (.aload_n 0, 1) := by decide +kernel
theorem dX5_fire_55 : decode cX5_fire 55 = .ok (.getfield 30, 3) := by decide +kernel
theorem dX5_fire_58 : decode cX5_fire 58 = .ok (.iload_n 1, 1) := by decide +kernel
theorem dX5_fire_59 : decode cX5_fire 59 = .ok (.iaload, 1) := by decide +kernel
theorem dX5_fire_60 : decode cX5_fire 60 = .ok (.iadd, 1) := by decide +kernel
theorem dX5_fire_61 : decode cX5_fire 61 = .ok (.if_icmp .ge 105, 3) := by decide +kernel
theorem dX5_fire_64 : decode cX5_fire 64 = .ok (.iload_n 2, 1) := by decide +kernel
theorem dX5_fire_65 : decode cX5_fire 65 = .ok (.aload_n 0, 1) := by decide +kernel
theorem dX5_fire_66 : decode cX5_fire 66 = .ok (.getfield 33, 3) := by decide +kernel
theorem dX5_fire_69 : decode cX5_fire 69 = .ok (.iload 5, 2) := by decide +kernel
theorem dX5_fire_71 : decode cX5_fire 71 = .ok (.iaload, 1) := by decide +kernel
theorem dX5_fire_72 : decode cX5_fire 72 = .ok (.isub, 1) := by decide +kernel
theorem dX5_fire_73 : decode cX5_fire 73 = .ok (.bipush 30, 2) := by decide +kernel
theorem dX5_fire_75 : decode cX5_fire 75 = .ok (.if_icmp .le 7, 3) := by decide +kernel
theorem dX5_fire_78 : decode cX5_fire 78 = .ok (.iconst 1, 1) := by decide +kernel
theorem dX5_fire_79 : decode cX5_fire 79 = .ok (.goto 4, 3) := by decide +kernel
theorem dX5_fire_82 : decode cX5_fire 82 = .ok (.iconst 0, 1) := by decide +kernel
theorem dX5_fire_83 : decode cX5_fire 83 = .ok (.istore 6, 2) := by decide +kernel
theorem dX5_fire_85 : decode cX5_fire 85 = .ok (.iload 4, 2) := by decide +kernel
theorem dX5_fire_87 : decode cX5_fire 87 = .ok (.iload 6, 2) := by decide +kernel
theorem dX5_fire_89 : decode cX5_fire 89 = .ok (.ifCond .eq 18, 3) := by decide +kernel
theorem dX5_fire_92 : decode cX5_fire 92 = .ok (.aload_n 0, 1) := by decide +kernel
theorem dX5_fire_93 : decode cX5_fire 93 = .ok (.getfield 36, 3) := by decide +kernel
theorem dX5_fire_96 : decode cX5_fire 96 = .ok (.iload 5, 2) := by decide +kernel
theorem dX5_fire_98 : decode cX5_fire 98 = .ok (.iaload, 1) := by decide +kernel
theorem dX5_fire_99 : decode cX5_fire 99 = .ok (.iconst 2, 1) := by decide +kernel
theorem dX5_fire_100 : decode cX5_fire 100 = .ok (.if_icmp .eq 7, 3) := by decide +kernel
theorem dX5_fire_103 : decode cX5_fire 103 = .ok (.iconst 1, 1) := by decide +kernel
theorem dX5_fire_104 : decode cX5_fire 104 = .ok (.goto 4, 3) := by decide +kernel
theorem dX5_fire_107 : decode cX5_fire 107 = .ok (.iconst 0, 1) := by decide +kernel
theorem dX5_fire_108 : decode cX5_fire 108 = .ok (.iadd, 1) := by decide +kernel
theorem dX5_fire_109 : decode cX5_fire 109 = .ok (.istore 4, 2) := by decide +kernel
theorem dX5_fire_111 : decode cX5_fire 111 = .ok (.aload_n 0, 1) := by decide +kernel
theorem dX5_fire_112 : decode cX5_fire 112 = .ok (.getfield 36, 3) := by decide +kernel
theorem dX5_fire_115 : decode cX5_fire 115 = .ok (.iload 5, 2) := by decide +kernel
theorem dX5_fire_117 : decode cX5_fire 117 = .ok (.iload 6, 2) := by decide +kernel
theorem dX5_fire_119 : decode cX5_fire 119 = .ok (.ifCond .ne 14, 3) := by decide +kernel
theorem dX5_fire_122 : decode cX5_fire 122 = .ok (.aload_n 0, 1) := by decide +kernel
theorem dX5_fire_123 : decode cX5_fire 123 = .ok (.getfield 36, 3) := by decide +kernel
theorem dX5_fire_126 : decode cX5_fire 126 = .ok (.iload 5, 2) := by decide +kernel
theorem dX5_fire_128 : decode cX5_fire 128 = .ok (.iaload, 1) := by decide +kernel
theorem dX5_fire_129 : decode cX5_fire 129 = .ok (.iconst 2, 1) := by decide +kernel
theorem dX5_fire_130 : decode cX5_fire 130 = .ok (.if_icmp .ne 7, 3) := by decide +kernel
theorem dX5_fire_133 : decode cX5_fire 133 = .ok (.iconst 2, 1) := by decide +kernel
theorem dX5_fire_134 : decode cX5_fire 134 = .ok (.goto 25, 3) := by decide +kernel
theorem dX5_fire_137 : decode cX5_fire 137 = .ok (.aload_n 0, 1) := by decide +kernel
theorem dX5_fire_138 : decode cX5_fire 138 = .ok (.getfield 33, 3) := by decide +kernel
theorem dX5_fire_141 : decode cX5_fire 141 = .ok (.iload 5, 2) := by decide +kernel
theorem dX5_fire_143 : decode cX5_fire 143 = .ok (.iaload, 1) := by decide +kernel
theorem dX5_fire_144 : decode cX5_fire 144 = .ok (.iload_n 2, 1) := by decide +kernel
theorem dX5_fire_145 : decode cX5_fire 145 = .ok (.if_icmp .gt 7, 3) := by decide +kernel
theorem dX5_fire_148 : decode cX5_fire 148 = .ok (.iconst 1, 1) := by decide +kernel
theorem dX5_fire_149 : decode cX5_fire 149 = .ok (.goto 10, 3) := by decide +kernel
theorem dX5_fire_152 : decode cX5_fire 152 = .ok (.aload_n 0, 1) := by decide +kernel
theorem dX5_fire_153 : decode cX5_fire 153 = .ok (.getfield 36, 3) := by decide +kernel
theorem dX5_fire_156 : decode cX5_fire 156 = .ok (.iload 5, 2) := by decide +kernel
theorem dX5_fire_158 : decode cX5_fire 158 = .ok (.iaload, 1) := by decide +kernel
theorem dX5_fire_159 : decode cX5_fire 159 = .ok (.iastore, 1) := by decide +kernel
theorem dX5_fire_160 : decode cX5_fire 160 = .ok (.iinc 5 1, 3) := by decide +kernel
theorem dX5_fire_163 : decode cX5_fire 163 = .ok (.goto (-114), 3) := by decide +kernel
theorem dX5_fire_166 : decode cX5_fire 166 = .ok (.aload_n 0, 1) := by decide +kernel
theorem dX5_fire_167 : decode cX5_fire 167 = .ok (.iload_n 1, 1) := by decide +kernel
theorem dX5_fire_168 : decode cX5_fire 168 = .ok (.iconst 5, 1) := by decide +kernel
theorem dX5_fire_169 : decode cX5_fire 169 = .ok (.invokevirtual 75, 3) := by decide +kernel
theorem dX5_fire_172 : decode cX5_fire 172 = .ok (.iload 4, 2) := by decide +kernel
theorem dX5_fire_174 : decode cX5_fire 174 = .ok (.ireturn, 1) := by decide +kernel
set_option maxRecDepth 20000 in
theorem ggX5_crack_X5_isCell : GoodIn wsX5_crack wsX5_isCell := goodIn_r _ [6, 7, 8, 5, 9] (by decide +kernel) (by decide +kernel)
set_option maxRecDepth 20000 in
theorem gX5_crack_X5_isCell : GoodIn wsX5_crack (va_wsS RX5 122 yX5_isCell wsX5_isCell) := goodIn_app (goodIn_of _ (by decide +kernel)) ggX5_crack_X5_isCell
set_option maxRecDepth 20000 in
theorem ggX5_crack_X5_goesWell : GoodIn wsX5_crack wsX5_goesWell := goodIn_r _ [13, 14, 21, 22, 23, 24, 25, 26, 27, 28, 29, 30, 31, 32, 33, 34, 35, 36, 37, 38, 39, 40, 41, 42, 43, 44] (by decide +kernel) (by decide +kernel)
set_option maxRecDepth 20000 in
theorem gX5_crack_X5_goesWell : GoodIn wsX5_crack (wsV RX5 119 RX5 yX5_goesWell wsX5_goesWell) := goodIn_app (goodIn_of _ (by decide +kernel)) ggX5_crack_X5_goesWell
set_option maxRecDepth 20000 in
theorem ggX5_crack_X5_note : GoodIn wsX5_crack wsX5_note := goodIn_r _ [18, 19, 20, 21, 22, 23, 24, 25, 26, 27, 28, 29, 30, 31, 32, 33, 34, 35, 36, 37, 38, 39, 40, 41, 42, 43, 44] (by decide +kernel) (by decide +kernel)
set_option maxRecDepth 20000 in
theorem gX5_crack_X5_note : GoodIn wsX5_crack (wsV RX5 75 RX5 yX5_note wsX5_note) := goodIn_app (goodIn_of _ (by decide +kernel)) ggX5_crack_X5_note
theorem dX5_crack_0 : decode cX5_crack 0 = .ok (.aload_n 0, 1) := by decide +kernel
theorem dX5_crack_1 : decode cX5_crack 1 = .ok (.iload_n 1, 1) := by decide +kernel
theorem dX5_crack_2 : decode cX5_crack 2 = .ok (.invokestatic 122, 3) := by decide +kernel
theorem dX5_crack_5 : decode cX5_crack 5 = .ok (.ifCond .eq 7, 3) := by decide +kernel
theorem dX5_crack_8 : decode cX5_crack 8 = .ok (.iconst 0, 1) := by decide +kernel
theorem dX5_crack_9 : decode cX5_crack 9 = .ok (.goto 4, 3) := by decide +kernel
theorem dX5_crack_12 : decode cX5_crack 12 = .ok (.iconst 1, 1) := by decide +kernel
theorem dX5_crack_13 : decode cX5_crack 13 = .ok (.invokevirtual 119, 3) := by decide +kernel
theorem dX5_crack_16 : decode cX5_crack 16 = .ok (.ifCond .ne 5, 3) := by decide +kernel
theorem dX5_crack_19 : decode cX5_crack 19 = .ok (.iconst 0, 1) := by decide +kernel
theorem dX5_crack_20 : decode cX5_crack 20 = .ok (.ireturn, 1) := by decide +kernel
theorem dX5_crack_21 : decode cX5_crack 21 = .ok (.aload_n 0, 1) := by decide +kernel
theorem dX5_crack_22 : decode cX5_crack 22 = .ok (.getfield 27, 3) := by decide +kernel
theorem dX5_crack_25 : decode cX5_crack 25 = .ok (.aload_n 0, 1) := by decide +kernel
theorem dX5_crack_26 : decode cX5_crack 26 = .ok (.getfield 13, 3) := by decide +kernel
theorem dX5_crack_29 : decode cX5_crack 29 = .ok (.iload_n 1, 1) := by decide +kernel
theorem dX5_crack_30 : decode cX5_crack 30 = .ok (.iaload, 1) := by decide +kernel
theorem dX5_crack_31 : decode cX5_crack 31 = .ok (.iconst 1, 1) := by decide +kernel
theorem dX5_crack_32 : decode cX5_crack 32 = .ok (.iastore, 1) := by decide +kernel
theorem dX5_crack_33 : decode cX5_crack 33 = .ok (.aload_n 0, 1) := by decide +kernel
theorem dX5_crack_34 : decode cX5_crack 34 = .ok (.aload_n 0, 1) := by decide +kernel
theorem dX5_crack_35 : decode cX5_crack 35 = .ok (.getfield 13, 3) := by decide +kernel
theorem dX5_crack_38 : decode cX5_crack 38 = .ok (.iload_n 1, 1) := by decide +kernel
theorem dX5_crack_39 : decode cX5_crack 39 = .ok (.iaload, 1) := by decide +kernel
theorem dX5_crack_40 : decode cX5_crack 40 = .ok (.bipush 7, 2) := by decide +kernel
theorem dX5_crack_42 : decode cX5_crack 42 = .ok (.invokevirtual 75, 3) := by decide +kernel
theorem dX5_crack_45 : decode cX5_crack 45 = .ok (.aload_n 0, 1) := by decide +kernel
theorem dX5_crack_46 : decode cX5_crack 46 = .ok (.getfield 13, 3) := by decide +kernel
theorem dX5_crack_49 : decode cX5_crack 49 = .ok (.iload_n 1, 1) := by decide +kernel
theorem dX5_crack_50 : decode cX5_crack 50 = .ok (.iaload, 1) := by decide +kernel
theorem dX5_crack_51 : decode cX5_crack 51 = .ok (.ireturn, 1) := by decide +kernel
theorem dX5_broken_0 : decode cX5_broken 0 = .ok (.iconst 0, 1) := by decide +kernel
theorem dX5_broken_1 : decode cX5_broken 1 = .ok (.istore_n 1, 1) := by decide +kernel
theorem dX5_broken_2 : decode cX5_broken 2 = .ok (.iconst 0, 1) := by decide +kernel
theorem dX5_broken_3 : decode cX5_broken 3 = .ok (.istore_n 2, 1) := by decide +kernel
theorem dX5_broken_4 : decode cX5_broken 4 = .ok (.iload_n 2, 1) := by decide +kernel
theorem dX5_broken_5 : decode cX5_broken 5 = .ok (.aload_n 0, 1) := by decide +kernel
theorem dX5_broken_6 : decode cX5_broken 6 = .ok (.getfield 7, 3) := by decide +kernel
theorem dX5_broken_9 : decode cX5_broken 9 = .ok (.if_icmp .ge 36, 3) := by decide +kernel
theorem dX5_broken_12 : decode cX5_broken 12 = .ok (.iload_n 1, 1) := by decide +kernel
theorem dX5_broken_13 : decode cX5_broken 13 = .ok (.aload_n 0, 1) := by decide +kernel
theorem dX5_broken_14 : decode cX5_broken 14 = .ok (.getfield 17, 3) := by decide +kernel
theorem dX5_broken_17 : decode cX5_broken 17 = .ok (.iload_n 2, 1) := by decide +kernel
theorem dX5_broken_18 : decode cX5_broken 18 = .ok (.iaload, 1) := by decide +kernel
theorem dX5_broken_19 : decode cX5_broken 19 = .ok (.ifCond .le 17, 3) := by decide +kernel
theorem dX5_broken_22 : decode cX5_broken 22 = .ok (.aload_n 0, 1) := by decide +kernel
theorem dX5_broken_23 : decode cX5_broken 23 = .ok (.getfield 27, 3) := by decide +kernel
theorem dX5_broken_26 : decode cX5_broken 26 = .ok (.iload_n 2, 1) := by decide +kernel
theorem dX5_broken_27 : decode cX5_broken 27 = .ok (.iaload, 1) := by decide +kernel
theorem dX5_broken_28 : decode cX5_broken 28 = .ok (.iconst 1, 1) := by decide +kernel
theorem dX5_broken_29 : decode cX5_broken 29 = .ok (.if_icmp .ne 7, 3) := by decide +kernel
theorem dX5_broken_32 : decode cX5_broken 32 = .ok (.iconst 1, 1) := by decide +kernel
theorem dX5_broken_33 : decode cX5_broken 33 = .ok (.goto 4, 3) := by decide +kernel
theorem dX5_broken_36 : decode cX5_broken 36 = .ok (.iconst 0, 1) := by decide +kernel
theorem dX5_broken_37 : decode cX5_broken 37 = .ok (.iadd, 1) := by decide +kernel
theorem dX5_broken_38 : decode cX5_broken 38 = .ok (.istore_n 1, 1) := by decide +kernel
theorem dX5_broken_39 : decode cX5_broken 39 = .ok (.iinc 2 1, 3) := by decide +kernel
theorem dX5_broken_42 : decode cX5_broken 42 = .ok (.goto (-38), 3) := by decide +kernel
theorem dX5_broken_45 : decode cX5_broken 45 = .ok (.iload_n 1, 1) := by decide +kernel
theorem dX5_broken_46 : decode cX5_broken 46 = .ok (.ireturn, 1) := by decide +kernel
set_option maxRecDepth 20000 in
theorem ggX5_mend_X5_isPiece : GoodIn wsX5_mend wsX5_isPiece := goodIn_r _ [6, 7, 8, 9, 10, 5, 11, 27, 28, 29, 30, 31, 32, 33, 34, 35, 36, 37, 38, 39, 40, 41, 42, 43, 44, 45, 46, 47, 48, 49, 50] (by decide +kernel) (by decide +kernel)
set_option maxRecDepth 20000 in
theorem gX5_mend_X5_isPiece : GoodIn wsX5_mend (wsV RX5 109 RX5 yX5_isPiece wsX5_isPiece) := goodIn_app (goodIn_of _ (by decide +kernel)) ggX5_mend_X5_isPiece
set_option maxRecDepth 20000 in
theorem ggX5_mend_X5_goesWell : GoodIn wsX5_mend wsX5_goesWell := goodIn_r _ [15, 16, 27, 28, 29, 30, 31, 32, 33, 34, 35, 36, 37, 38, 39, 40, 41, 42, 43, 44, 45, 46, 47, 48, 49, 50] (by decide +kernel) (by decide +kernel)
set_option maxRecDepth 20000 in
theorem gX5_mend_X5_goesWell : GoodIn wsX5_mend (wsV RX5 119 RX5 yX5_goesWell wsX5_goesWell) := goodIn_app (goodIn_of _ (by decide +kernel)) ggX5_mend_X5_goesWell
set_option maxRecDepth 20000 in
theorem ggX5_mend_X5_note : GoodIn wsX5_mend wsX5_note := goodIn_r _ [20, 21, 22, 27, 28, 29, 30, 31, 32, 33, 34, 35, 36, 37, 38, 39, 40, 41, 42, 43, 44, 45, 46, 47, 48, 49, 50] (by decide +kernel) (by decide +kernel)
set_option maxRecDepth 20000 in
theorem gX5_mend_X5_note : GoodIn wsX5_mend (wsV RX5 75 RX5 yX5_note wsX5_note) := goodIn_app (goodIn_of _ (by decide +kernel)) ggX5_mend_X5_note
set_option maxRecDepth 20000 in
theorem ggX5_mend_X5_broken : GoodIn wsX5_mend wsX5_broken := goodIn_r _ [26, 7, 8, 1, 27, 28, 29, 30, 31, 32, 33, 34, 35, 36, 37, 38, 39, 40, 41, 42, 43, 44, 45, 46, 47, 48, 49, 50] (by decide +kernel) (by decide +kernel)
set_option maxRecDepth 20000 in
theorem gX5_mend_X5_broken : GoodIn wsX5_mend (wsV RX5 135 RX5 yX5_broken wsX5_broken) := goodIn_app (goodIn_of _ (by decide +kernel)) ggX5_mend_X5_broken
theorem dX5_mend_0 : decode cX5_mend 0 = .ok (.aload_n 0, 1) := by decide +kernel
theorem dX5_mend_1 : decode cX5_mend 1 = .ok (.iload_n 1, 1) := by decide +kernel
theorem dX5_mend_2 : decode cX5_mend 2 = .ok (.invokevirtual 109, 3) := by decide +kernel
theorem dX5_mend_5 : decode cX5_mend 5 = .ok (.istore_n 2, 1) := by decide +kernel
theorem dX5_mend_6 : decode cX5_mend 6 = .ok (.aload_n 0, 1) := by decide +kernel
theorem dX5_mend_7 : decode cX5_mend 7 = .ok (.iload_n 2, 1) := by decide +kernel
theorem dX5_mend_8 : decode cX5_mend 8 = .ok (.ifCond .ne 7, 3) := by decide +kernel
theorem dX5_mend_11 : decode cX5_mend 11 = .ok (.iconst 1, 1) := by decide +kernel
theorem dX5_mend_12 : decode cX5_mend 12 = .ok (.goto 18, 3) := by decide +kernel
theorem dX5_mend_15 : decode cX5_mend 15 = .ok (.aload_n 0, 1) := by decide +kernel
theorem dX5_mend_16 : decode cX5_mend 16 = .ok (.getfield 27, 3) := by decide +kernel
theorem dX5_mend_19 : decode cX5_mend 19 = .ok (.iload_n 1, 1) := by decide +kernel
theorem dX5_mend_20 : decode cX5_mend 20 = .ok (.iaload, 1) := by decide +kernel
theorem dX5_mend_21 : decode cX5_mend 21 = .ok (.iconst 1, 1) := by decide +kernel
theorem dX5_mend_22 : decode cX5_mend 22 = .ok (.if_icmp .ne 7, 3) := by decide +kernel
theorem dX5_mend_25 : decode cX5_mend 25 = .ok (.iconst 0, 1) := by decide +kernel
theorem dX5_mend_26 : decode cX5_mend 26 = .ok (.goto 4, 3) := by decide +kernel
theorem dX5_mend_29 : decode cX5_mend 29 = .ok (.iconst 2, 1) := by decide +kernel
theorem dX5_mend_30 : decode cX5_mend 30 = .ok (.invokevirtual 119, 3) := by decide +kernel
theorem dX5_mend_33 : decode cX5_mend 33 = .ok (.ifCond .ne 5, 3) := by decide +kernel
theorem dX5_mend_36 : decode cX5_mend 36 = .ok (.iconst 0, 1) := by decide +kernel
theorem dX5_mend_37 : decode cX5_mend 37 = .ok (.ireturn, 1) := by decide +kernel
theorem dX5_mend_38 : decode cX5_mend 38 = .ok (.aload_n 0, 1) := by decide +kernel
theorem dX5_mend_39 : decode cX5_mend 39 = .ok (.getfield 27, 3) := by decide +kernel
theorem dX5_mend_42 : decode cX5_mend 42 = .ok (.iload_n 1, 1) := by decide +kernel
theorem dX5_mend_43 : decode cX5_mend 43 = .ok (.iconst 2, 1) := by decide +kernel
theorem dX5_mend_44 : decode cX5_mend 44 = .ok (.iastore, 1) := by decide +kernel
theorem dX5_mend_45 : decode cX5_mend 45 = .ok (.aload_n 0, 1) := by decide +kernel
theorem dX5_mend_46 : decode cX5_mend 46 = .ok (.iload_n 1, 1) := by decide +kernel
theorem dX5_mend_47 : decode cX5_mend 47 = .ok (.bipush 8, 2) := by decide +kernel
theorem dX5_mend_49 : decode cX5_mend 49 = .ok (.invokevirtual 75, 3) := by decide +kernel
theorem dX5_mend_52 : decode cX5_mend 52 = .ok (.aload_n 0, 1) := by decide +kernel
theorem dX5_mend_53 : decode cX5_mend 53 = .ok (.invokevirtual 135, 3) := by decide +kernel
theorem dX5_mend_56 : decode cX5_mend 56 = .ok (.ireturn, 1) := by decide +kernel
set_option maxRecDepth 20000 in
theorem ggX5_replace_X5_isPiece : GoodIn wsX5_replace wsX5_isPiece := goodIn_r _ [9, 10, 11, 12, 13, 8, 14, 26, 27, 28, 29, 30, 31, 32, 33, 34, 35, 36, 37, 38, 39, 40, 41, 42, 43, 44, 45, 46, 47, 48, 49] (by decide +kernel) (by decide +kernel)
set_option maxRecDepth 20000 in
theorem gX5_replace_X5_isPiece : GoodIn wsX5_replace (wsV RX5 109 RX5 yX5_isPiece wsX5_isPiece) := goodIn_app (goodIn_of _ (by decide +kernel)) ggX5_replace_X5_isPiece
set_option maxRecDepth 20000 in
theorem ggX5_replace_X5_in : GoodIn wsX5_replace wsX5_in := goodIn_r _ [14] (by decide +kernel) (by decide +kernel)
set_option maxRecDepth 20000 in
theorem gX5_replace_X5_in : GoodIn wsX5_replace (va_wsS RX5 82 yX5_in wsX5_in) := goodIn_app (goodIn_of _ (by decide +kernel)) ggX5_replace_X5_in
set_option maxRecDepth 20000 in
theorem ggX5_replace_X5_goesWell : GoodIn wsX5_replace wsX5_goesWell := goodIn_r _ [18, 19, 26, 27, 28, 29, 30, 31, 32, 33, 34, 35, 36, 37, 38, 39, 40, 41, 42, 43, 44, 45, 46, 47, 48, 49] (by decide +kernel) (by decide +kernel)
set_option maxRecDepth 20000 in
theorem gX5_replace_X5_goesWell : GoodIn wsX5_replace (wsV RX5 119 RX5 yX5_goesWell wsX5_goesWell) := goodIn_app (goodIn_of _ (by decide +kernel)) ggX5_replace_X5_goesWell
set_option maxRecDepth 20000 in
theorem ggX5_replace_X5_note : GoodIn wsX5_replace wsX5_note := goodIn_r _ [23, 24, 25, 26, 27, 28, 29, 30, 31, 32, 33, 34, 35, 36, 37, 38, 39, 40, 41, 42, 43, 44, 45, 46, 47, 48, 49] (by decide +kernel) (by decide +kernel)
set_option maxRecDepth 20000 in
theorem gX5_replace_X5_note : GoodIn wsX5_replace (wsV RX5 75 RX5 yX5_note wsX5_note) := goodIn_app (goodIn_of _ (by decide +kernel)) ggX5_replace_X5_note
theorem dX5_replace_0 : decode cX5_replace 0 = .ok (.aload_n 0, 1) := by decide +kernel
theorem dX5_replace_1 : decode cX5_replace 1 = .ok (.iload_n 1, 1) := by decide +kernel
theorem dX5_replace_2 : decode cX5_replace 2 = .ok (.invokevirtual 109, 3) := by decide +kernel
theorem dX5_replace_5 : decode cX5_replace 5 = .ok (.istore_n 3, 1) := by decide +kernel
theorem dX5_replace_6 : decode cX5_replace 6 = .ok (.aload_n 0, 1) := by decide +kernel
theorem dX5_replace_7 : decode cX5_replace 7 = .ok (.iload_n 3, 1) := by decide +kernel
theorem dX5_replace_8 : decode cX5_replace 8 = .ok (.ifCond .ne 7, 3) := by decide +kernel
theorem dX5_replace_11 : decode cX5_replace 11 = .ok (.iconst 1, 1) := by decide +kernel
theorem dX5_replace_12 : decode cX5_replace 12 = .ok (.goto 41, 3) := by decide +kernel
theorem dX5_replace_15 : decode cX5_replace 15 = .ok (.iload_n 2, 1) := by decide +kernel
theorem dX5_replace_16 : decode cX5_replace 16 = .ok (.iconst 0, 1) := by decide +kernel
theorem dX5_replace_17 : decode cX5_replace 17 = .ok (.bipush 7, 2) := by decide +kernel
theorem dX5_replace_19 : decode cX5_replace 19 = .ok (.invokestatic 82, 3) := by decide +kernel
theorem dX5_replace_22 : decode cX5_replace 22 = .ok (.ifCond .ne 7, 3) := by decide +kernel
theorem dX5_replace_25 : decode cX5_replace 25 = .ok (.iconst 2, 1) := by decide +kernel
theorem dX5_replace_26 : decode cX5_replace 26 = .ok (.goto 27, 3) := by decide +kernel
theorem dX5_replace_29 : decode cX5_replace 29 = .ok (.aload_n 0, 1) := by decide +kernel
theorem dX5_replace_30 : decode cX5_replace 30 = .ok (.getfield 23, 3) := by decide +kernel
theorem dX5_replace_33 : decode cX5_replace 33 = .ok (.iload_n 1, 1) := by decide +kernel
theorem dX5_replace_34 : decode cX5_replace 34 = .ok (.baload, 1) := by decide +kernel
theorem dX5_replace_35 : decode cX5_replace 35 = .ok (.ifCond .eq 17, 3) := by decide +kernel
theorem dX5_replace_38 : decode cX5_replace 38 = .ok (.aload_n 0, 1) := by decide +kernel
theorem dX5_replace_39 : decode cX5_replace 39 = .ok (.getfield 27, 3) := by decide +kernel
theorem dX5_replace_42 : decode cX5_replace 42 = .ok (.iload_n 1, 1) := by decide +kernel
theorem dX5_replace_43 : decode cX5_replace 43 = .ok (.iaload, 1) := by decide +kernel
theorem dX5_replace_44 : decode cX5_replace 44 = .ok (.iconst 1, 1) := by decide +kernel
theorem dX5_replace_45 : decode cX5_replace 45 = .ok (.if_icmp .eq 7, 3) := by decide +kernel
theorem dX5_replace_48 : decode cX5_replace 48 = .ok (.iconst 3, 1) := by decide +kernel
theorem dX5_replace_49 : decode cX5_replace 49 = .ok (.goto 4, 3) := by decide +kernel
theorem dX5_replace_52 : decode cX5_replace 52 = .ok (.iconst 0, 1) := by decide +kernel
theorem dX5_replace_53 : decode cX5_replace 53 = .ok (.invokevirtual 119, 3) := by decide +kernel
theorem dX5_replace_56 : decode cX5_replace 56 = .ok (.ifCond .ne 5, 3) := by decide +kernel
theorem dX5_replace_59 : decode cX5_replace 59 = .ok (.iconst 0, 1) := by decide +kernel
theorem dX5_replace_60 : decode cX5_replace 60 = .ok (.ireturn, 1) := by decide +kernel
theorem dX5_replace_61 : decode cX5_replace 61 = .ok (.aload_n 0, 1) := by decide +kernel
theorem dX5_replace_62 : decode cX5_replace 62 = .ok (.getfield 20, 3) := by decide +kernel
theorem dX5_replace_65 : decode cX5_replace 65 = .ok (.iload_n 1, 1) := by decide +kernel
theorem dX5_replace_66 : decode cX5_replace 66 = .ok (.iaload, 1) := by decide +kernel
theorem dX5_replace_67 : decode cX5_replace 67 = .ok (.istore 4, 2) := by decide +kernel
theorem dX5_replace_69 : decode cX5_replace 69 = .ok (.aload_n 0, 1) := by decide +kernel
theorem dX5_replace_70 : decode cX5_replace 70 = .ok (.getfield 20, 3) := by decide +kernel
theorem dX5_replace_73 : decode cX5_replace 73 = .ok (.iload_n 1, 1) := by decide +kernel
theorem dX5_replace_74 : decode cX5_replace 74 = .ok (.iload_n 2, 1) := by decide +kernel
theorem dX5_replace_75 : decode cX5_replace 75 = .ok (.iastore, 1) := by decide +kernel
theorem dX5_replace_76 : decode cX5_replace 76 = .ok (.aload_n 0, 1) := by decide +kernel
theorem dX5_replace_77 : decode cX5_replace 77 = .ok (.getfield 27, 3) := by decide +kernel
theorem dX5_replace_80 : decode cX5_replace 80 = .ok (.iload_n 1, 1) := by decide +kernel
theorem dX5_replace_81 : decode cX5_replace 81 = .ok (.iconst 0, 1) := by decide +kernel
theorem dX5_replace_82 : decode cX5_replace 82 = .ok (.iastore, 1) := by decide +kernel
theorem dX5_replace_83 : decode cX5_replace 83 = .ok (.aload_n 0, 1) := by decide +kernel
theorem dX5_replace_84 : decode cX5_replace 84 = .ok (.getfield 23, 3) := by decide +kernel
theorem dX5_replace_87 : decode cX5_replace 87 = .ok (.iload_n 1, 1) := by decide +kernel
theorem dX5_replace_88 : decode cX5_replace 88 = .ok (.iconst 0, 1) := by decide +kernel
theorem dX5_replace_89 : decode cX5_replace 89 = .ok (.bastore, 1) := by decide +kernel
theorem dX5_replace_90 : decode cX5_replace 90 = .ok (.aload_n 0, 1) := by decide +kernel
theorem dX5_replace_91 : decode cX5_replace 91 = .ok (.getfield 30, 3) := by decide +kernel
theorem dX5_replace_94 : decode cX5_replace 94 = .ok (.iload_n 1, 1) := by decide +kernel
theorem dX5_replace_95 : decode cX5_replace 95 = .ok (.iconst 0, 1) := by decide +kernel
theorem dX5_replace_96 : decode cX5_replace 96 = .ok (.iastore, 1) := by decide +kernel
theorem dX5_replace_97 : decode cX5_replace 97 = .ok (.aload_n 0, 1) := by decide +kernel
theorem dX5_replace_98 : decode cX5_replace 98 = .ok (.iload_n 1, 1) := by decide +kernel
theorem dX5_replace_99 : decode cX5_replace 99 = .ok (.bipush 9, 2) := by decide +kernel
theorem dX5_replace_101 : decode cX5_replace 101 = .ok (.invokevirtual 75, 3) := by decide +kernel
theorem dX5_replace_104 : decode cX5_replace 104 = .ok (.iload 4, 2) := by decide +kernel
theorem dX5_replace_106 : decode cX5_replace 106 = .ok (.ireturn, 1) := by decide +kernel
theorem dX5_pieces_0 : decode cX5_pieces 0 = .ok (.aload_n 0, 1) := by decide +kernel
theorem dX5_pieces_1 : decode cX5_pieces 1 = .ok (.iconst 0, 1) := by decide +kernel
theorem dX5_pieces_2 : decode cX5_pieces 2 = .ok (.putfield 79, 3) := by decide +kernel
theorem dX5_pieces_5 : decode cX5_pieces 5 = .ok (.iconst 0, 1) := by decide +kernel
theorem dX5_pieces_6 : decode cX5_pieces 6 = .ok (.istore_n 1, 1) := by decide +kernel
theorem dX5_pieces_7 : decode cX5_pieces 7 = .ok (.iconst 0, 1) := by decide +kernel
theorem dX5_pieces_8 : decode cX5_pieces 8 = .ok (.istore_n 2, 1) := by decide +kernel
theorem dX5_pieces_9 : decode cX5_pieces 9 = .ok (.iload_n 2, 1) := by decide +kernel
theorem dX5_pieces_10 : decode cX5_pieces 10 = .ok (.aload_n 0, 1) := by decide +kernel
theorem dX5_pieces_11 : decode cX5_pieces 11 = .ok (.getfield 7, 3) := by decide +kernel
theorem dX5_pieces_14 : decode cX5_pieces 14 = .ok (.if_icmp .ge 26, 3) := by decide +kernel
theorem dX5_pieces_17 : decode cX5_pieces 17 = .ok (.iload_n 1, 1) := by decide +kernel
theorem dX5_pieces_18 : decode cX5_pieces 18 = .ok (.aload_n 0, 1) := by decide +kernel
theorem dX5_pieces_19 : decode cX5_pieces 19 = .ok (.getfield 17, 3) := by decide +kernel
theorem dX5_pieces_22 : decode cX5_pieces 22 = .ok (.iload_n 2, 1) := by decide +kernel
theorem dX5_pieces_23 : decode cX5_pieces 23 = .ok (.iaload, 1) := by decide +kernel
theorem dX5_pieces_24 : decode cX5_pieces 24 = .ok (.ifCond .le 7, 3) := by decide +kernel
theorem dX5_pieces_27 : decode cX5_pieces 27 = .ok (.iconst 1, 1) := by decide +kernel
theorem dX5_pieces_28 : decode cX5_pieces 28 = .ok (.goto 4, 3) := by decide +kernel
theorem dX5_pieces_31 : decode cX5_pieces 31 = .ok (.iconst 0, 1) := by decide +kernel
theorem dX5_pieces_32 : decode cX5_pieces 32 = .ok (.iadd, 1) := by decide +kernel
theorem dX5_pieces_33 : decode cX5_pieces 33 = .ok (.istore_n 1, 1) := by decide +kernel
theorem dX5_pieces_34 : decode cX5_pieces 34 = .ok (.iinc 2 1, 3) := by decide +kernel
theorem dX5_pieces_37 : decode cX5_pieces 37 = .ok (.goto (-28), 3) := by decide +kernel
theorem dX5_pieces_40 : decode cX5_pieces 40 = .ok (.iload_n 1, 1) := by decide +kernel
theorem dX5_pieces_41 : decode cX5_pieces 41 = .ok (.ireturn, 1) := by decide +kernel
set_option maxRecDepth 20000 in
theorem ggX5_pieceOf_X5_isCell : GoodIn wsX5_pieceOf wsX5_isCell := goodIn_r _ [5, 6, 7, 4, 8] (by decide +kernel) (by decide +kernel)
set_option maxRecDepth 20000 in
theorem gX5_pieceOf_X5_isCell : GoodIn wsX5_pieceOf (va_wsS RX5 122 yX5_isCell wsX5_isCell) := goodIn_app (goodIn_of _ (by decide +kernel)) ggX5_pieceOf_X5_isCell
set_option maxRecDepth 20000 in
theorem ggX5_pieceOf_X5_goesWell : GoodIn wsX5_pieceOf wsX5_goesWell := goodIn_r _ [12, 13, 14, 15, 16, 17, 18, 19, 20, 21, 22, 23, 24, 25, 26, 27, 28, 29, 30, 31, 32, 33, 34, 35, 36, 37] (by decide +kernel) (by decide +kernel)
set_option maxRecDepth 20000 in
theorem gX5_pieceOf_X5_goesWell : GoodIn wsX5_pieceOf (wsV RX5 119 RX5 yX5_goesWell wsX5_goesWell) := goodIn_app (goodIn_of _ (by decide +kernel)) ggX5_pieceOf_X5_goesWell
theorem dX5_pieceOf_0 : decode cX5_pieceOf 0 = .ok (.aload_n 0, 1) := by decide +kernel
theorem dX5_pieceOf_1 : decode cX5_pieceOf 1 = .ok (.iload_n 1, 1) := by decide +kernel
theorem dX5_pieceOf_2 : decode cX5_pieceOf 2 = .ok (.invokestatic 122, 3) := by decide +kernel
theorem dX5_pieceOf_5 : decode cX5_pieceOf 5 = .ok (.ifCond .eq 7, 3) := by decide +kernel
theorem dX5_pieceOf_8 : decode cX5_pieceOf 8 = .ok (.iconst 0, 1) := by decide +kernel
theorem dX5_pieceOf_9 : decode cX5_pieceOf 9 = .ok (.goto 4, 3) := by decide +kernel
theorem dX5_pieceOf_12 : decode cX5_pieceOf 12 = .ok (.iconst 1, 1) := by decide +kernel
theorem dX5_pieceOf_13 : decode cX5_pieceOf 13 = .ok (.invokevirtual 119, 3) := by decide +kernel
theorem dX5_pieceOf_16 : decode cX5_pieceOf 16 = .ok (.ifCond .eq 12, 3) := by decide +kernel
theorem dX5_pieceOf_19 : decode cX5_pieceOf 19 = .ok (.aload_n 0, 1) := by decide +kernel
theorem dX5_pieceOf_20 : decode cX5_pieceOf 20 = .ok (.getfield 13, 3) := by decide +kernel
theorem dX5_pieceOf_23 : decode cX5_pieceOf 23 = .ok (.iload_n 1, 1) := by decide +kernel
theorem dX5_pieceOf_24 : decode cX5_pieceOf 24 = .ok (.iaload, 1) := by decide +kernel
theorem dX5_pieceOf_25 : decode cX5_pieceOf 25 = .ok (.goto 4, 3) := by decide +kernel
theorem dX5_pieceOf_28 : decode cX5_pieceOf 28 = .ok (.iconst 0, 1) := by decide +kernel
theorem dX5_pieceOf_29 : decode cX5_pieceOf 29 = .ok (.ireturn, 1) := by decide +kernel
theorem dX5_box_0 : decode cX5_box 0 = .ok (.bipush 16, 2) := by decide +kernel
theorem dX5_box_2 : decode cX5_box 2 = .ok (.istore_n 3, 1) := by decide +kernel
theorem dX5_box_3 : decode cX5_box 3 = .ok (.iconst (-1), 1) := by decide +kernel
theorem dX5_box_4 : decode cX5_box 4 = .ok (.istore 4, 2) := by decide +kernel
theorem dX5_box_6 : decode cX5_box 6 = .ok (.iconst 0, 1) := by decide +kernel
theorem dX5_box_7 : decode cX5_box 7 = .ok (.istore 5, 2) := by decide +kernel
theorem dX5_box_9 : decode cX5_box 9 = .ok (.iload 5, 2) := by decide +kernel
theorem dX5_box_11 : decode cX5_box 11 = .ok (.sipush 256, 3) := by decide +kernel
theorem dX5_box_14 : decode cX5_box 14 = .ok (.if_icmp .ge 79, 3) := by decide +kernel
theorem dX5_box_17 : decode cX5_box 17 = .ok (.iload_n 2, 1) := by decide +kernel
theorem dX5_box_18 : decode cX5_box 18 = .ok (.ifCond .eq 11, 3) := by decide +kernel
theorem dX5_box_21 : decode cX5_box 21 = .ok (.iload 5, 2) := by decide +kernel
theorem dX5_box_23 : decode cX5_box 23 = .ok (.bipush 16, 2) := by decide +kernel
theorem dX5_box_25 : decode cX5_box 25 = .ok (.idiv, 1) := by decide +kernel
theorem dX5_box_26 : decode cX5_box 26 = .ok (.goto 8, 3) := by decide +kernel
theorem dX5_box_29 : decode cX5_box 29 = .ok (.iload 5, 2) := by decide +kernel
theorem dX5_box_31 : decode cX5_box 31 = .ok (.bipush 16, 2) := by decide +kernel
theorem dX5_box_33 : decode cX5_box 33 = .ok (.irem, 1) := by decide +kernel
theorem dX5_box_34 : decode cX5_box 34 = .ok (.istore 6, 2) := by decide +kernel
theorem dX5_box_36 : decode cX5_box 36 = .ok (.aload_n 0, 1) := by decide +kernel
theorem dX5_box_37 : decode cX5_box 37 = .ok (.getfield 13, 3) := by decide +kernel
theorem dX5_box_40 : decode cX5_box 40 = .ok (.iload 5, 2) := by decide +kernel
theorem dX5_box_42 : decode cX5_box 42 = .ok (.iaload, 1) := by decide +kernel
theorem dX5_box_43 : decode cX5_box 43 = .ok (.iload_n 1, 1) := by decide +kernel
theorem dX5_box_44 : decode cX5_box 44 = .ok (.if_icmp .ne 14, 3) := by decide +kernel
theorem dX5_box_47 : decode cX5_box 47 = .ok (.iload 6, 2) := by decide +kernel
theorem dX5_box_49 : decode cX5_box 49 = .ok (.iload_n 3, 1) := by decide +kernel
theorem dX5_box_50 : decode cX5_box 50 = .ok (.if_icmp .ge 8, 3) := by decide +kernel
theorem dX5_box_53 : decode cX5_box 53 = .ok (.iload 6, 2) := by decide +kernel
theorem dX5_box_55 : decode cX5_box 55 = .ok (.goto 4, 3) := by decide +kernel
theorem dX5_box_58 : decode cX5_box 58 = .ok (.iload_n 3, 1) := by decide +kernel
theorem dX5_box_59 : decode cX5_box 59 = .ok (.istore_n 3, 1) := by decide +kernel
theorem dX5_box_60 : decode cX5_box 60 = .ok (.aload_n 0, 1) := by decide +kernel
theorem dX5_box_61 : decode cX5_box 61 = .ok (.getfield 13, 3) := by decide +kernel
theorem dX5_box_64 : decode cX5_box 64 = .ok (.iload 5, 2) := by decide +kernel
theorem dX5_box_66 : decode cX5_box 66 = .ok (.iaload, 1) := by decide +kernel
theorem dX5_box_67 : decode cX5_box 67 = .ok (.iload_n 1, 1) := by decide +kernel
theorem dX5_box_68 : decode cX5_box 68 = .ok (.if_icmp .ne 15, 3) := by decide +kernel
theorem dX5_box_71 : decode cX5_box 71 = .ok (.iload 6, 2) := by decide +kernel
theorem dX5_box_73 : decode cX5_box 73 = .ok (.iload 4, 2) := by decide +kernel
theorem dX5_box_75 : decode cX5_box 75 = .ok (.if_icmp .le 8, 3) := by decide +kernel
theorem dX5_box_78 : decode cX5_box 78 = .ok (.iload 6, 2) := by decide +kernel
theorem dX5_box_80 : decode cX5_box 80 = .ok (.goto 5, 3) := by decide +kernel
theorem dX5_box_83 : decode cX5_box 83 = .ok (.iload 4, 2) := by decide +kernel
theorem dX5_box_85 : decode cX5_box 85 = .ok (.istore 4, 2) := by decide +kernel
theorem dX5_box_87 : decode cX5_box 87 = .ok (.iinc 5 1, 3) := by decide +kernel
theorem dX5_box_90 : decode cX5_box 90 = .ok (.goto (-81), 3) := by decide +kernel
theorem dX5_box_93 : decode cX5_box 93 = .ok (.iload 4, 2) := by decide +kernel
theorem dX5_box_95 : decode cX5_box 95 = .ok (.iload_n 3, 1) := by decide +kernel
theorem dX5_box_96 : decode cX5_box 96 = .ok (.isub, 1) := by decide +kernel
theorem dX5_box_97 : decode cX5_box 97 = .ok (.iconst 1, 1) := by decide +kernel
theorem dX5_box_98 : decode cX5_box 98 = .ok (.iadd, 1) := by decide +kernel
theorem dX5_box_99 : decode cX5_box 99 = .ok (.ireturn, 1) := by decide +kernel
theorem dX5_layersOf_0 : decode cX5_layersOf 0 = .ok (.iconst 0, 1) := by decide +kernel
theorem dX5_layersOf_1 : decode cX5_layersOf 1 = .ok (.istore_n 3, 1) := by decide +kernel
theorem dX5_layersOf_2 : decode cX5_layersOf 2 = .ok (.iconst 5, 1) := by decide +kernel
theorem dX5_layersOf_3 : decode cX5_layersOf 3 = .ok (.iload_n 1, 1) := by decide +kernel
theorem dX5_layersOf_4 : decode cX5_layersOf 4 = .ok (.imul, 1) := by decide +kernel
theorem dX5_layersOf_5 : decode cX5_layersOf 5 = .ok (.istore 4, 2) := by decide +kernel
theorem dX5_layersOf_7 : decode cX5_layersOf 7 = .ok (.iload 4, 2) := by decide +kernel
theorem dX5_layersOf_9 : decode cX5_layersOf 9 = .ok (.iconst 5, 1) := by decide +kernel
theorem dX5_layersOf_10 : decode cX5_layersOf 10 = .ok (.iload_n 1, 1) := by decide +kernel
theorem dX5_layersOf_11 : decode cX5_layersOf 11 = .ok (.imul, 1) := by decide +kernel
theorem dX5_layersOf_12 : decode cX5_layersOf 12 = .ok (.aload_n 0, 1) := by decide +kernel
theorem dX5_layersOf_13 : decode cX5_layersOf 13 = .ok (.getfield 30, 3) := by decide +kernel
theorem dX5_layersOf_16 : decode cX5_layersOf 16 = .ok (.iload_n 1, 1) := by decide +kernel
theorem dX5_layersOf_17 : decode cX5_layersOf 17 = .ok (.iaload, 1) := by decide +kernel
theorem dX5_layersOf_18 : decode cX5_layersOf 18 = .ok (.iadd, 1) := by decide +kernel
theorem dX5_layersOf_19 : decode cX5_layersOf 19 = .ok (.if_icmp .ge 28, 3) := by decide +kernel
theorem dX5_layersOf_22 : decode cX5_layersOf 22 = .ok (.iload_n 3, 1) := by decide +kernel
theorem dX5_layersOf_23 : decode cX5_layersOf 23 = .ok (.aload_n 0, 1) := by decide +kernel
theorem dX5_layersOf_24 : decode cX5_layersOf 24 = .ok (.getfield 36, 3) := by decide +kernel
theorem dX5_layersOf_27 : decode cX5_layersOf 27 = .ok (.iload 4, 2) := by decide +kernel
theorem dX5_layersOf_29 : decode cX5_layersOf 29 = .ok (.iaload, 1) := by decide +kernel
theorem dX5_layersOf_30 : decode cX5_layersOf 30 = .ok (.iload_n 2, 1) := by decide +kernel
theorem dX5_layersOf_31 : decode cX5_layersOf 31 = .ok (.if_icmp .ne 7, 3) := by decide +kernel
theorem dX5_layersOf_34 : decode cX5_layersOf 34 = .ok (.iconst 1, 1) := by decide +kernel
theorem dX5_layersOf_35 : decode cX5_layersOf 35 = .ok (.goto 4, 3) := by decide +kernel
theorem dX5_layersOf_38 : decode cX5_layersOf 38 = .ok (.iconst 0, 1) := by decide +kernel
theorem dX5_layersOf_39 : decode cX5_layersOf 39 = .ok (.iadd, 1) := by decide +kernel
theorem dX5_layersOf_40 : decode cX5_layersOf 40 = .ok (.istore_n 3, 1) := by decide +kernel
theorem dX5_layersOf_41 : decode cX5_layersOf 41 = .ok (.iinc 4 1, 3) := by decide +kernel
theorem dX5_layersOf_44 : decode cX5_layersOf 44 = .ok (.goto (-37), 3) := by decide +kernel
theorem dX5_layersOf_47 : decode cX5_layersOf 47 = .ok (.iload_n 3, 1) := by decide +kernel
theorem dX5_layersOf_48 : decode cX5_layersOf 48 = .ok (.ireturn, 1) := by decide +kernel
set_option maxRecDepth 20000 in
theorem ggX5_piece_X5_isPiece : GoodIn wsX5_piece wsX5_isPiece := goodIn_r _ [9, 10, 11, 12, 13, 8, 14, 47, 48, 49, 50, 51, 52, 53, 54, 55, 56, 57, 58, 59, 60, 61, 62, 63, 64, 65, 66, 67, 68, 69, 70] (by decide +kernel) (by decide +kernel)
set_option maxRecDepth 20000 in
theorem gX5_piece_X5_isPiece : GoodIn wsX5_piece (wsV RX5 109 RX5 yX5_isPiece wsX5_isPiece) := goodIn_app (goodIn_of _ (by decide +kernel)) ggX5_piece_X5_isPiece
set_option maxRecDepth 20000 in
theorem ggX5_piece_X5_in : GoodIn wsX5_piece wsX5_in := goodIn_r _ [14] (by decide +kernel) (by decide +kernel)
set_option maxRecDepth 20000 in
theorem gX5_piece_X5_in : GoodIn wsX5_piece (va_wsS RX5 82 yX5_in wsX5_in) := goodIn_app (goodIn_of _ (by decide +kernel)) ggX5_piece_X5_in
set_option maxRecDepth 20000 in
theorem ggX5_piece_X5_goesWell : GoodIn wsX5_piece wsX5_goesWell := goodIn_r _ [18, 19, 47, 48, 49, 50, 51, 52, 53, 54, 55, 56, 57, 58, 59, 60, 61, 62, 63, 64, 65, 66, 67, 68, 69, 70] (by decide +kernel) (by decide +kernel)
set_option maxRecDepth 20000 in
theorem gX5_piece_X5_goesWell : GoodIn wsX5_piece (wsV RX5 119 RX5 yX5_goesWell wsX5_goesWell) := goodIn_app (goodIn_of _ (by decide +kernel)) ggX5_piece_X5_goesWell
set_option maxRecDepth 20000 in
theorem ggX5_piece_X5_setPiece : GoodIn wsX5_piece wsX5_setPiece := goodIn_r _ [23, 24, 25, 47, 48, 49, 50, 51, 52, 53, 54, 55, 56, 57, 58, 59, 60, 61, 62, 63, 64, 65, 66, 67, 68, 69, 70] (by decide +kernel) (by decide +kernel)
set_option maxRecDepth 20000 in
theorem gX5_piece_X5_setPiece : GoodIn wsX5_piece (wsV RX5 128 RX5 yX5_setPiece wsX5_setPiece) := goodIn_app (goodIn_of _ (by decide +kernel)) ggX5_piece_X5_setPiece
set_option maxRecDepth 20000 in
theorem ggX5_piece_X5_cut : GoodIn wsX5_piece wsX5_cut := goodIn_r _ [29, 24, 30, 31, 32, 8, 33, 34, 35, 36, 37, 12, 13, 14, 47, 48, 49, 50, 51, 52, 53, 54, 55, 56, 57, 58, 59, 60, 61, 62, 63, 64, 65, 66, 67, 68, 69, 70] (by decide +kernel) (by decide +kernel)
set_option maxRecDepth 20000 in
theorem gX5_piece_X5_cut : GoodIn wsX5_piece (wsV RX5 138 RX5 yX5_cut wsX5_cut) := goodIn_app (goodIn_of _ (by decide +kernel)) ggX5_piece_X5_cut
set_option maxRecDepth 20000 in
theorem ggX5_piece_X5_box : GoodIn wsX5_piece wsX5_box := goodIn_r _ [41, 25, 47, 48, 49, 50, 51, 52, 53, 54, 55, 56, 57, 58, 59, 60, 61, 62, 63, 64, 65, 66, 67, 68, 69, 70] (by decide +kernel) (by decide +kernel)
set_option maxRecDepth 20000 in
theorem gX5_piece_X5_box : GoodIn wsX5_piece (wsV RX5 141 RX5 yX5_box wsX5_box) := goodIn_app (goodIn_of _ (by decide +kernel)) ggX5_piece_X5_box
set_option maxRecDepth 20000 in
theorem ggX5_piece_X5_layersOf : GoodIn wsX5_piece wsX5_layersOf := goodIn_r _ [45, 4, 46, 47, 48, 49, 50, 51, 52, 53, 54, 55, 56, 57, 58, 59, 60, 61, 62, 63, 64, 65, 66, 67, 68, 69, 70] (by decide +kernel) (by decide +kernel)
set_option maxRecDepth 20000 in
theorem gX5_piece_X5_layersOf : GoodIn wsX5_piece (wsV RX5 145 RX5 yX5_layersOf wsX5_layersOf) := goodIn_app (goodIn_of _ (by decide +kernel)) ggX5_piece_X5_layersOf
theorem dX5_piece_0 : decode cX5_piece 0 = .ok (.aload_n 0, 1) := by decide +kernel
theorem dX5_piece_1 : decode cX5_piece 1 = .ok (.iload_n 1, 1) := by decide +kernel
theorem dX5_piece_2 : decode cX5_piece 2 = .ok (.invokevirtual 109, 3) := by decide +kernel
theorem dX5_piece_5 : decode cX5_piece 5 = .ok (.istore_n 3, 1) := by decide +kernel
theorem dX5_piece_6 : decode cX5_piece 6 = .ok (.aload_n 0, 1) := by decide +kernel
theorem dX5_piece_7 : decode cX5_piece 7 = .ok (.iload_n 3, 1) := by decide +kernel
theorem dX5_piece_8 : decode cX5_piece 8 = .ok (.ifCond .ne 7, 3) := by decide +kernel
theorem dX5_piece_11 : decode cX5_piece 11 = .ok (.iconst 1, 1) := by decide +kernel
theorem dX5_piece_12 : decode cX5_piece 12 = .ok (.goto 18, 3) := by decide +kernel
theorem dX5_piece_15 : decode cX5_piece 15 = .ok (.iload_n 2, 1) := by decide +kernel
theorem dX5_piece_16 : decode cX5_piece 16 = .ok (.iconst 0, 1) := by decide +kernel
theorem dX5_piece_17 : decode cX5_piece 17 = .ok (.bipush 9, 2) := by decide +kernel
theorem dX5_piece_19 : decode cX5_piece 19 = .ok (.invokestatic 82, 3) := by decide +kernel
theorem dX5_piece_22 : decode cX5_piece 22 = .ok (.ifCond .eq 7, 3) := by decide +kernel
theorem dX5_piece_25 : decode cX5_piece 25 = .ok (.iconst 0, 1) := by decide +kernel
theorem dX5_piece_26 : decode cX5_piece 26 = .ok (.goto 4, 3) := by decide +kernel
theorem dX5_piece_29 : decode cX5_piece 29 = .ok (.iconst 2, 1) := by decide +kernel
theorem dX5_piece_30 : decode cX5_piece 30 = .ok (.invokevirtual 119, 3) := by decide +kernel
theorem dX5_piece_33 : decode cX5_piece 33 = .ok (.ifCond .ne 5, 3) := by decide +kernel
theorem dX5_piece_36 : decode cX5_piece 36 = .ok (.iconst 0, 1) := by decide +kernel
theorem dX5_piece_37 : decode cX5_piece 37 = .ok (.ireturn, 1) := by decide +kernel
theorem dX5_piece_38 : decode cX5_piece 38 = .ok (.aload_n 0, 1) := by decide +kernel
theorem dX5_piece_39 : decode cX5_piece 39 = .ok (.iload_n 1, 1) := by decide +kernel
theorem dX5_piece_40 : decode cX5_piece 40 = .ok (.iconst (-1), 1) := by decide +kernel
theorem dX5_piece_41 : decode cX5_piece 41 = .ok (.invokevirtual 128, 3) := by decide +kernel
theorem dX5_piece_44 : decode cX5_piece 44 = .ok (.istore 4, 2) := by decide +kernel
theorem dX5_piece_46 : decode cX5_piece 46 = .ok (.iload_n 2, 1) := by decide +kernel
theorem dX5_piece_47 : decode cX5_piece 47 = .ok (.tableswitch 103 0 7 #[45, 48, 55, 70, 77, 82, 89, 96], 45) := by decide +kernel
theorem dX5_piece_92 : decode cX5_piece 92 = .ok (.iload 4, 2) := by decide +kernel
theorem dX5_piece_94 : decode cX5_piece 94 = .ok (.ireturn, 1) := by decide +kernel
theorem dX5_piece_95 : decode cX5_piece 95 = .ok (.aload_n 0, 1) := by decide +kernel
theorem dX5_piece_96 : decode cX5_piece 96 = .ok (.getfield 20, 3) := by decide +kernel
theorem dX5_piece_99 : decode cX5_piece 99 = .ok (.iload_n 1, 1) := by decide +kernel
theorem dX5_piece_100 : decode cX5_piece 100 = .ok (.iaload, 1) := by decide +kernel
theorem dX5_piece_101 : decode cX5_piece 101 = .ok (.ireturn, 1) := by decide +kernel
theorem dX5_piece_102 : decode cX5_piece 102 = .ok (.aload_n 0, 1) := by decide +kernel
theorem dX5_piece_103 : decode cX5_piece 103 = .ok (.getfield 23, 3) := by decide +kernel
theorem dX5_piece_106 : decode cX5_piece 106 = .ok (.iload_n 1, 1) := by decide +kernel
theorem dX5_piece_107 : decode cX5_piece 107 = .ok (.baload, 1) := by decide +kernel
theorem dX5_piece_108 : decode cX5_piece 108 = .ok (.ifCond .eq 7, 3) := by decide +kernel
theorem dX5_piece_111 : decode cX5_piece 111 = .ok (.iconst 1, 1) := by decide +kernel
theorem dX5_piece_112 : decode cX5_piece 112 = .ok (.goto 4, 3) := by decide +kernel
theorem dX5_piece_115 : decode cX5_piece 115 = .ok (.iconst 0, 1) := by decide +kernel
theorem dX5_piece_116 : decode cX5_piece 116 = .ok (.ireturn, 1) := by decide +kernel
theorem dX5_piece_117 : decode cX5_piece 117 = .ok (.aload_n 0, 1) := by decide +kernel
theorem dX5_piece_118 : decode cX5_piece 118 = .ok (.getfield 27, 3) := by decide +kernel
theorem dX5_piece_121 : decode cX5_piece 121 = .ok (.iload_n 1, 1) := by decide +kernel
theorem dX5_piece_122 : decode cX5_piece 122 = .ok (.iaload, 1) := by decide +kernel
theorem dX5_piece_123 : decode cX5_piece 123 = .ok (.ireturn, 1) := by decide +kernel
theorem dX5_piece_124 : decode cX5_piece 124 = .ok (.aload_n 0, 1) := by decide +kernel
theorem dX5_piece_125 : decode cX5_piece 125 = .ok (.invokevirtual 138, 3) := by decide +kernel
theorem dX5_piece_128 : decode cX5_piece 128 = .ok (.ireturn, 1) := by decide +kernel
theorem dX5_piece_129 : decode cX5_piece 129 = .ok (.aload_n 0, 1) := by decide +kernel
theorem dX5_piece_130 : decode cX5_piece 130 = .ok (.iload_n 1, 1) := by decide +kernel
theorem dX5_piece_131 : decode cX5_piece 131 = .ok (.iconst 1, 1) := by decide +kernel
theorem dX5_piece_132 : decode cX5_piece 132 = .ok (.invokevirtual 141, 3) := by decide +kernel
theorem dX5_piece_135 : decode cX5_piece 135 = .ok (.ireturn, 1) := by decide +kernel
theorem dX5_piece_136 : decode cX5_piece 136 = .ok (.aload_n 0, 1) := by decide +kernel
theorem dX5_piece_137 : decode cX5_piece 137 = .ok (.iload_n 1, 1) := by decide +kernel
theorem dX5_piece_138 : decode cX5_piece 138 = .ok (.iconst 0, 1) := by decide +kernel
theorem dX5_piece_139 : decode cX5_piece 139 = .ok (.invokevirtual 141, 3) := by decide +kernel
theorem dX5_piece_142 : decode cX5_piece 142 = .ok (.ireturn, 1) := by decide +kernel
theorem dX5_piece_143 : decode cX5_piece 143 = .ok (.aload_n 0, 1) := by decide +kernel
theorem dX5_piece_144 : decode cX5_piece 144 = .ok (.getfield 30, 3) := by decide +kernel
theorem dX5_piece_147 : decode cX5_piece 147 = .ok (.iload_n 1, 1) := by decide +kernel
theorem dX5_piece_148 : decode cX5_piece 148 = .ok (.iaload, 1) := by decide +kernel
theorem dX5_piece_149 : decode cX5_piece 149 = .ok (.ireturn, 1) := by decide +kernel
theorem dX5_piece_150 : decode cX5_piece 150 = .ok (.aload_n 0, 1) := by decide +kernel
theorem dX5_piece_151 : decode cX5_piece 151 = .ok (.iload_n 1, 1) := by decide +kernel
theorem dX5_piece_152 : decode cX5_piece 152 = .ok (.iload_n 2, 1) := by decide +kernel
theorem dX5_piece_153 : decode cX5_piece 153 = .ok (.bipush 7, 2) := by decide +kernel
theorem dX5_piece_155 : decode cX5_piece 155 = .ok (.isub, 1) := by decide +kernel
theorem dX5_piece_156 : decode cX5_piece 156 = .ok (.invokevirtual 145, 3) := by decide +kernel
theorem dX5_piece_159 : decode cX5_piece 159 = .ok (.ireturn, 1) := by decide +kernel
set_option maxRecDepth 20000 in
theorem ggX5_along_X5_beside : GoodIn wsX5_along wsX5_beside := goodIn_r _ [5, 6, 7, 4, 8] (by decide +kernel) (by decide +kernel)
set_option maxRecDepth 20000 in
theorem gX5_along_X5_beside : GoodIn wsX5_along (va_wsS RX5 90 yX5_beside wsX5_beside) := goodIn_app (goodIn_of _ (by decide +kernel)) ggX5_along_X5_beside
set_option maxRecDepth 20000 in
theorem ggX5_along_X5_isBeyond : GoodIn wsX5_along wsX5_isBeyond := goodIn_r _ [11] (by decide +kernel) (by decide +kernel)
set_option maxRecDepth 20000 in
theorem gX5_along_X5_isBeyond : GoodIn wsX5_along (va_wsS RX5 86 yX5_isBeyond wsX5_isBeyond) := goodIn_app (goodIn_of _ (by decide +kernel)) ggX5_along_X5_isBeyond
theorem dX5_along_0 : decode cX5_along 0 = .ok (.iconst 0, 1) := by decide +kernel
theorem dX5_along_1 : decode cX5_along 1 = .ok (.istore_n 3, 1) := by decide +kernel
theorem dX5_along_2 : decode cX5_along 2 = .ok (.iconst 0, 1) := by decide +kernel
theorem dX5_along_3 : decode cX5_along 3 = .ok (.istore 4, 2) := by decide +kernel
theorem dX5_along_5 : decode cX5_along 5 = .ok (.iload 4, 2) := by decide +kernel
theorem dX5_along_7 : decode cX5_along 7 = .ok (.sipush 256, 3) := by decide +kernel
theorem dX5_along_10 : decode cX5_along 10 = .ok (.if_icmp .ge 81, 3) := by decide +kernel
theorem dX5_along_13 : decode cX5_along 13 = .ok (.iload 4, 2) := by decide +kernel
theorem dX5_along_15 : decode cX5_along 15 = .ok (.iload_n 2, 1) := by decide +kernel
theorem dX5_along_16 : decode cX5_along 16 = .ok (.bipush 16, 2) := by decide +kernel
theorem dX5_along_18 : decode cX5_along 18 = .ok (.if_icmp .ge 7, 3) := by decide +kernel
theorem dX5_along_21 : decode cX5_along 21 = .ok (.iconst 1, 1) := by decide +kernel
theorem dX5_along_22 : decode cX5_along 22 = .ok (.goto 4, 3) := by decide +kernel
theorem dX5_along_25 : decode cX5_along 25 = .ok (.iconst 3, 1) := by decide +kernel
theorem dX5_along_26 : decode cX5_along 26 = .ok (.invokestatic 90, 3) := by decide +kernel
theorem dX5_along_29 : decode cX5_along 29 = .ok (.istore 5, 2) := by decide +kernel
theorem dX5_along_31 : decode cX5_along 31 = .ok (.iload_n 3, 1) := by decide +kernel
theorem dX5_along_32 : decode cX5_along 32 = .ok (.iload 5, 2) := by decide +kernel
theorem dX5_along_34 : decode cX5_along 34 = .ok (.iconst (-1), 1) := by decide +kernel
theorem dX5_along_35 : decode cX5_along 35 = .ok (.if_icmp .eq 47, 3) := by decide +kernel
theorem dX5_along_38 : decode cX5_along 38 = .ok (.aload_n 0, 1) := by decide +kernel
theorem dX5_along_39 : decode cX5_along 39 = .ok (.getfield 13, 3) := by decide +kernel
theorem dX5_along_42 : decode cX5_along 42 = .ok (.iload 4, 2) := by decide +kernel
theorem dX5_along_44 : decode cX5_along 44 = .ok (.iaload, 1) := by decide +kernel
theorem dX5_along_45 : decode cX5_along 45 = .ok (.iload_n 1, 1) := by decide +kernel
theorem dX5_along_46 : decode cX5_along 46 = .ok (.if_icmp .ne 36, 3) := by decide +kernel
theorem dX5_along_49 : decode cX5_along 49 = .ok (.aload_n 0, 1) := by decide +kernel
theorem dX5_along_50 : decode cX5_along 50 = .ok (.getfield 13, 3) := by decide +kernel
theorem dX5_along_53 : decode cX5_along 53 = .ok (.iload 5, 2) := by decide +kernel
theorem dX5_along_55 : decode cX5_along 55 = .ok (.iaload, 1) := by decide +kernel
theorem dX5_along_56 : decode cX5_along 56 = .ok (.iload_n 1, 1) := by decide +kernel
theorem dX5_along_57 : decode cX5_along 57 = .ok (.if_icmp .ne 25, 3) := by decide +kernel
theorem dX5_along_60 : decode cX5_along 60 = .ok (.iload 4, 2) := by decide +kernel
theorem dX5_along_62 : decode cX5_along 62 = .ok (.iload_n 2, 1) := by decide +kernel
theorem dX5_along_63 : decode cX5_along 63 = .ok (.invokestatic 86, 3) := by decide +kernel
theorem dX5_along_66 : decode cX5_along 66 = .ok (.ifCond .ne 16, 3) := by decide +kernel
theorem dX5_along_69 : decode cX5_along 69 = .ok (.iload 5, 2) := by decide +kernel
theorem dX5_along_71 : decode cX5_along 71 = .ok (.iload_n 2, 1) := by decide +kernel
theorem dX5_along_72 : decode cX5_along 72 = .ok (.invokestatic 86, 3) := by decide +kernel
theorem dX5_along_75 : decode cX5_along 75 = .ok (.ifCond .eq 7, 3) := by decide +kernel
theorem dX5_along_78 : decode cX5_along 78 = .ok (.iconst 1, 1) := by decide +kernel
theorem dX5_along_79 : decode cX5_along 79 = .ok (.goto 4, 3) := by decide +kernel
theorem dX5_along_82 : decode cX5_along 82 = .ok (.iconst 0, 1) := by decide +kernel
theorem dX5_along_83 : decode cX5_along 83 = .ok (.iadd, 1) := by decide +kernel
theorem dX5_along_84 : decode cX5_along 84 = .ok (.istore_n 3, 1) := by decide +kernel
theorem dX5_along_85 : decode cX5_along 85 = .ok (.iinc 4 1, 3) := by decide +kernel
theorem dX5_along_88 : decode cX5_along 88 = .ok (.goto (-83), 3) := by decide +kernel
theorem dX5_along_91 : decode cX5_along 91 = .ok (.iload_n 3, 1) := by decide +kernel
theorem dX5_along_92 : decode cX5_along 92 = .ok (.ireturn, 1) := by decide +kernel
set_option maxRecDepth 20000 in
theorem ggX5_bestLine_X5_isPiece : GoodIn wsX5_bestLine wsX5_isPiece := goodIn_r _ [5, 6, 7, 8, 9, 4, 10, 50, 51, 52, 53, 54, 55, 56, 57, 58, 59, 60, 61, 62, 63, 64, 65, 66, 67, 68, 69, 70, 71, 72, 73] (by decide +kernel) (by decide +kernel)
set_option maxRecDepth 20000 in
theorem gX5_bestLine_X5_isPiece : GoodIn wsX5_bestLine (wsV RX5 109 RX5 yX5_isPiece wsX5_isPiece) := goodIn_app (goodIn_of _ (by decide +kernel)) ggX5_bestLine_X5_isPiece
set_option maxRecDepth 20000 in
theorem ggX5_bestLine_X5_goesWell : GoodIn wsX5_bestLine wsX5_goesWell := goodIn_r _ [14, 15, 50, 51, 52, 53, 54, 55, 56, 57, 58, 59, 60, 61, 62, 63, 64, 65, 66, 67, 68, 69, 70, 71, 72, 73] (by decide +kernel) (by decide +kernel)
set_option maxRecDepth 20000 in
theorem gX5_bestLine_X5_goesWell : GoodIn wsX5_bestLine (wsV RX5 119 RX5 yX5_goesWell wsX5_goesWell) := goodIn_app (goodIn_of _ (by decide +kernel)) ggX5_bestLine_X5_goesWell
set_option maxRecDepth 20000 in
theorem ggX5_bestLine_X5_setSide : GoodIn wsX5_bestLine wsX5_setSide := goodIn_r _ [19, 20, 21, 22, 23, 4, 24, 50, 51, 52, 53, 54, 55, 56, 57, 58, 59, 60, 61, 62, 63, 64, 65, 66, 67, 68, 69, 70, 71, 72, 73] (by decide +kernel) (by decide +kernel)
set_option maxRecDepth 20000 in
theorem gX5_bestLine_X5_setSide : GoodIn wsX5_bestLine (wsV RX5 101 RX5 yX5_setSide wsX5_setSide) := goodIn_app (goodIn_of _ (by decide +kernel)) ggX5_bestLine_X5_setSide
set_option maxRecDepth 20000 in
theorem ggX5_bestLine_X5_isOne : GoodIn wsX5_bestLine wsX5_isOne := goodIn_r _ [28, 29, 20, 30, 31, 32, 4, 33, 8, 9, 10, 50, 51, 52, 53, 54, 55, 56, 57, 58, 59, 60, 61, 62, 63, 64, 65, 66, 67, 68, 69, 70, 71, 72, 73] (by decide +kernel) (by decide +kernel)
set_option maxRecDepth 20000 in
theorem gX5_bestLine_X5_isOne : GoodIn wsX5_bestLine (wsV RX5 105 RX5 yX5_isOne wsX5_isOne) := goodIn_app (goodIn_of _ (by decide +kernel)) ggX5_bestLine_X5_isOne
set_option maxRecDepth 20000 in
theorem ggX5_bestLine_X5_cut : GoodIn wsX5_bestLine wsX5_cut := goodIn_r _ [37, 20, 38, 39, 40, 4, 41, 42, 43, 44, 45, 8, 9, 10, 50, 51, 52, 53, 54, 55, 56, 57, 58, 59, 60, 61, 62, 63, 64, 65, 66, 67, 68, 69, 70, 71, 72, 73] (by decide +kernel) (by decide +kernel)
set_option maxRecDepth 20000 in
theorem gX5_bestLine_X5_cut : GoodIn wsX5_bestLine (wsV RX5 138 RX5 yX5_cut wsX5_cut) := goodIn_app (goodIn_of _ (by decide +kernel)) ggX5_bestLine_X5_cut
set_option maxRecDepth 20000 in
theorem ggX5_bestLine_X5_along : GoodIn wsX5_bestLine wsX5_along := goodIn_r _ [49, 21, 31, 32, 4, 33, 8, 9, 10, 22, 23, 24, 50, 51, 52, 53, 54, 55, 56, 57, 58, 59, 60, 61, 62, 63, 64, 65, 66, 67, 68, 69, 70, 71, 72, 73] (by decide +kernel) (by decide +kernel)
set_option maxRecDepth 20000 in
theorem gX5_bestLine_X5_along : GoodIn wsX5_bestLine (wsV RX5 148 RX5 yX5_along wsX5_along) := goodIn_app (goodIn_of _ (by decide +kernel)) ggX5_bestLine_X5_along
theorem dX5_bestLine_0 : decode cX5_bestLine 0 = .ok (.aload_n 0, 1) := by decide +kernel
theorem dX5_bestLine_1 : decode cX5_bestLine 1 = .ok (.aload_n 0, 1) := by decide +kernel
theorem dX5_bestLine_2 : decode cX5_bestLine 2 = .ok (.iload_n 1, 1) := by decide +kernel
theorem dX5_bestLine_3 : decode cX5_bestLine 3 = .ok (.invokevirtual 109, 3) := by decide +kernel
theorem dX5_bestLine_6 : decode cX5_bestLine 6 = .ok (.ifCond .eq 7, 3) := by decide +kernel
theorem dX5_bestLine_9 : decode cX5_bestLine 9 = .ok (.iconst 0, 1) := by decide +kernel
theorem dX5_bestLine_10 : decode cX5_bestLine 10 = .ok (.goto 4, 3) := by decide +kernel
theorem dX5_bestLine_13 : decode cX5_bestLine 13 = .ok (.iconst 1, 1) := by decide +kernel
theorem dX5_bestLine_14 : decode cX5_bestLine 14 = .ok (.invokevirtual 119, 3) := by decide +kernel
theorem dX5_bestLine_17 : decode cX5_bestLine 17 = .ok (.ifCond .ne 5, 3) := by decide +kernel
theorem dX5_bestLine_20 : decode cX5_bestLine 20 = .ok (.iconst 0, 1) := by decide +kernel
theorem dX5_bestLine_21 : decode cX5_bestLine 21 = .ok (.ireturn, 1) := by decide +kernel
theorem dX5_bestLine_22 : decode cX5_bestLine 22 = .ok (.iconst (-1), 1) := by decide +kernel
theorem dX5_bestLine_23 : decode cX5_bestLine 23 = .ok (.istore_n 2, 1) := by decide +kernel
theorem dX5_bestLine_24 : decode cX5_bestLine 24 = .ok (.iconst 0, 1) := by decide +kernel
theorem dX5_bestLine_25 : decode cX5_bestLine 25 = .ok (.istore_n 3, 1) := by decide +kernel
theorem dX5_bestLine_26 : decode cX5_bestLine 26 = .ok (.iload_n 3, 1) := by decide +kernel
theorem dX5_bestLine_27 : decode cX5_bestLine 27 = .ok (.bipush 31, 2) := by decide +kernel
theorem dX5_bestLine_29 : decode cX5_bestLine 29 = .ok (.if_icmp .ge 101, 3) := by decide +kernel
theorem dX5_bestLine_32 : decode cX5_bestLine 32 = .ok (.iload_n 3, 1) := by decide +kernel
theorem dX5_bestLine_33 : decode cX5_bestLine 33 = .ok (.bipush 15, 2) := by decide +kernel
theorem dX5_bestLine_35 : decode cX5_bestLine 35 = .ok (.if_icmp .eq 55, 3) := by decide +kernel
theorem dX5_bestLine_38 : decode cX5_bestLine 38 = .ok (.aload_n 0, 1) := by decide +kernel
theorem dX5_bestLine_39 : decode cX5_bestLine 39 = .ok (.iload_n 1, 1) := by decide +kernel
theorem dX5_bestLine_40 : decode cX5_bestLine 40 = .ok (.iload_n 3, 1) := by decide +kernel
theorem dX5_bestLine_41 : decode cX5_bestLine 41 = .ok (.iconst 1, 1) := by decide +kernel
theorem dX5_bestLine_42 : decode cX5_bestLine 42 = .ok (.invokevirtual 101, 3) := by decide +kernel
theorem dX5_bestLine_45 : decode cX5_bestLine 45 = .ok (.ifCond .le 45, 3) := by decide +kernel
theorem dX5_bestLine_48 : decode cX5_bestLine 48 = .ok (.aload_n 0, 1) := by decide +kernel
theorem dX5_bestLine_49 : decode cX5_bestLine 49 = .ok (.invokevirtual 105, 3) := by decide +kernel
theorem dX5_bestLine_52 : decode cX5_bestLine 52 = .ok (.ifCond .eq 38, 3) := by decide +kernel
theorem dX5_bestLine_55 : decode cX5_bestLine 55 = .ok (.aload_n 0, 1) := by decide +kernel
theorem dX5_bestLine_56 : decode cX5_bestLine 56 = .ok (.invokevirtual 138, 3) := by decide +kernel
theorem dX5_bestLine_59 : decode cX5_bestLine 59 = .ok (.ifCond .ne 31, 3) := by decide +kernel
theorem dX5_bestLine_62 : decode cX5_bestLine 62 = .ok (.aload_n 0, 1) := by decide +kernel
theorem dX5_bestLine_63 : decode cX5_bestLine 63 = .ok (.iload_n 1, 1) := by decide +kernel
theorem dX5_bestLine_64 : decode cX5_bestLine 64 = .ok (.iload_n 3, 1) := by decide +kernel
theorem dX5_bestLine_65 : decode cX5_bestLine 65 = .ok (.iconst 0, 1) := by decide +kernel
theorem dX5_bestLine_66 : decode cX5_bestLine 66 = .ok (.invokevirtual 101, 3) := by decide +kernel
theorem dX5_bestLine_69 : decode cX5_bestLine 69 = .ok (.ifCond .le 21, 3) := by decide +kernel
theorem dX5_bestLine_72 : decode cX5_bestLine 72 = .ok (.aload_n 0, 1) := by decide +kernel
theorem dX5_bestLine_73 : decode cX5_bestLine 73 = .ok (.invokevirtual 105, 3) := by decide +kernel
theorem dX5_bestLine_76 : decode cX5_bestLine 76 = .ok (.ifCond .eq 14, 3) := by decide +kernel
theorem dX5_bestLine_79 : decode cX5_bestLine 79 = .ok (.aload_n 0, 1) := by decide +kernel
theorem dX5_bestLine_80 : decode cX5_bestLine 80 = .ok (.invokevirtual 138, 3) := by decide +kernel
theorem dX5_bestLine_83 : decode cX5_bestLine 83 = .ok (.ifCond .ne 7, 3) := by decide +kernel
theorem dX5_bestLine_86 : decode cX5_bestLine 86 = .ok (.iconst 1, 1) := by decide +kernel
theorem dX5_bestLine_87 : decode cX5_bestLine 87 = .ok (.goto 4, 3) := by decide +kernel
theorem dX5_bestLine_90 : decode cX5_bestLine 90 = .ok (.iconst 0, 1) := by decide +kernel
theorem dX5_bestLine_91 : decode cX5_bestLine 91 = .ok (.istore 4, 2) := by decide +kernel
theorem dX5_bestLine_93 : decode cX5_bestLine 93 = .ok (.iload 4, 2) := by decide +kernel
theorem dX5_bestLine_95 : decode cX5_bestLine 95 = .ok (.ifCond .eq 27, 3) := by decide +kernel
theorem dX5_bestLine_98 : decode cX5_bestLine 98 = .ok (.iload_n 2, 1) := by decide +kernel
theorem dX5_bestLine_99 : decode cX5_bestLine 99 = .ok (.iconst (-1), 1) := by decide +kernel
theorem dX5_bestLine_100 : decode cX5_bestLine 100 = .ok (.if_icmp .eq 18, 3) := by decide +kernel
theorem dX5_bestLine_103 : decode cX5_bestLine 103 = .ok (.aload_n 0, 1) := by decide +kernel
theorem dX5_bestLine_104 : decode cX5_bestLine 104 = .ok (.iload_n 1, 1) := by decide +kernel
theorem dX5_bestLine_105 : decode cX5_bestLine 105 = .ok (.iload_n 3, 1) := by decide +kernel
theorem dX5_bestLine_106 : decode cX5_bestLine 106 = .ok (.invokevirtual 148, 3) := by decide +kernel
theorem dX5_bestLine_109 : decode cX5_bestLine 109 = .ok (.aload_n 0, 1) := by decide +kernel
theorem dX5_bestLine_110 : decode cX5_bestLine 110 = .ok (.iload_n 1, 1) := by decide +kernel
theorem dX5_bestLine_111 : decode cX5_bestLine 111 = .ok (.iload_n 2, 1) := by decide +kernel
theorem dX5_bestLine_112 : decode cX5_bestLine 112 = .ok (.invokevirtual 148, 3) := by decide +kernel
theorem dX5_bestLine_115 : decode cX5_bestLine 115 = .ok (.if_icmp .ge 7, 3) := by decide +kernel
theorem dX5_bestLine_118 : decode cX5_bestLine 118 = .ok (.iload_n 3, 1) := by decide +kernel
theorem dX5_bestLine_119 : decode cX5_bestLine 119 = .ok (.goto 4, 3) := by decide +kernel
theorem dX5_bestLine_122 : decode cX5_bestLine 122 = .ok (.iload_n 2, 1) := by decide +kernel
theorem dX5_bestLine_123 : decode cX5_bestLine 123 = .ok (.istore_n 2, 1) := by decide +kernel
theorem dX5_bestLine_124 : decode cX5_bestLine 124 = .ok (.iinc 3 1, 3) := by decide +kernel
theorem dX5_bestLine_127 : decode cX5_bestLine 127 = .ok (.goto (-101), 3) := by decide +kernel
theorem dX5_bestLine_130 : decode cX5_bestLine 130 = .ok (.iload_n 2, 1) := by decide +kernel
theorem dX5_bestLine_131 : decode cX5_bestLine 131 = .ok (.ireturn, 1) := by decide +kernel
set_option maxRecDepth 20000 in
theorem ggX5_at_X5_in : GoodIn wsX5_at wsX5_in := goodIn_r _ [5] (by decide +kernel) (by decide +kernel)
set_option maxRecDepth 20000 in
theorem gX5_at_X5_in : GoodIn wsX5_at (va_wsS RX5 82 yX5_in wsX5_in) := goodIn_app (goodIn_of _ (by decide +kernel)) ggX5_at_X5_in
theorem dX5_at_0 : decode cX5_at 0 = .ok (.iload_n 1, 1) := by decide +kernel
theorem dX5_at_1 : decode cX5_at 1 = .ok (.iconst 0, 1) := by decide +kernel
theorem dX5_at_2 : decode cX5_at 2 = .ok (.bipush 15, 2) := by decide +kernel
theorem dX5_at_4 : decode cX5_at 4 = .ok (.invokestatic 82, 3) := by decide +kernel
theorem dX5_at_7 : decode cX5_at 7 = .ok (.ifCond .eq 27, 3) := by decide +kernel
theorem dX5_at_10 : decode cX5_at 10 = .ok (.iload_n 2, 1) := by decide +kernel
theorem dX5_at_11 : decode cX5_at 11 = .ok (.iconst 0, 1) := by decide +kernel
theorem dX5_at_12 : decode cX5_at 12 = .ok (.bipush 15, 2) := by decide +kernel
theorem dX5_at_14 : decode cX5_at 14 = .ok (.invokestatic 82, 3) := by decide +kernel
theorem dX5_at_17 : decode cX5_at 17 = .ok (.ifCond .eq 17, 3) := by decide +kernel
theorem dX5_at_20 : decode cX5_at 20 = .ok (.aload_n 0, 1) := by decide +kernel
theorem dX5_at_21 : decode cX5_at 21 = .ok (.getfield 13, 3) := by decide +kernel
theorem dX5_at_24 : decode cX5_at 24 = .ok (.bipush 16, 2) := by decide +kernel
theorem dX5_at_26 : decode cX5_at 26 = .ok (.iload_n 1, 1) := by decide +kernel
theorem dX5_at_27 : decode cX5_at 27 = .ok (.imul, 1) := by decide +kernel
theorem dX5_at_28 : decode cX5_at 28 = .ok (.iload_n 2, 1) := by decide +kernel
theorem dX5_at_29 : decode cX5_at 29 = .ok (.iadd, 1) := by decide +kernel
theorem dX5_at_30 : decode cX5_at 30 = .ok (.iaload, 1) := by decide +kernel
theorem dX5_at_31 : decode cX5_at 31 = .ok (.goto 4, 3) := by decide +kernel
theorem dX5_at_34 : decode cX5_at 34 = .ok (.iconst (-1), 1) := by decide +kernel
theorem dX5_at_35 : decode cX5_at 35 = .ok (.ireturn, 1) := by decide +kernel
set_option maxRecDepth 20000 in
theorem ggX5_length_X5_at : GoodIn wsX5_length wsX5_at := goodIn_r _ [5, 6, 7, 8, 4, 9, 10, 11, 12, 13, 14, 15, 16, 17, 18, 19, 20, 21, 22, 23, 24, 25, 26, 27, 28, 29, 30, 31, 32, 33] (by decide +kernel) (by decide +kernel)
set_option maxRecDepth 20000 in
theorem gX5_length_X5_at : GoodIn wsX5_length (wsV RX5 151 RX5 yX5_at wsX5_at) := goodIn_app (goodIn_of _ (by decide +kernel)) ggX5_length_X5_at
theorem dX5_length_0 : decode cX5_length 0 = .ok (.iconst 0, 1) := by decide +kernel
theorem dX5_length_1 : decode cX5_length 1 = .ok (.istore_n 1, 1) := by decide +kernel
theorem dX5_length_2 : decode cX5_length 2 = .ok (.iconst 0, 1) := by decide +kernel
theorem dX5_length_3 : decode cX5_length 3 = .ok (.istore_n 2, 1) := by decide +kernel
theorem dX5_length_4 : decode cX5_length 4 = .ok (.iload_n 2, 1) := by decide +kernel
theorem dX5_length_5 : decode cX5_length 5 = .ok (.bipush 16, 2) := by decide +kernel
theorem dX5_length_7 : decode cX5_length 7 = .ok (.if_icmp .gt 71, 3) := by decide +kernel
theorem dX5_length_10 : decode cX5_length 10 = .ok (.iconst 0, 1) := by decide +kernel
theorem dX5_length_11 : decode cX5_length 11 = .ok (.istore_n 3, 1) := by decide +kernel
theorem dX5_length_12 : decode cX5_length 12 = .ok (.iload_n 3, 1) := by decide +kernel
theorem dX5_length_13 : decode cX5_length 13 = .ok (.bipush 16, 2) := by decide +kernel
theorem dX5_length_15 : decode cX5_length 15 = .ok (.if_icmp .ge 57, 3) := by decide +kernel
theorem dX5_length_18 : decode cX5_length 18 = .ok (.iload_n 1, 1) := by decide +kernel
theorem dX5_length_19 : decode cX5_length 19 = .ok (.aload_n 0, 1) := by decide +kernel
theorem dX5_length_20 : decode cX5_length 20 = .ok (.iload_n 2, 1) := by decide +kernel
theorem dX5_length_21 : decode cX5_length 21 = .ok (.iconst 1, 1) := by decide +kernel
theorem dX5_length_22 : decode cX5_length 22 = .ok (.isub, 1) := by decide +kernel
theorem dX5_length_23 : decode cX5_length 23 = .ok (.iload_n 3, 1) := by decide +kernel
theorem dX5_length_24 : decode cX5_length 24 = .ok (.invokevirtual 151, 3) := by decide +kernel
theorem dX5_length_27 : decode cX5_length 27 = .ok (.aload_n 0, 1) := by decide +kernel
theorem dX5_length_28 : decode cX5_length 28 = .ok (.iload_n 2, 1) := by decide +kernel
theorem dX5_length_29 : decode cX5_length 29 = .ok (.iload_n 3, 1) := by decide +kernel
theorem dX5_length_30 : decode cX5_length 30 = .ok (.invokevirtual 151, 3) := by decide +kernel
theorem dX5_length_33 : decode cX5_length 33 = .ok (.if_icmp .eq 7, 3) := by decide +kernel
theorem dX5_length_36 : decode cX5_length 36 = .ok (.iconst 1, 1) := by decide +kernel
theorem dX5_length_37 : decode cX5_length 37 = .ok (.goto 4, 3) := by decide +kernel
theorem dX5_length_40 : decode cX5_length 40 = .ok (.iconst 0, 1) := by decide +kernel
theorem dX5_length_41 : decode cX5_length 41 = .ok (.aload_n 0, 1) := by decide +kernel
theorem dX5_length_42 : decode cX5_length 42 = .ok (.iload_n 3, 1) := by decide +kernel
theorem dX5_length_43 : decode cX5_length 43 = .ok (.iload_n 2, 1) := by decide +kernel
theorem dX5_length_44 : decode cX5_length 44 = .ok (.iconst 1, 1) := by decide +kernel
theorem dX5_length_45 : decode cX5_length 45 = .ok (.isub, 1) := by decide +kernel
theorem dX5_length_46 : decode cX5_length 46 = .ok (.invokevirtual 151, 3) := by decide +kernel
theorem dX5_length_49 : decode cX5_length 49 = .ok (.aload_n 0, 1) := by decide +kernel
theorem dX5_length_50 : decode cX5_length 50 = .ok (.iload_n 3, 1) := by decide +kernel
theorem dX5_length_51 : decode cX5_length 51 = .ok (.iload_n 2, 1) := by decide +kernel
theorem dX5_length_52 : decode cX5_length 52 = .ok (.invokevirtual 151, 3) := by decide +kernel
theorem dX5_length_55 : decode cX5_length 55 = .ok (.if_icmp .eq 7, 3) := by decide +kernel
theorem dX5_length_58 : decode cX5_length 58 = .ok (.iconst 1, 1) := by decide +kernel
theorem dX5_length_59 : decode cX5_length 59 = .ok (.goto 4, 3) := by decide +kernel
theorem dX5_length_62 : decode cX5_length 62 = .ok (.iconst 0, 1) := by decide +kernel
theorem dX5_length_63 : decode cX5_length 63 = .ok (.iadd, 1) := by decide +kernel
theorem dX5_length_64 : decode cX5_length 64 = .ok (.iadd, 1) := by decide +kernel
theorem dX5_length_65 : decode cX5_length 65 = .ok (.istore_n 1, 1) := by decide +kernel
theorem dX5_length_66 : decode cX5_length 66 = .ok (.iinc 3 1, 3) := by decide +kernel
theorem dX5_length_69 : decode cX5_length 69 = .ok (.goto (-57), 3) := by decide +kernel
theorem dX5_length_72 : decode cX5_length 72 = .ok (.iinc 2 1, 3) := by decide +kernel
theorem dX5_length_75 : decode cX5_length 75 = .ok (.goto (-71), 3) := by decide +kernel
theorem dX5_length_78 : decode cX5_length 78 = .ok (.iload_n 1, 1) := by decide +kernel
theorem dX5_length_79 : decode cX5_length 79 = .ok (.ireturn, 1) := by decide +kernel
set_option maxRecDepth 20000 in
theorem ggX5_lead_X5_length : GoodIn wsX5_lead wsX5_length := goodIn_r _ [6, 7, 8, 9, 5, 10, 11, 12, 13, 14, 15, 16, 17, 18, 19, 20, 21, 22, 23, 24, 25, 26, 27, 28, 29, 30, 31, 32, 33, 34, 35, 36, 37, 38] (by decide +kernel) (by decide +kernel)
set_option maxRecDepth 20000 in
theorem gX5_lead_X5_length : GoodIn wsX5_lead (wsV RX5 154 RX5 yX5_length wsX5_length) := goodIn_app (goodIn_of _ (by decide +kernel)) ggX5_lead_X5_length
theorem dX5_lead_0 : decode cX5_lead 0 = .ok (.aload_n 0, 1) := by decide +kernel
theorem dX5_lead_1 : decode cX5_lead 1 = .ok (.iconst 0, 1) := by decide +kernel
theorem dX5_lead_2 : decode cX5_lead 2 = .ok (.putfield 79, 3) := by decide +kernel
theorem dX5_lead_5 : decode cX5_lead 5 = .ok (.aload_n 0, 1) := by decide +kernel
theorem dX5_lead_6 : decode cX5_lead 6 = .ok (.invokevirtual 154, 3) := by decide +kernel
theorem dX5_lead_9 : decode cX5_lead 9 = .ok (.ireturn, 1) := by decide +kernel
set_option maxRecDepth 20000 in
theorem ggX5_joints_X5_at : GoodIn wsX5_joints wsX5_at := goodIn_r _ [6, 7, 8, 9, 5, 10, 11, 12, 13, 14, 15, 16, 17, 18, 19, 20, 21, 22, 23, 24, 25, 26, 27, 28, 29, 30, 31, 32, 33, 34] (by decide +kernel) (by decide +kernel)
set_option maxRecDepth 20000 in
theorem gX5_joints_X5_at : GoodIn wsX5_joints (wsV RX5 151 RX5 yX5_at wsX5_at) := goodIn_app (goodIn_of _ (by decide +kernel)) ggX5_joints_X5_at
theorem dX5_joints_0 : decode cX5_joints 0 = .ok (.aload_n 0, 1) := by decide +kernel
theorem dX5_joints_1 : decode cX5_joints 1 = .ok (.iconst 0, 1) := by decide +kernel
theorem dX5_joints_2 : decode cX5_joints 2 = .ok (.putfield 79, 3) := by decide +kernel
theorem dX5_joints_5 : decode cX5_joints 5 = .ok (.iconst 0, 1) := by decide +kernel
theorem dX5_joints_6 : decode cX5_joints 6 = .ok (.istore_n 1, 1) := by decide +kernel
theorem dX5_joints_7 : decode cX5_joints 7 = .ok (.iconst 0, 1) := by decide +kernel
theorem dX5_joints_8 : decode cX5_joints 8 = .ok (.istore_n 2, 1) := by decide +kernel
theorem dX5_joints_9 : decode cX5_joints 9 = .ok (.iload_n 2, 1) := by decide +kernel
theorem dX5_joints_10 : decode cX5_joints 10 = .ok (.bipush 16, 2) := by decide +kernel
theorem dX5_joints_12 : decode cX5_joints 12 = .ok (.if_icmp .gt 142, 3) := by decide +kernel
theorem dX5_joints_15 : decode cX5_joints 15 = .ok (.iconst 0, 1) := by decide +kernel
theorem dX5_joints_16 : decode cX5_joints 16 = .ok (.istore_n 3, 1) := by decide +kernel
theorem dX5_joints_17 : decode cX5_joints 17 = .ok (.iload_n 3, 1) := by decide +kernel
theorem dX5_joints_18 : decode cX5_joints 18 = .ok (.bipush 16, 2) := by decide +kernel
theorem dX5_joints_20 : decode cX5_joints 20 = .ok (.if_icmp .gt 128, 3) := by decide +kernel
theorem dX5_joints_23 : decode cX5_joints 23 = .ok (.aload_n 0, 1) := by decide +kernel
theorem dX5_joints_24 : decode cX5_joints 24 = .ok (.iload_n 2, 1) := by decide +kernel
theorem dX5_joints_25 : decode cX5_joints 25 = .ok (.iconst 1, 1) := by decide +kernel
theorem dX5_joints_26 : decode cX5_joints 26 = .ok (.isub, 1) := by decide +kernel
theorem dX5_joints_27 : decode cX5_joints 27 = .ok (.iload_n 3, 1) := by decide +kernel
theorem dX5_joints_28 : decode cX5_joints 28 = .ok (.iconst 1, 1) := by decide +kernel
theorem dX5_joints_29 : decode cX5_joints 29 = .ok (.isub, 1) := by decide +kernel
theorem dX5_joints_30 : decode cX5_joints 30 = .ok (.invokevirtual 151, 3) := by decide +kernel
theorem dX5_joints_33 : decode cX5_joints 33 = .ok (.aload_n 0, 1) := by decide +kernel
theorem dX5_joints_34 : decode cX5_joints 34 = .ok (.iload_n 2, 1) := by decide +kernel
theorem dX5_joints_35 : decode cX5_joints 35 = .ok (.iconst 1, 1) := by decide +kernel
theorem dX5_joints_36 : decode cX5_joints 36 = .ok (.isub, 1) := by decide +kernel
theorem dX5_joints_37 : decode cX5_joints 37 = .ok (.iload_n 3, 1) := by decide +kernel
theorem dX5_joints_38 : decode cX5_joints 38 = .ok (.invokevirtual 151, 3) := by decide +kernel
theorem dX5_joints_41 : decode cX5_joints 41 = .ok (.if_icmp .eq 7, 3) := by decide +kernel
theorem dX5_joints_44 : decode cX5_joints 44 = .ok (.iconst 1, 1) := by decide +kernel
theorem dX5_joints_45 : decode cX5_joints 45 = .ok (.goto 4, 3) := by decide +kernel
theorem dX5_joints_48 : decode cX5_joints 48 = .ok (.iconst 0, 1) := by decide +kernel
theorem dX5_joints_49 : decode cX5_joints 49 = .ok (.aload_n 0, 1) := by decide +kernel
theorem dX5_joints_50 : decode cX5_joints 50 = .ok (.iload_n 2, 1) := by decide +kernel
theorem dX5_joints_51 : decode cX5_joints 51 = .ok (.iload_n 3, 1) := by decide +kernel
theorem dX5_joints_52 : decode cX5_joints 52 = .ok (.iconst 1, 1) := by decide +kernel
theorem dX5_joints_53 : decode cX5_joints 53 = .ok (.isub, 1) := by decide +kernel
theorem dX5_joints_54 : decode cX5_joints 54 = .ok (.invokevirtual 151, 3) := by decide +kernel
theorem dX5_joints_57 : decode cX5_joints 57 = .ok (.aload_n 0, 1) := by decide +kernel
theorem dX5_joints_58 : decode cX5_joints 58 = .ok (.iload_n 2, 1) := by decide +kernel
theorem dX5_joints_59 : decode cX5_joints 59 = .ok (.iload_n 3, 1) := by decide +kernel
theorem dX5_joints_60 : decode cX5_joints 60 = .ok (.invokevirtual 151, 3) := by decide +kernel
theorem dX5_joints_63 : decode cX5_joints 63 = .ok (.if_icmp .eq 7, 3) := by decide +kernel
theorem dX5_joints_66 : decode cX5_joints 66 = .ok (.iconst 1, 1) := by decide +kernel
theorem dX5_joints_67 : decode cX5_joints 67 = .ok (.goto 4, 3) := by decide +kernel
theorem dX5_joints_70 : decode cX5_joints 70 = .ok (.iconst 0, 1) := by decide +kernel
theorem dX5_joints_71 : decode cX5_joints 71 = .ok (.iadd, 1) := by decide +kernel
theorem dX5_joints_72 : decode cX5_joints 72 = .ok (.istore 4, 2) := by decide +kernel
theorem dX5_joints_74 : decode cX5_joints 74 = .ok (.iload 4, 2) := by decide +kernel
theorem dX5_joints_76 : decode cX5_joints 76 = .ok (.aload_n 0, 1) := by decide +kernel
theorem dX5_joints_77 : decode cX5_joints 77 = .ok (.iload_n 2, 1) := by decide +kernel
theorem dX5_joints_78 : decode cX5_joints 78 = .ok (.iconst 1, 1) := by decide +kernel
theorem dX5_joints_79 : decode cX5_joints 79 = .ok (.isub, 1) := by decide +kernel
theorem dX5_joints_80 : decode cX5_joints 80 = .ok (.iload_n 3, 1) := by decide +kernel
theorem dX5_joints_81 : decode cX5_joints 81 = .ok (.iconst 1, 1) := by decide +kernel
theorem dX5_joints_82 : decode cX5_joints 82 = .ok (.isub, 1) := by decide +kernel
theorem dX5_joints_83 : decode cX5_joints 83 = .ok (.invokevirtual 151, 3) := by decide +kernel
theorem dX5_joints_86 : decode cX5_joints 86 = .ok (.aload_n 0, 1) := by decide +kernel
theorem dX5_joints_87 : decode cX5_joints 87 = .ok (.iload_n 2, 1) := by decide +kernel
theorem dX5_joints_88 : decode cX5_joints 88 = .ok (.iload_n 3, 1) := by decide +kernel
theorem dX5_joints_89 : decode cX5_joints 89 = .ok (.iconst 1, 1) := by decide +kernel
theorem dX5_joints_90 : decode cX5_joints 90 = .ok (.isub, 1) := by decide +kernel
theorem dX5_joints_91 : decode cX5_joints 91 = .ok (.invokevirtual 151, 3) := by decide +kernel
theorem dX5_joints_94 : decode cX5_joints 94 = .ok (.if_icmp .eq 7, 3) := by decide +kernel
theorem dX5_joints_97 : decode cX5_joints 97 = .ok (.iconst 1, 1) := by decide +kernel
theorem dX5_joints_98 : decode cX5_joints 98 = .ok (.goto 4, 3) := by decide +kernel
theorem dX5_joints_101 : decode cX5_joints 101 = .ok (.iconst 0, 1) := by decide +kernel
theorem dX5_joints_102 : decode cX5_joints 102 = .ok (.aload_n 0, 1) := by decide +kernel
theorem dX5_joints_103 : decode cX5_joints 103 = .ok (.iload_n 2, 1) := by decide +kernel
theorem dX5_joints_104 : decode cX5_joints 104 = .ok (.iconst 1, 1) := by decide +kernel
theorem dX5_joints_105 : decode cX5_joints 105 = .ok (.isub, 1) := by decide +kernel
theorem dX5_joints_106 : decode cX5_joints 106 = .ok (.iload_n 3, 1) := by decide +kernel
theorem dX5_joints_107 : decode cX5_joints 107 = .ok (.invokevirtual 151, 3) := by decide +kernel
theorem dX5_joints_110 : decode cX5_joints 110 = .ok (.aload_n 0, 1) := by decide +kernel
theorem dX5_joints_111 : decode cX5_joints 111 = .ok (.iload_n 2, 1) := by decide +kernel
theorem dX5_joints_112 : decode cX5_joints 112 = .ok (.iload_n 3, 1) := by decide +kernel
theorem dX5_joints_113 : decode cX5_joints 113 = .ok (.invokevirtual 151, 3) := by decide +kernel
theorem dX5_joints_116 : decode cX5_joints 116 = .ok (.if_icmp .eq 7, 3) := by decide +kernel
theorem dX5_joints_119 : decode cX5_joints 119 = .ok (.iconst 1, 1) := by decide +kernel
theorem dX5_joints_120 : decode cX5_joints 120 = .ok (.goto 4, 3) := by decide +kernel
theorem dX5_joints_123 : decode cX5_joints 123 = .ok (.iconst 0, 1) := by decide +kernel
theorem dX5_joints_124 : decode cX5_joints 124 = .ok (.iadd, 1) := by decide +kernel
theorem dX5_joints_125 : decode cX5_joints 125 = .ok (.iadd, 1) := by decide +kernel
theorem dX5_joints_126 : decode cX5_joints 126 = .ok (.istore 4, 2) := by decide +kernel
theorem dX5_joints_128 : decode cX5_joints 128 = .ok (.iload_n 1, 1) := by decide +kernel
theorem dX5_joints_129 : decode cX5_joints 129 = .ok (.iload 4, 2) := by decide +kernel
theorem dX5_joints_131 : decode cX5_joints 131 = .ok (.iconst 2, 1) := by decide +kernel
theorem dX5_joints_132 : decode cX5_joints 132 = .ok (.if_icmp .le 7, 3) := by decide +kernel
theorem dX5_joints_135 : decode cX5_joints 135 = .ok (.iconst 1, 1) := by decide +kernel
theorem dX5_joints_136 : decode cX5_joints 136 = .ok (.goto 4, 3) := by decide +kernel
theorem dX5_joints_139 : decode cX5_joints 139 = .ok (.iconst 0, 1) := by decide +kernel
theorem dX5_joints_140 : decode cX5_joints 140 = .ok (.iadd, 1) := by decide +kernel
theorem dX5_joints_141 : decode cX5_joints 141 = .ok (.istore_n 1, 1) := by decide +kernel
theorem dX5_joints_142 : decode cX5_joints 142 = .ok (.iinc 3 1, 3) := by decide +kernel
theorem dX5_joints_145 : decode cX5_joints 145 = .ok (.goto (-128), 3) := by decide +kernel
theorem dX5_joints_148 : decode cX5_joints 148 = .ok (.iinc 2 1, 3) := by decide +kernel
theorem dX5_joints_151 : decode cX5_joints 151 = .ok (.goto (-142), 3) := by decide +kernel
theorem dX5_joints_154 : decode cX5_joints 154 = .ok (.iload_n 1, 1) := by decide +kernel
theorem dX5_joints_155 : decode cX5_joints 155 = .ok (.ireturn, 1) := by decide +kernel
set_option maxRecDepth 20000 in
theorem ggX5_weight_X5_length : GoodIn wsX5_weight wsX5_length := goodIn_r _ [7, 8, 9, 10, 6, 11, 12, 13, 14, 15, 16, 17, 18, 19, 20, 21, 22, 23, 24, 25, 26, 27, 28, 29, 30, 31, 32, 33, 34, 35, 36, 37, 38, 39] (by decide +kernel) (by decide +kernel)
set_option maxRecDepth 20000 in
theorem gX5_weight_X5_length : GoodIn wsX5_weight (wsV RX5 154 RX5 yX5_length wsX5_length) := goodIn_app (goodIn_of _ (by decide +kernel)) ggX5_weight_X5_length
theorem dX5_weight_0 : decode cX5_weight 0 = .ok (.aload_n 0, 1) := by decide +kernel
theorem dX5_weight_1 : decode cX5_weight 1 = .ok (.iconst 0, 1) := by decide +kernel
theorem dX5_weight_2 : decode cX5_weight 2 = .ok (.putfield 79, 3) := by decide +kernel
theorem dX5_weight_5 : decode cX5_weight 5 = .ok (.sipush 768, 3) := by decide +kernel
theorem dX5_weight_8 : decode cX5_weight 8 = .ok (.aload_n 0, 1) := by decide +kernel
theorem dX5_weight_9 : decode cX5_weight 9 = .ok (.getfield 45, 3) := by decide +kernel
theorem dX5_weight_12 : decode cX5_weight 12 = .ok (.aload_n 0, 1) := by decide +kernel
theorem dX5_weight_13 : decode cX5_weight 13 = .ok (.invokevirtual 154, 3) := by decide +kernel
theorem dX5_weight_16 : decode cX5_weight 16 = .ok (.imul, 1) := by decide +kernel
theorem dX5_weight_17 : decode cX5_weight 17 = .ok (.iadd, 1) := by decide +kernel
theorem dX5_weight_18 : decode cX5_weight 18 = .ok (.ireturn, 1) := by decide +kernel
set_option maxRecDepth 20000 in
theorem ggX5_canGoIn_X5_beside : GoodIn wsX5_canGoIn wsX5_beside := goodIn_r _ [6, 7, 8, 5, 9] (by decide +kernel) (by decide +kernel)
set_option maxRecDepth 20000 in
theorem gX5_canGoIn_X5_beside : GoodIn wsX5_canGoIn (va_wsS RX5 90 yX5_beside wsX5_beside) := goodIn_app (goodIn_of _ (by decide +kernel)) ggX5_canGoIn_X5_beside
theorem dX5_canGoIn_0 : decode cX5_canGoIn 0 = .ok (.iconst 1, 1) := by decide +kernel
theorem dX5_canGoIn_1 : decode cX5_canGoIn 1 = .ok (.istore_n 2, 1) := by decide +kernel
theorem dX5_canGoIn_2 : decode cX5_canGoIn 2 = .ok (.iconst 0, 1) := by decide +kernel
theorem dX5_canGoIn_3 : decode cX5_canGoIn 3 = .ok (.istore_n 3, 1) := by decide +kernel
theorem dX5_canGoIn_4 : decode cX5_canGoIn 4 = .ok (.iload_n 3, 1) := by decide +kernel
theorem dX5_canGoIn_5 : decode cX5_canGoIn 5 = .ok (.sipush 256, 3) := by decide +kernel
theorem dX5_canGoIn_8 : decode cX5_canGoIn 8 = .ok (.if_icmp .ge 119, 3) := by decide +kernel
theorem dX5_canGoIn_11 : decode cX5_canGoIn 11 = .ok (.iload_n 3, 1) := by decide +kernel
theorem dX5_canGoIn_12 : decode cX5_canGoIn 12 = .ok (.iconst 1, 1) := by decide +kernel
theorem dX5_canGoIn_13 : decode cX5_canGoIn 13 = .ok (.invokestatic 90, 3) := by decide +kernel
theorem dX5_canGoIn_16 : decode cX5_canGoIn 16 = .ok (.istore 4, 2) := by decide +kernel
theorem dX5_canGoIn_18 : decode cX5_canGoIn 18 = .ok (.iload_n 3, 1) := by decide +kernel
theorem dX5_canGoIn_19 : decode cX5_canGoIn 19 = .ok (.iconst 2, 1) := by decide +kernel
theorem dX5_canGoIn_20 : decode cX5_canGoIn 20 = .ok (.invokestatic 90, 3) := by decide +kernel
theorem dX5_canGoIn_23 : decode cX5_canGoIn 23 = .ok (.istore 5, 2) := by decide +kernel
theorem dX5_canGoIn_25 : decode cX5_canGoIn 25 = .ok (.iload 4, 2) := by decide +kernel
theorem dX5_canGoIn_27 : decode cX5_canGoIn 27 = .ok (.iconst (-1), 1) := by decide +kernel
theorem dX5_canGoIn_28 : decode cX5_canGoIn 28 = .ok (.if_icmp .eq 29, 3) := by decide +kernel
theorem dX5_canGoIn_31 : decode cX5_canGoIn 31 = .ok (.aload_n 0, 1) := by decide +kernel
theorem dX5_canGoIn_32 : decode cX5_canGoIn 32 = .ok (.getfield 13, 3) := by decide +kernel
theorem dX5_canGoIn_35 : decode cX5_canGoIn 35 = .ok (.iload 4, 2) := by decide +kernel
theorem dX5_canGoIn_37 : decode cX5_canGoIn 37 = .ok (.iaload, 1) := by decide +kernel
theorem dX5_canGoIn_38 : decode cX5_canGoIn 38 = .ok (.iload_n 1, 1) := by decide +kernel
theorem dX5_canGoIn_39 : decode cX5_canGoIn 39 = .ok (.if_icmp .eq 18, 3) := by decide +kernel
theorem dX5_canGoIn_42 : decode cX5_canGoIn 42 = .ok (.aload_n 0, 1) := by decide +kernel
theorem dX5_canGoIn_43 : decode cX5_canGoIn 43 = .ok (.getfield 63, 3) := by decide +kernel
theorem dX5_canGoIn_46 : decode cX5_canGoIn 46 = .ok (.aload_n 0, 1) := by decide +kernel
theorem dX5_canGoIn_47 : decode cX5_canGoIn 47 = .ok (.getfield 13, 3) := by decide +kernel
theorem dX5_canGoIn_50 : decode cX5_canGoIn 50 = .ok (.iload 4, 2) := by decide +kernel
theorem dX5_canGoIn_52 : decode cX5_canGoIn 52 = .ok (.iaload, 1) := by decide +kernel
theorem dX5_canGoIn_53 : decode cX5_canGoIn 53 = .ok (.baload, 1) := by decide +kernel
theorem dX5_canGoIn_54 : decode cX5_canGoIn 54 = .ok (.ifCond .eq 35, 3) := by decide +kernel
theorem dX5_canGoIn_57 : decode cX5_canGoIn 57 = .ok (.iload 5, 2) := by decide +kernel
theorem dX5_canGoIn_59 : decode cX5_canGoIn 59 = .ok (.iconst (-1), 1) := by decide +kernel
theorem dX5_canGoIn_60 : decode cX5_canGoIn 60 = .ok (.if_icmp .eq 33, 3) := by decide +kernel
theorem dX5_canGoIn_63 : decode cX5_canGoIn 63 = .ok (.aload_n 0, 1) := by decide +kernel
theorem dX5_canGoIn_64 : decode cX5_canGoIn 64 = .ok (.getfield 13, 3) := by decide +kernel
theorem dX5_canGoIn_67 : decode cX5_canGoIn 67 = .ok (.iload 5, 2) := by decide +kernel
theorem dX5_canGoIn_69 : decode cX5_canGoIn 69 = .ok (.iaload, 1) := by decide +kernel
theorem dX5_canGoIn_70 : decode cX5_canGoIn 70 = .ok (.iload_n 1, 1) := by decide +kernel
theorem dX5_canGoIn_71 : decode cX5_canGoIn 71 = .ok (.if_icmp .eq 22, 3) := by decide +kernel
theorem dX5_canGoIn_74 : decode cX5_canGoIn 74 = .ok (.aload_n 0, 1) := by decide +kernel
theorem dX5_canGoIn_75 : decode cX5_canGoIn 75 = .ok (.getfield 63, 3) := by decide +kernel
theorem dX5_canGoIn_78 : decode cX5_canGoIn 78 = .ok (.aload_n 0, 1) := by decide +kernel
theorem dX5_canGoIn_79 : decode cX5_canGoIn 79 = .ok (.getfield 13, 3) := by decide +kernel
theorem dX5_canGoIn_82 : decode cX5_canGoIn 82 = .ok (.iload 5, 2) := by decide +kernel
theorem dX5_canGoIn_84 : decode cX5_canGoIn 84 = .ok (.iaload, 1) := by decide +kernel
theorem dX5_canGoIn_85 : decode cX5_canGoIn 85 = .ok (.baload, 1) := by decide +kernel
theorem dX5_canGoIn_86 : decode cX5_canGoIn 86 = .ok (.ifCond .ne 7, 3) := by decide +kernel
theorem dX5_canGoIn_89 : decode cX5_canGoIn 89 = .ok (.iconst 1, 1) := by decide +kernel
theorem dX5_canGoIn_90 : decode cX5_canGoIn 90 = .ok (.goto 4, 3) := by decide +kernel
theorem dX5_canGoIn_93 : decode cX5_canGoIn 93 = .ok (.iconst 0, 1) := by decide +kernel
theorem dX5_canGoIn_94 : decode cX5_canGoIn 94 = .ok (.istore 6, 2) := by decide +kernel
theorem dX5_canGoIn_96 : decode cX5_canGoIn 96 = .ok (.iload_n 2, 1) := by decide +kernel
theorem dX5_canGoIn_97 : decode cX5_canGoIn 97 = .ok (.ifCond .eq 22, 3) := by decide +kernel
theorem dX5_canGoIn_100 : decode cX5_canGoIn 100 = .ok (.aload_n 0, 1) := by decide +kernel
theorem dX5_canGoIn_101 : decode cX5_canGoIn 101 = .ok (.getfield 13, 3) := by decide +kernel
theorem dX5_canGoIn_104 : decode cX5_canGoIn 104 = .ok (.iload_n 3, 1) := by decide +kernel
theorem dX5_canGoIn_105 : decode cX5_canGoIn 105 = .ok (.iaload, 1) := by decide +kernel
theorem dX5_canGoIn_106 : decode cX5_canGoIn 106 = .ok (.iload_n 1, 1) := by decide +kernel
theorem dX5_canGoIn_107 : decode cX5_canGoIn 107 = .ok (.if_icmp .ne 8, 3) := by decide +kernel
theorem dX5_canGoIn_110 : decode cX5_canGoIn 110 = .ok (.iload 6, 2) := by decide +kernel
theorem dX5_canGoIn_112 : decode cX5_canGoIn 112 = .ok (.ifCond .ne 7, 3) := by decide +kernel
theorem dX5_canGoIn_115 : decode cX5_canGoIn 115 = .ok (.iconst 1, 1) := by decide +kernel
theorem dX5_canGoIn_116 : decode cX5_canGoIn 116 = .ok (.goto 4, 3) := by decide +kernel
theorem dX5_canGoIn_119 : decode cX5_canGoIn 119 = .ok (.iconst 0, 1) := by decide +kernel
theorem dX5_canGoIn_120 : decode cX5_canGoIn 120 = .ok (.istore_n 2, 1) := by decide +kernel
theorem dX5_canGoIn_121 : decode cX5_canGoIn 121 = .ok (.iinc 3 1, 3) := by decide +kernel
theorem dX5_canGoIn_124 : decode cX5_canGoIn 124 = .ok (.goto (-120), 3) := by decide +kernel
theorem dX5_canGoIn_127 : decode cX5_canGoIn 127 = .ok (.iload_n 2, 1) := by decide +kernel
theorem dX5_canGoIn_128 : decode cX5_canGoIn 128 = .ok (.ireturn, 1) := by decide +kernel
set_option maxRecDepth 20000 in
theorem ggX5_assembled_X5_canGoIn : GoodIn wsX5_assembled wsX5_canGoIn := goodIn_r _ [10, 11, 3, 12, 13, 9, 14, 15, 16, 17, 18, 19, 20, 21, 22, 23, 24, 25, 26, 27, 28, 29, 30, 31, 32, 33, 34, 35, 36, 37, 38, 39, 40, 41] (by decide +kernel) (by decide +kernel)
set_option maxRecDepth 20000 in
theorem gX5_assembled_X5_canGoIn : GoodIn wsX5_assembled (wsV RX5 157 RX5 yX5_canGoIn wsX5_canGoIn) := goodIn_app (goodIn_of _ (by decide +kernel)) ggX5_assembled_X5_canGoIn
set_option maxRecDepth 20000 in
theorem ggX5_assembled_X5_in : GoodIn wsX5_assembled wsX5_in := goodIn_r _ [17] (by decide +kernel) (by decide +kernel)
set_option maxRecDepth 20000 in
theorem gX5_assembled_X5_in : GoodIn wsX5_assembled (va_wsS RX5 82 yX5_in wsX5_in) := goodIn_app (goodIn_of _ (by decide +kernel)) ggX5_assembled_X5_in
theorem dX5_assembled_0 : decode cX5_assembled 0 = .ok (.aload_n 0, 1) := by decide +kernel
theorem dX5_assembled_1 : decode cX5_assembled 1 = .ok (.iconst 0, 1) := by decide +kernel
theorem dX5_assembled_2 : decode cX5_assembled 2 = .ok (.putfield 79, 3) := by decide +kernel
theorem dX5_assembled_5 : decode cX5_assembled 5 = .ok (.iconst 0, 1) := by decide +kernel
theorem dX5_assembled_6 : decode cX5_assembled 6 = .ok (.istore_n 2, 1) := by decide +kernel
theorem dX5_assembled_7 : decode cX5_assembled 7 = .ok (.iconst 0, 1) := by decide +kernel
theorem dX5_assembled_8 : decode cX5_assembled 8 = .ok (.istore_n 3, 1) := by decide +kernel
theorem dX5_assembled_9 : decode cX5_assembled 9 = .ok (.iload_n 3, 1) := by decide +kernel
theorem dX5_assembled_10 : decode cX5_assembled 10 = .ok (.aload_n 0, 1) := by decide +kernel
theorem dX5_assembled_11 : decode cX5_assembled 11 = .ok (.getfield 7, 3) := by decide +kernel
theorem dX5_assembled_14 : decode cX5_assembled 14 = .ok (.if_icmp .ge 33, 3) := by decide +kernel
theorem dX5_assembled_17 : decode cX5_assembled 17 = .ok (.aload_n 0, 1) := by decide +kernel
theorem dX5_assembled_18 : decode cX5_assembled 18 = .ok (.getfield 63, 3) := by decide +kernel
theorem dX5_assembled_21 : decode cX5_assembled 21 = .ok (.iload_n 3, 1) := by decide +kernel
theorem dX5_assembled_22 : decode cX5_assembled 22 = .ok (.iconst 0, 1) := by decide +kernel
theorem dX5_assembled_23 : decode cX5_assembled 23 = .ok (.bastore, 1) := by decide +kernel
theorem dX5_assembled_24 : decode cX5_assembled 24 = .ok (.iload_n 2, 1) := by decide +kernel
theorem dX5_assembled_25 : decode cX5_assembled 25 = .ok (.aload_n 0, 1) := by decide +kernel
theorem dX5_assembled_26 : decode cX5_assembled 26 = .ok (.getfield 17, 3) := by decide +kernel
theorem dX5_assembled_29 : decode cX5_assembled 29 = .ok (.iload_n 3, 1) := by decide +kernel
theorem dX5_assembled_30 : decode cX5_assembled 30 = .ok (.iaload, 1) := by decide +kernel
theorem dX5_assembled_31 : decode cX5_assembled 31 = .ok (.ifCond .le 7, 3) := by decide +kernel
theorem dX5_assembled_34 : decode cX5_assembled 34 = .ok (.iconst 1, 1) := by decide +kernel
theorem dX5_assembled_35 : decode cX5_assembled 35 = .ok (.goto 4, 3) := by decide +kernel
theorem dX5_assembled_38 : decode cX5_assembled 38 = .ok (.iconst 0, 1) := by decide +kernel
theorem dX5_assembled_39 : decode cX5_assembled 39 = .ok (.iadd, 1) := by decide +kernel
theorem dX5_assembled_40 : decode cX5_assembled 40 = .ok (.istore_n 2, 1) := by decide +kernel
theorem dX5_assembled_41 : decode cX5_assembled 41 = .ok (.iinc 3 1, 3) := by decide +kernel
theorem dX5_assembled_44 : decode cX5_assembled 44 = .ok (.goto (-35), 3) := by decide +kernel
theorem dX5_assembled_47 : decode cX5_assembled 47 = .ok (.iconst 0, 1) := by decide +kernel
theorem dX5_assembled_48 : decode cX5_assembled 48 = .ok (.istore_n 3, 1) := by decide +kernel
theorem dX5_assembled_49 : decode cX5_assembled 49 = .ok (.iload_n 3, 1) := by decide +kernel
theorem dX5_assembled_50 : decode cX5_assembled 50 = .ok (.iload_n 2, 1) := by decide +kernel
theorem dX5_assembled_51 : decode cX5_assembled 51 = .ok (.if_icmp .ge 93, 3) := by decide +kernel
theorem dX5_assembled_54 : decode cX5_assembled 54 = .ok (.iconst (-1), 1) := by decide +kernel
theorem dX5_assembled_55 : decode cX5_assembled 55 = .ok (.istore 4, 2) := by decide +kernel
theorem dX5_assembled_57 : decode cX5_assembled 57 = .ok (.aload_n 0, 1) := by decide +kernel
theorem dX5_assembled_58 : decode cX5_assembled 58 = .ok (.getfield 7, 3) := by decide +kernel
theorem dX5_assembled_61 : decode cX5_assembled 61 = .ok (.iconst 1, 1) := by decide +kernel
theorem dX5_assembled_62 : decode cX5_assembled 62 = .ok (.isub, 1) := by decide +kernel
theorem dX5_assembled_63 : decode cX5_assembled 63 = .ok (.istore 5, 2) := by decide +kernel
theorem dX5_assembled_65 : decode cX5_assembled 65 = .ok (.iload 5, 2) := by decide +kernel
theorem dX5_assembled_67 : decode cX5_assembled 67 = .ok (.ifCond .lt 47, 3) := by decide +kernel
theorem dX5_assembled_70 : decode cX5_assembled 70 = .ok (.aload_n 0, 1) := by decide +kernel
theorem dX5_assembled_71 : decode cX5_assembled 71 = .ok (.getfield 17, 3) := by decide +kernel
theorem dX5_assembled_74 : decode cX5_assembled 74 = .ok (.iload 5, 2) := by decide +kernel
theorem dX5_assembled_76 : decode cX5_assembled 76 = .ok (.iaload, 1) := by decide +kernel
theorem dX5_assembled_77 : decode cX5_assembled 77 = .ok (.ifCond .le 27, 3) := by decide +kernel
theorem dX5_assembled_80 : decode cX5_assembled 80 = .ok (.aload_n 0, 1) := by decide +kernel
theorem dX5_assembled_81 : decode cX5_assembled 81 = .ok (.getfield 63, 3) := by decide +kernel
theorem dX5_assembled_84 : decode cX5_assembled 84 = .ok (.iload 5, 2) := by decide +kernel
theorem dX5_assembled_86 : decode cX5_assembled 86 = .ok (.baload, 1) := by decide +kernel
theorem dX5_assembled_87 : decode cX5_assembled 87 = .ok (.ifCond .ne 17, 3) := by decide +kernel
theorem dX5_assembled_90 : decode cX5_assembled 90 = .ok (.aload_n 0, 1) := by decide +kernel
theorem dX5_assembled_91 : decode cX5_assembled 91 = .ok (.iload 5, 2) := by decide +kernel
theorem dX5_assembled_93 : decode cX5_assembled 93 = .ok (.invokevirtual 157, 3) := by decide +kernel
theorem dX5_assembled_96 : decode cX5_assembled 96 = .ok (.ifCond .eq 8, 3) := by decide +kernel
theorem dX5_assembled_99 : decode cX5_assembled 99 = .ok (.iload 5, 2) := by decide +kernel
theorem dX5_assembled_101 : decode cX5_assembled 101 = .ok (.goto 5, 3) := by decide +kernel
theorem dX5_assembled_104 : decode cX5_assembled 104 = .ok (.iload 4, 2) := by decide +kernel
theorem dX5_assembled_106 : decode cX5_assembled 106 = .ok (.istore 4, 2) := by decide +kernel
theorem dX5_assembled_108 : decode cX5_assembled 108 = .ok (.iinc 5 (-1), 3) := by decide +kernel
theorem dX5_assembled_111 : decode cX5_assembled 111 = .ok (.goto (-46), 3) := by decide +kernel
theorem dX5_assembled_114 : decode cX5_assembled 114 = .ok (.iload 4, 2) := by decide +kernel
theorem dX5_assembled_116 : decode cX5_assembled 116 = .ok (.iconst (-1), 1) := by decide +kernel
theorem dX5_assembled_117 : decode cX5_assembled 117 = .ok (.if_icmp .ne 5, 3) := by decide +kernel
theorem dX5_assembled_120 : decode cX5_assembled 120 = .ok (.iconst (-1), 1) := by decide +kernel
theorem dX5_assembled_121 : decode cX5_assembled 121 = .ok (.ireturn, 1) := by decide +kernel
theorem dX5_assembled_122 : decode cX5_assembled 122 = .ok (.aload_n 0, 1) := by decide +kernel
theorem dX5_assembled_123 : decode cX5_assembled 123 = .ok (.getfield 63, 3) := by decide +kernel
theorem dX5_assembled_126 : decode cX5_assembled 126 = .ok (.iload 4, 2) := by decide +kernel
theorem dX5_assembled_128 : decode cX5_assembled 128 = .ok (.iconst 1, 1) := by decide +kernel
theorem dX5_assembled_129 : decode cX5_assembled 129 = .ok (.bastore, 1) := by decide +kernel
theorem dX5_assembled_130 : decode cX5_assembled 130 = .ok (.aload_n 0, 1) := by decide +kernel
theorem dX5_assembled_131 : decode cX5_assembled 131 = .ok (.getfield 66, 3) := by decide +kernel
theorem dX5_assembled_134 : decode cX5_assembled 134 = .ok (.iload_n 3, 1) := by decide +kernel
theorem dX5_assembled_135 : decode cX5_assembled 135 = .ok (.iload 4, 2) := by decide +kernel
theorem dX5_assembled_137 : decode cX5_assembled 137 = .ok (.iastore, 1) := by decide +kernel
theorem dX5_assembled_138 : decode cX5_assembled 138 = .ok (.iinc 3 1, 3) := by decide +kernel
theorem dX5_assembled_141 : decode cX5_assembled 141 = .ok (.goto (-92), 3) := by decide +kernel
theorem dX5_assembled_144 : decode cX5_assembled 144 = .ok (.iload_n 1, 1) := by decide +kernel
theorem dX5_assembled_145 : decode cX5_assembled 145 = .ok (.iconst 0, 1) := by decide +kernel
theorem dX5_assembled_146 : decode cX5_assembled 146 = .ok (.iload_n 2, 1) := by decide +kernel
theorem dX5_assembled_147 : decode cX5_assembled 147 = .ok (.iconst 1, 1) := by decide +kernel
theorem dX5_assembled_148 : decode cX5_assembled 148 = .ok (.isub, 1) := by decide +kernel
theorem dX5_assembled_149 : decode cX5_assembled 149 = .ok (.invokestatic 82, 3) := by decide +kernel
theorem dX5_assembled_152 : decode cX5_assembled 152 = .ok (.ifCond .eq 12, 3) := by decide +kernel
theorem dX5_assembled_155 : decode cX5_assembled 155 = .ok (.aload_n 0, 1) := by decide +kernel
theorem dX5_assembled_156 : decode cX5_assembled 156 = .ok (.getfield 66, 3) := by decide +kernel
theorem dX5_assembled_159 : decode cX5_assembled 159 = .ok (.iload_n 1, 1) := by decide +kernel
theorem dX5_assembled_160 : decode cX5_assembled 160 = .ok (.iaload, 1) := by decide +kernel
theorem dX5_assembled_161 : decode cX5_assembled 161 = .ok (.goto 4, 3) := by decide +kernel
theorem dX5_assembled_164 : decode cX5_assembled 164 = .ok (.iconst (-1), 1) := by decide +kernel
theorem dX5_assembled_165 : decode cX5_assembled 165 = .ok (.ireturn, 1) := by decide +kernel
set_option maxRecDepth 20000 in
theorem ggX5_firstOf_X5_box : GoodIn wsX5_firstOf wsX5_box := goodIn_r _ [9, 10, 11, 12, 13, 14, 15, 16, 17, 18, 19, 20, 21, 22, 23, 24, 25, 26, 27, 28, 29, 30, 31, 32, 33, 34] (by decide +kernel) (by decide +kernel)
set_option maxRecDepth 20000 in
theorem gX5_firstOf_X5_box : GoodIn wsX5_firstOf (wsV RX5 141 RX5 yX5_box wsX5_box) := goodIn_app (goodIn_of _ (by decide +kernel)) ggX5_firstOf_X5_box
theorem dX5_firstOf_0 : decode cX5_firstOf 0 = .ok (.iconst (-1), 1) := by decide +kernel
theorem dX5_firstOf_1 : decode cX5_firstOf 1 = .ok (.istore_n 2, 1) := by decide +kernel
theorem dX5_firstOf_2 : decode cX5_firstOf 2 = .ok (.iconst 0, 1) := by decide +kernel
theorem dX5_firstOf_3 : decode cX5_firstOf 3 = .ok (.istore_n 3, 1) := by decide +kernel
theorem dX5_firstOf_4 : decode cX5_firstOf 4 = .ok (.iload_n 3, 1) := by decide +kernel
theorem dX5_firstOf_5 : decode cX5_firstOf 5 = .ok (.aload_n 0, 1) := by decide +kernel
theorem dX5_firstOf_6 : decode cX5_firstOf 6 = .ok (.getfield 7, 3) := by decide +kernel
theorem dX5_firstOf_9 : decode cX5_firstOf 9 = .ok (.if_icmp .ge 97, 3) := by decide +kernel
theorem dX5_firstOf_12 : decode cX5_firstOf 12 = .ok (.aload_n 0, 1) := by decide +kernel
theorem dX5_firstOf_13 : decode cX5_firstOf 13 = .ok (.getfield 17, 3) := by decide +kernel
theorem dX5_firstOf_16 : decode cX5_firstOf 16 = .ok (.iload_n 3, 1) := by decide +kernel
theorem dX5_firstOf_17 : decode cX5_firstOf 17 = .ok (.iaload, 1) := by decide +kernel
theorem dX5_firstOf_18 : decode cX5_firstOf 18 = .ok (.ifCond .le 82, 3) := by decide +kernel
theorem dX5_firstOf_21 : decode cX5_firstOf 21 = .ok (.aload_n 0, 1) := by decide +kernel
theorem dX5_firstOf_22 : decode cX5_firstOf 22 = .ok (.getfield 20, 3) := by decide +kernel
theorem dX5_firstOf_25 : decode cX5_firstOf 25 = .ok (.iload_n 3, 1) := by decide +kernel
theorem dX5_firstOf_26 : decode cX5_firstOf 26 = .ok (.iaload, 1) := by decide +kernel
theorem dX5_firstOf_27 : decode cX5_firstOf 27 = .ok (.iload_n 1, 1) := by decide +kernel
theorem dX5_firstOf_28 : decode cX5_firstOf 28 = .ok (.if_icmp .ne 72, 3) := by decide +kernel
theorem dX5_firstOf_31 : decode cX5_firstOf 31 = .ok (.aload_n 0, 1) := by decide +kernel
theorem dX5_firstOf_32 : decode cX5_firstOf 32 = .ok (.getfield 72, 3) := by decide +kernel
theorem dX5_firstOf_35 : decode cX5_firstOf 35 = .ok (.iload_n 3, 1) := by decide +kernel
theorem dX5_firstOf_36 : decode cX5_firstOf 36 = .ok (.baload, 1) := by decide +kernel
theorem dX5_firstOf_37 : decode cX5_firstOf 37 = .ok (.ifCond .ne 63, 3) := by decide +kernel
theorem dX5_firstOf_40 : decode cX5_firstOf 40 = .ok (.iload_n 2, 1) := by decide +kernel
theorem dX5_firstOf_41 : decode cX5_firstOf 41 = .ok (.iconst (-1), 1) := by decide +kernel
theorem dX5_firstOf_42 : decode cX5_firstOf 42 = .ok (.if_icmp .ne 7, 3) := by decide +kernel
theorem dX5_firstOf_45 : decode cX5_firstOf 45 = .ok (.iconst 1, 1) := by decide +kernel
theorem dX5_firstOf_46 : decode cX5_firstOf 46 = .ok (.goto 16, 3) := by decide +kernel
theorem dX5_firstOf_49 : decode cX5_firstOf 49 = .ok (.aload_n 0, 1) := by decide +kernel
theorem dX5_firstOf_50 : decode cX5_firstOf 50 = .ok (.iload_n 3, 1) := by decide +kernel
theorem dX5_firstOf_51 : decode cX5_firstOf 51 = .ok (.iconst 1, 1) := by decide +kernel
theorem dX5_firstOf_52 : decode cX5_firstOf 52 = .ok (.invokevirtual 141, 3) := by decide +kernel
theorem dX5_firstOf_55 : decode cX5_firstOf 55 = .ok (.aload_n 0, 1) := by decide +kernel
theorem dX5_firstOf_56 : decode cX5_firstOf 56 = .ok (.iload_n 2, 1) := by decide +kernel
theorem dX5_firstOf_57 : decode cX5_firstOf 57 = .ok (.iconst 1, 1) := by decide +kernel
theorem dX5_firstOf_58 : decode cX5_firstOf 58 = .ok (.invokevirtual 141, 3) := by decide +kernel
theorem dX5_firstOf_61 : decode cX5_firstOf 61 = .ok (.isub, 1) := by decide +kernel
theorem dX5_firstOf_62 : decode cX5_firstOf 62 = .ok (.istore 4, 2) := by decide +kernel
theorem dX5_firstOf_64 : decode cX5_firstOf 64 = .ok (.iload 4, 2) := by decide +kernel
theorem dX5_firstOf_66 : decode cX5_firstOf 66 = .ok (.ifCond .eq 8, 3) := by decide +kernel
theorem dX5_firstOf_69 : decode cX5_firstOf 69 = .ok (.iload 4, 2) := by decide +kernel
theorem dX5_firstOf_71 : decode cX5_firstOf 71 = .ok (.goto 16, 3) := by decide +kernel
theorem dX5_firstOf_74 : decode cX5_firstOf 74 = .ok (.aload_n 0, 1) := by decide +kernel
theorem dX5_firstOf_75 : decode cX5_firstOf 75 = .ok (.iload_n 3, 1) := by decide +kernel
theorem dX5_firstOf_76 : decode cX5_firstOf 76 = .ok (.iconst 0, 1) := by decide +kernel
theorem dX5_firstOf_77 : decode cX5_firstOf 77 = .ok (.invokevirtual 141, 3) := by decide +kernel
theorem dX5_firstOf_80 : decode cX5_firstOf 80 = .ok (.aload_n 0, 1) := by decide +kernel
theorem dX5_firstOf_81 : decode cX5_firstOf 81 = .ok (.iload_n 2, 1) := by decide +kernel
theorem dX5_firstOf_82 : decode cX5_firstOf 82 = .ok (.iconst 0, 1) := by decide +kernel
theorem dX5_firstOf_83 : decode cX5_firstOf 83 = .ok (.invokevirtual 141, 3) := by decide +kernel
theorem dX5_firstOf_86 : decode cX5_firstOf 86 = .ok (.isub, 1) := by decide +kernel
theorem dX5_firstOf_87 : decode cX5_firstOf 87 = .ok (.istore 4, 2) := by decide +kernel
theorem dX5_firstOf_89 : decode cX5_firstOf 89 = .ok (.iload 4, 2) := by decide +kernel
theorem dX5_firstOf_91 : decode cX5_firstOf 91 = .ok (.ifCond .le 7, 3) := by decide +kernel
theorem dX5_firstOf_94 : decode cX5_firstOf 94 = .ok (.iload_n 3, 1) := by decide +kernel
theorem dX5_firstOf_95 : decode cX5_firstOf 95 = .ok (.goto 4, 3) := by decide +kernel
theorem dX5_firstOf_98 : decode cX5_firstOf 98 = .ok (.iload_n 2, 1) := by decide +kernel
theorem dX5_firstOf_99 : decode cX5_firstOf 99 = .ok (.istore_n 2, 1) := by decide +kernel
theorem dX5_firstOf_100 : decode cX5_firstOf 100 = .ok (.iinc 3 1, 3) := by decide +kernel
theorem dX5_firstOf_103 : decode cX5_firstOf 103 = .ok (.goto (-99), 3) := by decide +kernel
theorem dX5_firstOf_106 : decode cX5_firstOf 106 = .ok (.iload_n 2, 1) := by decide +kernel
theorem dX5_firstOf_107 : decode cX5_firstOf 107 = .ok (.ireturn, 1) := by decide +kernel
set_option maxRecDepth 20000 in
theorem ggX5_layAll_X5_firstOf : GoodIn wsX5_layAll wsX5_firstOf := goodIn_r _ [12, 3, 7, 13, 4, 14, 15, 16, 11, 17, 18, 19, 20, 21, 22, 23, 24, 25, 26, 27, 28, 29, 30, 31, 32, 33, 34, 35, 36, 37, 38, 39, 40, 41, 42] (by decide +kernel) (by decide +kernel)
set_option maxRecDepth 20000 in
theorem gX5_layAll_X5_firstOf : GoodIn wsX5_layAll (wsV RX5 166 RX5 yX5_firstOf wsX5_firstOf) := goodIn_app (goodIn_of _ (by decide +kernel)) ggX5_layAll_X5_firstOf
set_option maxRecDepth 20000 in
theorem ggX5_layAll_X5_box : GoodIn wsX5_layAll wsX5_box := goodIn_r _ [17, 18, 19, 20, 21, 22, 23, 24, 25, 26, 27, 28, 29, 30, 31, 32, 33, 34, 35, 36, 37, 38, 39, 40, 41, 42] (by decide +kernel) (by decide +kernel)
set_option maxRecDepth 20000 in
theorem gX5_layAll_X5_box : GoodIn wsX5_layAll (wsV RX5 141 RX5 yX5_box wsX5_box) := goodIn_app (goodIn_of _ (by decide +kernel)) ggX5_layAll_X5_box
theorem dX5_layAll_0 : decode cX5_layAll 0 = .ok (.aload_n 0, 1) := by decide +kernel
theorem dX5_layAll_1 : decode cX5_layAll 1 = .ok (.iconst 0, 1) := by decide +kernel
theorem dX5_layAll_2 : decode cX5_layAll 2 = .ok (.putfield 160, 3) := by decide +kernel
theorem dX5_layAll_5 : decode cX5_layAll 5 = .ok (.aload_n 0, 1) := by decide +kernel
theorem dX5_layAll_6 : decode cX5_layAll 6 = .ok (.iconst 0, 1) := by decide +kernel
theorem dX5_layAll_7 : decode cX5_layAll 7 = .ok (.putfield 163, 3) := by decide +kernel
theorem dX5_layAll_10 : decode cX5_layAll 10 = .ok (.iconst 0, 1) := by decide +kernel
theorem dX5_layAll_11 : decode cX5_layAll 11 = .ok (.istore_n 2, 1) := by decide +kernel
theorem dX5_layAll_12 : decode cX5_layAll 12 = .ok (.iload_n 2, 1) := by decide +kernel
theorem dX5_layAll_13 : decode cX5_layAll 13 = .ok (.aload_n 0, 1) := by decide +kernel
theorem dX5_layAll_14 : decode cX5_layAll 14 = .ok (.getfield 7, 3) := by decide +kernel
theorem dX5_layAll_17 : decode cX5_layAll 17 = .ok (.if_icmp .ge 16, 3) := by decide +kernel
theorem dX5_layAll_20 : decode cX5_layAll 20 = .ok (.aload_n 0, 1) := by decide +kernel
theorem dX5_layAll_21 : decode cX5_layAll 21 = .ok (.getfield 72, 3) := by decide +kernel
theorem dX5_layAll_24 : decode cX5_layAll 24 = .ok (.iload_n 2, 1) := by decide +kernel
theorem dX5_layAll_25 : decode cX5_layAll 25 = .ok (.iconst 0, 1) := by decide +kernel
theorem dX5_layAll_26 : decode cX5_layAll 26 = .ok (.bastore, 1) := by decide +kernel
theorem dX5_layAll_27 : decode cX5_layAll 27 = .ok (.iinc 2 1, 3) := by decide +kernel
theorem dX5_layAll_30 : decode cX5_layAll 30 = .ok (.goto (-18), 3) := by decide +kernel
theorem dX5_layAll_33 : decode cX5_layAll 33 = .ok (.iconst 0, 1) := by decide +kernel
theorem dX5_layAll_34 : decode cX5_layAll 34 = .ok (.istore_n 2, 1) := by decide +kernel
theorem dX5_layAll_35 : decode cX5_layAll 35 = .ok (.iconst 0, 1) := by decide +kernel
theorem dX5_layAll_36 : decode cX5_layAll 36 = .ok (.istore_n 3, 1) := by decide +kernel
theorem dX5_layAll_37 : decode cX5_layAll 37 = .ok (.iconst 0, 1) := by decide +kernel
theorem dX5_layAll_38 : decode cX5_layAll 38 = .ok (.istore 4, 2) := by decide +kernel
theorem dX5_layAll_40 : decode cX5_layAll 40 = .ok (.aload_n 0, 1) := by decide +kernel
theorem dX5_layAll_41 : decode cX5_layAll 41 = .ok (.iload_n 1, 1) := by decide +kernel
theorem dX5_layAll_42 : decode cX5_layAll 42 = .ok (.invokevirtual 166, 3) := by decide +kernel
theorem dX5_layAll_45 : decode cX5_layAll 45 = .ok (.istore 5, 2) := by decide +kernel
theorem dX5_layAll_47 : decode cX5_layAll 47 = .ok (.iload 5, 2) := by decide +kernel
theorem dX5_layAll_49 : decode cX5_layAll 49 = .ok (.iconst (-1), 1) := by decide +kernel
theorem dX5_layAll_50 : decode cX5_layAll 50 = .ok (.if_icmp .eq 177, 3) := by decide +kernel
theorem dX5_layAll_53 : decode cX5_layAll 53 = .ok (.aload_n 0, 1) := by decide +kernel
theorem dX5_layAll_54 : decode cX5_layAll 54 = .ok (.getfield 72, 3) := by decide +kernel
theorem dX5_layAll_57 : decode cX5_layAll 57 = .ok (.iload 5, 2) := by decide +kernel
theorem dX5_layAll_59 : decode cX5_layAll 59 = .ok (.iconst 1, 1) := by decide +kernel
theorem dX5_layAll_60 : decode cX5_layAll 60 = .ok (.bastore, 1) := by decide +kernel
theorem dX5_layAll_61 : decode cX5_layAll 61 = .ok (.aload_n 0, 1) := by decide +kernel
theorem dX5_layAll_62 : decode cX5_layAll 62 = .ok (.iload 5, 2) := by decide +kernel
theorem dX5_layAll_64 : decode cX5_layAll 64 = .ok (.iconst 1, 1) := by decide +kernel
theorem dX5_layAll_65 : decode cX5_layAll 65 = .ok (.invokevirtual 141, 3) := by decide +kernel
theorem dX5_layAll_68 : decode cX5_layAll 68 = .ok (.istore 6, 2) := by decide +kernel
theorem dX5_layAll_70 : decode cX5_layAll 70 = .ok (.aload_n 0, 1) := by decide +kernel
theorem dX5_layAll_71 : decode cX5_layAll 71 = .ok (.iload 5, 2) := by decide +kernel
theorem dX5_layAll_73 : decode cX5_layAll 73 = .ok (.iconst 0, 1) := by decide +kernel
theorem dX5_layAll_74 : decode cX5_layAll 74 = .ok (.invokevirtual 141, 3) := by decide +kernel
theorem dX5_layAll_77 : decode cX5_layAll 77 = .ok (.istore 7, 2) := by decide +kernel
theorem dX5_layAll_79 : decode cX5_layAll 79 = .ok (.aload_n 0, 1) := by decide +kernel
theorem dX5_layAll_80 : decode cX5_layAll 80 = .ok (.getfield 69, 3) := by decide +kernel
theorem dX5_layAll_83 : decode cX5_layAll 83 = .ok (.iload 5, 2) := by decide +kernel
theorem dX5_layAll_85 : decode cX5_layAll 85 = .ok (.iconst (-1), 1) := by decide +kernel
theorem dX5_layAll_86 : decode cX5_layAll 86 = .ok (.iastore, 1) := by decide +kernel
theorem dX5_layAll_87 : decode cX5_layAll 87 = .ok (.iload 7, 2) := by decide +kernel
theorem dX5_layAll_89 : decode cX5_layAll 89 = .ok (.aload_n 0, 1) := by decide +kernel
theorem dX5_layAll_90 : decode cX5_layAll 90 = .ok (.getfield 48, 3) := by decide +kernel
theorem dX5_layAll_93 : decode cX5_layAll 93 = .ok (.if_icmp .gt 124, 3) := by decide +kernel
theorem dX5_layAll_96 : decode cX5_layAll 96 = .ok (.aload_n 0, 1) := by decide +kernel
theorem dX5_layAll_97 : decode cX5_layAll 97 = .ok (.getfield 160, 3) := by decide +kernel
theorem dX5_layAll_100 : decode cX5_layAll 100 = .ok (.ifCond .eq 26, 3) := by decide +kernel
theorem dX5_layAll_103 : decode cX5_layAll 103 = .ok (.iload 4, 2) := by decide +kernel
theorem dX5_layAll_105 : decode cX5_layAll 105 = .ok (.iload 7, 2) := by decide +kernel
theorem dX5_layAll_107 : decode cX5_layAll 107 = .ok (.iadd, 1) := by decide +kernel
theorem dX5_layAll_108 : decode cX5_layAll 108 = .ok (.aload_n 0, 1) := by decide +kernel
theorem dX5_layAll_109 : decode cX5_layAll 109 = .ok (.getfield 48, 3) := by decide +kernel
theorem dX5_layAll_112 : decode cX5_layAll 112 = .ok (.if_icmp .le 35, 3) := by decide +kernel
theorem dX5_layAll_115 : decode cX5_layAll 115 = .ok (.iload_n 2, 1) := by decide +kernel
theorem dX5_layAll_116 : decode cX5_layAll 116 = .ok (.iload_n 3, 1) := by decide +kernel
theorem dX5_layAll_117 : decode cX5_layAll 117 = .ok (.iadd, 1) := by decide +kernel
theorem dX5_layAll_118 : decode cX5_layAll 118 = .ok (.iload 6, 2) := by decide +kernel
theorem dX5_layAll_120 : decode cX5_layAll 120 = .ok (.iadd, 1) := by decide +kernel
theorem dX5_layAll_121 : decode cX5_layAll 121 = .ok (.bipush 20, 2) := by decide +kernel
theorem dX5_layAll_123 : decode cX5_layAll 123 = .ok (.if_icmp .le 24, 3) := by decide +kernel
theorem dX5_layAll_126 : decode cX5_layAll 126 = .ok (.aload_n 0, 1) := by decide +kernel
theorem dX5_layAll_127 : decode cX5_layAll 127 = .ok (.dup, 1) := by decide +kernel
theorem dX5_layAll_128 : decode cX5_layAll 128 = .ok (.getfield 160, 3) := by decide +kernel
theorem dX5_layAll_131 : decode cX5_layAll 131 = .ok (.iconst 1, 1) := by decide +kernel
theorem dX5_layAll_132 : decode cX5_layAll 132 = .ok (.iadd, 1) := by decide +kernel
theorem dX5_layAll_133 : decode cX5_layAll 133 = .ok (.putfield 160, 3) := by decide +kernel
theorem dX5_layAll_136 : decode cX5_layAll 136 = .ok (.iconst 0, 1) := by decide +kernel
theorem dX5_layAll_137 : decode cX5_layAll 137 = .ok (.istore_n 2, 1) := by decide +kernel
theorem dX5_layAll_138 : decode cX5_layAll 138 = .ok (.iload 6, 2) := by decide +kernel
theorem dX5_layAll_140 : decode cX5_layAll 140 = .ok (.istore_n 3, 1) := by decide +kernel
theorem dX5_layAll_141 : decode cX5_layAll 141 = .ok (.iconst 0, 1) := by decide +kernel
theorem dX5_layAll_142 : decode cX5_layAll 142 = .ok (.istore 4, 2) := by decide +kernel
theorem dX5_layAll_144 : decode cX5_layAll 144 = .ok (.goto 25, 3) := by decide +kernel
theorem dX5_layAll_147 : decode cX5_layAll 147 = .ok (.iload 4, 2) := by decide +kernel
theorem dX5_layAll_149 : decode cX5_layAll 149 = .ok (.iload 7, 2) := by decide +kernel
theorem dX5_layAll_151 : decode cX5_layAll 151 = .ok (.iadd, 1) := by decide +kernel
theorem dX5_layAll_152 : decode cX5_layAll 152 = .ok (.aload_n 0, 1) := by decide +kernel
theorem dX5_layAll_153 : decode cX5_layAll 153 = .ok (.getfield 48, 3) := by decide +kernel
theorem dX5_layAll_156 : decode cX5_layAll 156 = .ok (.if_icmp .le 13, 3) := by decide +kernel
theorem dX5_layAll_159 : decode cX5_layAll 159 = .ok (.iload_n 2, 1) := by decide +kernel
theorem dX5_layAll_160 : decode cX5_layAll 160 = .ok (.iload_n 3, 1) := by decide +kernel
theorem dX5_layAll_161 : decode cX5_layAll 161 = .ok (.iadd, 1) := by decide +kernel
theorem dX5_layAll_162 : decode cX5_layAll 162 = .ok (.istore_n 2, 1) := by decide +kernel
theorem dX5_layAll_163 : decode cX5_layAll 163 = .ok (.iload 6, 2) := by decide +kernel
theorem dX5_layAll_165 : decode cX5_layAll 165 = .ok (.istore_n 3, 1) := by decide +kernel
theorem dX5_layAll_166 : decode cX5_layAll 166 = .ok (.iconst 0, 1) := by decide +kernel
theorem dX5_layAll_167 : decode cX5_layAll 167 = .ok (.istore 4, 2) := by decide +kernel
theorem dX5_layAll_169 : decode cX5_layAll 169 = .ok (.aload_n 0, 1) := by decide +kernel
theorem dX5_layAll_170 : decode cX5_layAll 170 = .ok (.getfield 69, 3) := by decide +kernel
theorem dX5_layAll_173 : decode cX5_layAll 173 = .ok (.iload 5, 2) := by decide +kernel
theorem dX5_layAll_175 : decode cX5_layAll 175 = .ok (.sipush 10000, 3) := by decide +kernel
theorem dX5_layAll_178 : decode cX5_layAll 178 = .ok (.aload_n 0, 1) := by decide +kernel
theorem dX5_layAll_179 : decode cX5_layAll 179 = .ok (.getfield 160, 3) := by decide +kernel
theorem dX5_layAll_182 : decode cX5_layAll 182 = .ok (.iconst 1, 1) := by decide +kernel
theorem dX5_layAll_183 : decode cX5_layAll 183 = .ok (.isub, 1) := by decide +kernel
theorem dX5_layAll_184 : decode cX5_layAll 184 = .ok (.imul, 1) := by decide +kernel
theorem dX5_layAll_185 : decode cX5_layAll 185 = .ok (.bipush 100, 2) := by decide +kernel
theorem dX5_layAll_187 : decode cX5_layAll 187 = .ok (.iload_n 2, 1) := by decide +kernel
theorem dX5_layAll_188 : decode cX5_layAll 188 = .ok (.imul, 1) := by decide +kernel
theorem dX5_layAll_189 : decode cX5_layAll 189 = .ok (.iadd, 1) := by decide +kernel
theorem dX5_layAll_190 : decode cX5_layAll 190 = .ok (.iload 4, 2) := by decide +kernel
theorem dX5_layAll_192 : decode cX5_layAll 192 = .ok (.iadd, 1) := by decide +kernel
theorem dX5_layAll_193 : decode cX5_layAll 193 = .ok (.iastore, 1) := by decide +kernel
theorem dX5_layAll_194 : decode cX5_layAll 194 = .ok (.iload 4, 2) := by decide +kernel
theorem dX5_layAll_196 : decode cX5_layAll 196 = .ok (.iload 7, 2) := by decide +kernel
theorem dX5_layAll_198 : decode cX5_layAll 198 = .ok (.iadd, 1) := by decide +kernel
theorem dX5_layAll_199 : decode cX5_layAll 199 = .ok (.istore 4, 2) := by decide +kernel
theorem dX5_layAll_201 : decode cX5_layAll 201 = .ok (.aload_n 0, 1) := by decide +kernel
theorem dX5_layAll_202 : decode cX5_layAll 202 = .ok (.dup, 1) := by decide +kernel
theorem dX5_layAll_203 : decode cX5_layAll 203 = .ok (.getfield 163, 3) := by decide +kernel
theorem dX5_layAll_206 : decode cX5_layAll 206 = .ok (.aload_n 0, 1) := by decide +kernel
theorem dX5_layAll_207 : decode cX5_layAll 207 = .ok (.getfield 17, 3) := by decide +kernel
theorem dX5_layAll_210 : decode cX5_layAll 210 = .ok (.iload 5, 2) := by decide +kernel
theorem dX5_layAll_212 : decode cX5_layAll 212 = .ok (.iaload, 1) := by decide +kernel
theorem dX5_layAll_213 : decode cX5_layAll 213 = .ok (.iadd, 1) := by decide +kernel
theorem dX5_layAll_214 : decode cX5_layAll 214 = .ok (.putfield 163, 3) := by decide +kernel
theorem dX5_layAll_217 : decode cX5_layAll 217 = .ok (.aload_n 0, 1) := by decide +kernel
theorem dX5_layAll_218 : decode cX5_layAll 218 = .ok (.iload_n 1, 1) := by decide +kernel
theorem dX5_layAll_219 : decode cX5_layAll 219 = .ok (.invokevirtual 166, 3) := by decide +kernel
theorem dX5_layAll_222 : decode cX5_layAll 222 = .ok (.istore 5, 2) := by decide +kernel
theorem dX5_layAll_224 : decode cX5_layAll 224 = .ok (.goto (-177), 3) := by decide +kernel
theorem dX5_layAll_227 : decode cX5_layAll 227 = .ok (.return_, 1) := by decide +kernel
set_option maxRecDepth 20000 in
theorem ggX5_sheets_X5_in : GoodIn wsX5_sheets wsX5_in := goodIn_r _ [5] (by decide +kernel) (by decide +kernel)
set_option maxRecDepth 20000 in
theorem gX5_sheets_X5_in : GoodIn wsX5_sheets (va_wsS RX5 82 yX5_in wsX5_in) := goodIn_app (goodIn_of _ (by decide +kernel)) ggX5_sheets_X5_in
set_option maxRecDepth 20000 in
theorem ggX5_sheets_X5_goesWell : GoodIn wsX5_sheets wsX5_goesWell := goodIn_r _ [9, 10, 31, 32, 33, 34, 35, 36, 37, 38, 39, 40, 41, 42, 43, 44, 45, 46, 47, 48, 49, 50, 51, 52, 53, 54] (by decide +kernel) (by decide +kernel)
set_option maxRecDepth 20000 in
theorem gX5_sheets_X5_goesWell : GoodIn wsX5_sheets (wsV RX5 119 RX5 yX5_goesWell wsX5_goesWell) := goodIn_app (goodIn_of _ (by decide +kernel)) ggX5_sheets_X5_goesWell
set_option maxRecDepth 20000 in
theorem ggX5_sheets_X5_layAll : GoodIn wsX5_sheets wsX5_layAll := goodIn_r _ [14, 1, 15, 16, 17, 18, 19, 20, 21, 22, 23, 4, 24, 25, 26, 27, 28, 29, 30, 31, 32, 33, 34, 35, 36, 37, 38, 39, 40, 41, 42, 43, 44, 45, 46, 47, 48, 49, 50, 51, 52, 53, 54] (by decide +kernel) (by decide +kernel)
set_option maxRecDepth 20000 in
theorem gX5_sheets_X5_layAll : GoodIn wsX5_sheets (wsV RX5 170 RX5 yX5_layAll wsX5_layAll) := goodIn_app (goodIn_of _ (by decide +kernel)) ggX5_sheets_X5_layAll
theorem dX5_sheets_0 : decode cX5_sheets 0 = .ok (.aload_n 0, 1) := by decide +kernel
theorem dX5_sheets_1 : decode cX5_sheets 1 = .ok (.iload_n 1, 1) := by decide +kernel
theorem dX5_sheets_2 : decode cX5_sheets 2 = .ok (.iconst 0, 1) := by decide +kernel
theorem dX5_sheets_3 : decode cX5_sheets 3 = .ok (.bipush 7, 2) := by decide +kernel
theorem dX5_sheets_5 : decode cX5_sheets 5 = .ok (.invokestatic 82, 3) := by decide +kernel
theorem dX5_sheets_8 : decode cX5_sheets 8 = .ok (.ifCond .eq 7, 3) := by decide +kernel
theorem dX5_sheets_11 : decode cX5_sheets 11 = .ok (.iconst 0, 1) := by decide +kernel
theorem dX5_sheets_12 : decode cX5_sheets 12 = .ok (.goto 4, 3) := by decide +kernel
theorem dX5_sheets_15 : decode cX5_sheets 15 = .ok (.iconst 1, 1) := by decide +kernel
theorem dX5_sheets_16 : decode cX5_sheets 16 = .ok (.invokevirtual 119, 3) := by decide +kernel
theorem dX5_sheets_19 : decode cX5_sheets 19 = .ok (.ifCond .ne 5, 3) := by decide +kernel
theorem dX5_sheets_22 : decode cX5_sheets 22 = .ok (.iconst 0, 1) := by decide +kernel
theorem dX5_sheets_23 : decode cX5_sheets 23 = .ok (.ireturn, 1) := by decide +kernel
theorem dX5_sheets_24 : decode cX5_sheets 24 = .ok (.aload_n 0, 1) := by decide +kernel
theorem dX5_sheets_25 : decode cX5_sheets 25 = .ok (.iload_n 1, 1) := by decide +kernel
theorem dX5_sheets_26 : decode cX5_sheets 26 = .ok (.invokevirtual 170, 3) := by decide +kernel
theorem dX5_sheets_29 : decode cX5_sheets 29 = .ok (.aload_n 0, 1) := by decide +kernel
theorem dX5_sheets_30 : decode cX5_sheets 30 = .ok (.getfield 160, 3) := by decide +kernel
theorem dX5_sheets_33 : decode cX5_sheets 33 = .ok (.ireturn, 1) := by decide +kernel
set_option maxRecDepth 20000 in
theorem ggX5_laid_X5_isPiece : GoodIn wsX5_laid wsX5_isPiece := goodIn_r _ [7, 8, 9, 10, 11, 6, 12, 35, 36, 37, 38, 39, 40, 41, 42, 43, 44, 45, 46, 47, 48, 49, 50, 51, 52, 53, 54, 55, 56, 57, 58] (by decide +kernel) (by decide +kernel)
set_option maxRecDepth 20000 in
theorem gX5_laid_X5_isPiece : GoodIn wsX5_laid (wsV RX5 109 RX5 yX5_isPiece wsX5_isPiece) := goodIn_app (goodIn_of _ (by decide +kernel)) ggX5_laid_X5_isPiece
set_option maxRecDepth 20000 in
theorem ggX5_laid_X5_goesWell : GoodIn wsX5_laid wsX5_goesWell := goodIn_r _ [16, 17, 35, 36, 37, 38, 39, 40, 41, 42, 43, 44, 45, 46, 47, 48, 49, 50, 51, 52, 53, 54, 55, 56, 57, 58] (by decide +kernel) (by decide +kernel)
set_option maxRecDepth 20000 in
theorem gX5_laid_X5_goesWell : GoodIn wsX5_laid (wsV RX5 119 RX5 yX5_goesWell wsX5_goesWell) := goodIn_app (goodIn_of _ (by decide +kernel)) ggX5_laid_X5_goesWell
set_option maxRecDepth 20000 in
theorem ggX5_laid_X5_layAll : GoodIn wsX5_laid wsX5_layAll := goodIn_r _ [21, 22, 23, 8, 24, 2, 25, 9, 26, 27, 28, 6, 29, 1, 30, 31, 32, 33, 34, 35, 36, 37, 38, 39, 40, 41, 42, 43, 44, 45, 46, 47, 48, 49, 50, 51, 52, 53, 54, 55, 56, 57, 58] (by decide +kernel) (by decide +kernel)
set_option maxRecDepth 20000 in
theorem gX5_laid_X5_layAll : GoodIn wsX5_laid (wsV RX5 170 RX5 yX5_layAll wsX5_layAll) := goodIn_app (goodIn_of _ (by decide +kernel)) ggX5_laid_X5_layAll
theorem dX5_laid_0 : decode cX5_laid 0 = .ok (.aload_n 0, 1) := by decide +kernel
theorem dX5_laid_1 : decode cX5_laid 1 = .ok (.aload_n 0, 1) := by decide +kernel
theorem dX5_laid_2 : decode cX5_laid 2 = .ok (.iload_n 1, 1) := by decide +kernel
theorem dX5_laid_3 : decode cX5_laid 3 = .ok (.invokevirtual 109, 3) := by decide +kernel
theorem dX5_laid_6 : decode cX5_laid 6 = .ok (.ifCond .eq 7, 3) := by decide +kernel
theorem dX5_laid_9 : decode cX5_laid 9 = .ok (.iconst 0, 1) := by decide +kernel
theorem dX5_laid_10 : decode cX5_laid 10 = .ok (.goto 4, 3) := by decide +kernel
theorem dX5_laid_13 : decode cX5_laid 13 = .ok (.iconst 1, 1) := by decide +kernel
theorem dX5_laid_14 : decode cX5_laid 14 = .ok (.invokevirtual 119, 3) := by decide +kernel
theorem dX5_laid_17 : decode cX5_laid 17 = .ok (.ifCond .ne 5, 3) := by decide +kernel
theorem dX5_laid_20 : decode cX5_laid 20 = .ok (.iconst 0, 1) := by decide +kernel
theorem dX5_laid_21 : decode cX5_laid 21 = .ok (.ireturn, 1) := by decide +kernel
theorem dX5_laid_22 : decode cX5_laid 22 = .ok (.aload_n 0, 1) := by decide +kernel
theorem dX5_laid_23 : decode cX5_laid 23 = .ok (.aload_n 0, 1) := by decide +kernel
theorem dX5_laid_24 : decode cX5_laid 24 = .ok (.getfield 20, 3) := by decide +kernel
theorem dX5_laid_27 : decode cX5_laid 27 = .ok (.iload_n 1, 1) := by decide +kernel
theorem dX5_laid_28 : decode cX5_laid 28 = .ok (.iaload, 1) := by decide +kernel
theorem dX5_laid_29 : decode cX5_laid 29 = .ok (.invokevirtual 170, 3) := by decide +kernel
theorem dX5_laid_32 : decode cX5_laid 32 = .ok (.aload_n 0, 1) := by decide +kernel
theorem dX5_laid_33 : decode cX5_laid 33 = .ok (.getfield 69, 3) := by decide +kernel
theorem dX5_laid_36 : decode cX5_laid 36 = .ok (.iload_n 1, 1) := by decide +kernel
theorem dX5_laid_37 : decode cX5_laid 37 = .ok (.iaload, 1) := by decide +kernel
theorem dX5_laid_38 : decode cX5_laid 38 = .ok (.ireturn, 1) := by decide +kernel
set_option maxRecDepth 20000 in
theorem ggX5_waste_X5_in : GoodIn wsX5_waste wsX5_in := goodIn_r _ [7] (by decide +kernel) (by decide +kernel)
set_option maxRecDepth 20000 in
theorem gX5_waste_X5_in : GoodIn wsX5_waste (va_wsS RX5 82 yX5_in wsX5_in) := goodIn_app (goodIn_of _ (by decide +kernel)) ggX5_waste_X5_in
set_option maxRecDepth 20000 in
theorem ggX5_waste_X5_goesWell : GoodIn wsX5_waste wsX5_goesWell := goodIn_r _ [11, 12, 31, 32, 33, 34, 35, 36, 37, 38, 39, 40, 41, 42, 43, 44, 45, 46, 47, 48, 49, 50, 51, 52, 53, 54] (by decide +kernel) (by decide +kernel)
set_option maxRecDepth 20000 in
theorem gX5_waste_X5_goesWell : GoodIn wsX5_waste (wsV RX5 119 RX5 yX5_goesWell wsX5_goesWell) := goodIn_app (goodIn_of _ (by decide +kernel)) ggX5_waste_X5_goesWell
set_option maxRecDepth 20000 in
theorem ggX5_waste_X5_layAll : GoodIn wsX5_waste wsX5_layAll := goodIn_r _ [16, 1, 3, 17, 18, 19, 2, 20, 21, 22, 23, 6, 24, 25, 26, 27, 28, 29, 30, 31, 32, 33, 34, 35, 36, 37, 38, 39, 40, 41, 42, 43, 44, 45, 46, 47, 48, 49, 50, 51, 52, 53, 54] (by decide +kernel) (by decide +kernel)
set_option maxRecDepth 20000 in
theorem gX5_waste_X5_layAll : GoodIn wsX5_waste (wsV RX5 170 RX5 yX5_layAll wsX5_layAll) := goodIn_app (goodIn_of _ (by decide +kernel)) ggX5_waste_X5_layAll
theorem dX5_waste_0 : decode cX5_waste 0 = .ok (.aload_n 0, 1) := by decide +kernel
theorem dX5_waste_1 : decode cX5_waste 1 = .ok (.iload_n 1, 1) := by decide +kernel
theorem dX5_waste_2 : decode cX5_waste 2 = .ok (.iconst 0, 1) := by decide +kernel
theorem dX5_waste_3 : decode cX5_waste 3 = .ok (.bipush 7, 2) := by decide +kernel
theorem dX5_waste_5 : decode cX5_waste 5 = .ok (.invokestatic 82, 3) := by decide +kernel
theorem dX5_waste_8 : decode cX5_waste 8 = .ok (.ifCond .eq 7, 3) := by decide +kernel
theorem dX5_waste_11 : decode cX5_waste 11 = .ok (.iconst 0, 1) := by decide +kernel
theorem dX5_waste_12 : decode cX5_waste 12 = .ok (.goto 4, 3) := by decide +kernel
theorem dX5_waste_15 : decode cX5_waste 15 = .ok (.iconst 1, 1) := by decide +kernel
theorem dX5_waste_16 : decode cX5_waste 16 = .ok (.invokevirtual 119, 3) := by decide +kernel
theorem dX5_waste_19 : decode cX5_waste 19 = .ok (.ifCond .ne 5, 3) := by decide +kernel
theorem dX5_waste_22 : decode cX5_waste 22 = .ok (.iconst 0, 1) := by decide +kernel
theorem dX5_waste_23 : decode cX5_waste 23 = .ok (.ireturn, 1) := by decide +kernel
theorem dX5_waste_24 : decode cX5_waste 24 = .ok (.aload_n 0, 1) := by decide +kernel
theorem dX5_waste_25 : decode cX5_waste 25 = .ok (.iload_n 1, 1) := by decide +kernel
theorem dX5_waste_26 : decode cX5_waste 26 = .ok (.invokevirtual 170, 3) := by decide +kernel
theorem dX5_waste_29 : decode cX5_waste 29 = .ok (.aload_n 0, 1) := by decide +kernel
theorem dX5_waste_30 : decode cX5_waste 30 = .ok (.getfield 160, 3) := by decide +kernel
theorem dX5_waste_33 : decode cX5_waste 33 = .ok (.bipush 20, 2) := by decide +kernel
theorem dX5_waste_35 : decode cX5_waste 35 = .ok (.imul, 1) := by decide +kernel
theorem dX5_waste_36 : decode cX5_waste 36 = .ok (.aload_n 0, 1) := by decide +kernel
theorem dX5_waste_37 : decode cX5_waste 37 = .ok (.getfield 48, 3) := by decide +kernel
theorem dX5_waste_40 : decode cX5_waste 40 = .ok (.imul, 1) := by decide +kernel
theorem dX5_waste_41 : decode cX5_waste 41 = .ok (.aload_n 0, 1) := by decide +kernel
theorem dX5_waste_42 : decode cX5_waste 42 = .ok (.getfield 163, 3) := by decide +kernel
theorem dX5_waste_45 : decode cX5_waste 45 = .ok (.isub, 1) := by decide +kernel
theorem dX5_waste_46 : decode cX5_waste 46 = .ok (.ireturn, 1) := by decide +kernel
theorem dX5_floorDiv_0 : decode cX5_floorDiv 0 = .ok (.iload_n 0, 1) := by decide +kernel
theorem dX5_floorDiv_1 : decode cX5_floorDiv 1 = .ok (.ifCond .lt 9, 3) := by decide +kernel
theorem dX5_floorDiv_4 : decode cX5_floorDiv 4 = .ok (.iload_n 0, 1) := by decide +kernel
theorem dX5_floorDiv_5 : decode cX5_floorDiv 5 = .ok (.iload_n 1, 1) := by decide +kernel
theorem dX5_floorDiv_6 : decode cX5_floorDiv 6 = .ok (.idiv, 1) := by decide +kernel
theorem dX5_floorDiv_7 : decode cX5_floorDiv 7 = .ok (.goto 12, 3) := by decide +kernel
theorem dX5_floorDiv_10 : decode cX5_floorDiv 10 = .ok (.iload_n 0, 1) := by decide +kernel
theorem dX5_floorDiv_11 : decode cX5_floorDiv 11 = .ok (.ineg, 1) := by decide +kernel
theorem dX5_floorDiv_12 : decode cX5_floorDiv 12 = .ok (.iload_n 1, 1) := by decide +kernel
theorem dX5_floorDiv_13 : decode cX5_floorDiv 13 = .ok (.iadd, 1) := by decide +kernel
theorem dX5_floorDiv_14 : decode cX5_floorDiv 14 = .ok (.iconst 1, 1) := by decide +kernel
theorem dX5_floorDiv_15 : decode cX5_floorDiv 15 = .ok (.isub, 1) := by decide +kernel
theorem dX5_floorDiv_16 : decode cX5_floorDiv 16 = .ok (.iload_n 1, 1) := by decide +kernel
theorem dX5_floorDiv_17 : decode cX5_floorDiv 17 = .ok (.idiv, 1) := by decide +kernel
theorem dX5_floorDiv_18 : decode cX5_floorDiv 18 = .ok (.ineg, 1) := by decide +kernel
theorem dX5_floorDiv_19 : decode cX5_floorDiv 19 = .ok (.ireturn, 1) := by decide +kernel
set_option maxRecDepth 20000 in
theorem ggX5_shown_X5_floorDiv : GoodIn wsX5_shown wsX5_floorDiv := goodIn_r _ [6] (by decide +kernel) (by decide +kernel)
set_option maxRecDepth 20000 in
theorem gX5_shown_X5_floorDiv : GoodIn wsX5_shown (va_wsS RX5 174 yX5_floorDiv wsX5_floorDiv) := goodIn_app (goodIn_of _ (by decide +kernel)) ggX5_shown_X5_floorDiv
theorem dX5_shown_0 : decode cX5_shown 0 = .ok (.iload_n 3, 1) := by decide +kernel
theorem dX5_shown_1 : decode cX5_shown 1 = .ok (.bipush 12, 2) := by decide +kernel
theorem dX5_shown_3 : decode cX5_shown 3 = .ok (.if_icmp .ge 10, 3) := by decide +kernel
theorem dX5_shown_6 : decode cX5_shown 6 = .ok (.bipush 12, 2) := by decide +kernel
theorem dX5_shown_8 : decode cX5_shown 8 = .ok (.iload_n 3, 1) := by decide +kernel
theorem dX5_shown_9 : decode cX5_shown 9 = .ok (.isub, 1) := by decide +kernel
theorem dX5_shown_10 : decode cX5_shown 10 = .ok (.goto 7, 3) := by decide +kernel
theorem dX5_shown_13 : decode cX5_shown 13 = .ok (.iload_n 3, 1) := by decide +kernel
theorem dX5_shown_14 : decode cX5_shown 14 = .ok (.bipush 12, 2) := by decide +kernel
theorem dX5_shown_16 : decode cX5_shown 16 = .ok (.isub, 1) := by decide +kernel
theorem dX5_shown_17 : decode cX5_shown 17 = .ok (.istore 4, 2) := by decide +kernel
theorem dX5_shown_19 : decode cX5_shown 19 = .ok (.iconst 0, 1) := by decide +kernel
theorem dX5_shown_20 : decode cX5_shown 20 = .ok (.istore 5, 2) := by decide +kernel
theorem dX5_shown_22 : decode cX5_shown 22 = .ok (.iconst 0, 1) := by decide +kernel
theorem dX5_shown_23 : decode cX5_shown 23 = .ok (.istore 6, 2) := by decide +kernel
theorem dX5_shown_25 : decode cX5_shown 25 = .ok (.iload 6, 2) := by decide +kernel
theorem dX5_shown_27 : decode cX5_shown 27 = .ok (.sipush 256, 3) := by decide +kernel
theorem dX5_shown_30 : decode cX5_shown 30 = .ok (.if_icmp .ge 90, 3) := by decide +kernel
theorem dX5_shown_33 : decode cX5_shown 33 = .ok (.iconst 4, 1) := by decide +kernel
theorem dX5_shown_34 : decode cX5_shown 34 = .ok (.bipush 16, 2) := by decide +kernel
theorem dX5_shown_36 : decode cX5_shown 36 = .ok (.iload 6, 2) := by decide +kernel
theorem dX5_shown_38 : decode cX5_shown 38 = .ok (.bipush 16, 2) := by decide +kernel
theorem dX5_shown_40 : decode cX5_shown 40 = .ok (.idiv, 1) := by decide +kernel
theorem dX5_shown_41 : decode cX5_shown 41 = .ok (.isub, 1) := by decide +kernel
theorem dX5_shown_42 : decode cX5_shown 42 = .ok (.imul, 1) := by decide +kernel
theorem dX5_shown_43 : decode cX5_shown 43 = .ok (.bipush 6, 2) := by decide +kernel
theorem dX5_shown_45 : decode cX5_shown 45 = .ok (.iload 4, 2) := by decide +kernel
theorem dX5_shown_47 : decode cX5_shown 47 = .ok (.isub, 1) := by decide +kernel
theorem dX5_shown_48 : decode cX5_shown 48 = .ok (.idiv, 1) := by decide +kernel
theorem dX5_shown_49 : decode cX5_shown 49 = .ok (.istore 7, 2) := by decide +kernel
theorem dX5_shown_51 : decode cX5_shown 51 = .ok (.iload 7, 2) := by decide +kernel
theorem dX5_shown_53 : decode cX5_shown 53 = .ok (.iload_n 1, 1) := by decide +kernel
theorem dX5_shown_54 : decode cX5_shown 54 = .ok (.if_icmp .ne 29, 3) := by decide +kernel
theorem dX5_shown_57 : decode cX5_shown 57 = .ok (.iload 6, 2) := by decide +kernel
theorem dX5_shown_59 : decode cX5_shown 59 = .ok (.bipush 16, 2) := by decide +kernel
theorem dX5_shown_61 : decode cX5_shown 61 = .ok (.irem, 1) := by decide +kernel
theorem dX5_shown_62 : decode cX5_shown 62 = .ok (.iload_n 3, 1) := by decide +kernel
theorem dX5_shown_63 : decode cX5_shown 63 = .ok (.bipush 12, 2) := by decide +kernel
theorem dX5_shown_65 : decode cX5_shown 65 = .ok (.isub, 1) := by decide +kernel
theorem dX5_shown_66 : decode cX5_shown 66 = .ok (.iload 7, 2) := by decide +kernel
theorem dX5_shown_68 : decode cX5_shown 68 = .ok (.imul, 1) := by decide +kernel
theorem dX5_shown_69 : decode cX5_shown 69 = .ok (.bipush 8, 2) := by decide +kernel
theorem dX5_shown_71 : decode cX5_shown 71 = .ok (.invokestatic 174, 3) := by decide +kernel
theorem dX5_shown_74 : decode cX5_shown 74 = .ok (.iadd, 1) := by decide +kernel
theorem dX5_shown_75 : decode cX5_shown 75 = .ok (.iload_n 2, 1) := by decide +kernel
theorem dX5_shown_76 : decode cX5_shown 76 = .ok (.if_icmp .ne 7, 3) := by decide +kernel
theorem dX5_shown_79 : decode cX5_shown 79 = .ok (.iconst 1, 1) := by decide +kernel
theorem dX5_shown_80 : decode cX5_shown 80 = .ok (.goto 4, 3) := by decide +kernel
theorem dX5_shown_83 : decode cX5_shown 83 = .ok (.iconst 0, 1) := by decide +kernel
theorem dX5_shown_84 : decode cX5_shown 84 = .ok (.istore 8, 2) := by decide +kernel
theorem dX5_shown_86 : decode cX5_shown 86 = .ok (.iload 5, 2) := by decide +kernel
theorem dX5_shown_88 : decode cX5_shown 88 = .ok (.iload 8, 2) := by decide +kernel
theorem dX5_shown_90 : decode cX5_shown 90 = .ok (.ifCond .eq 20, 3) := by decide +kernel
theorem dX5_shown_93 : decode cX5_shown 93 = .ok (.iconst 1, 1) := by decide +kernel
theorem dX5_shown_94 : decode cX5_shown 94 = .ok (.aload_n 0, 1) := by decide +kernel
theorem dX5_shown_95 : decode cX5_shown 95 = .ok (.getfield 20, 3) := by decide +kernel
theorem dX5_shown_98 : decode cX5_shown 98 = .ok (.aload_n 0, 1) := by decide +kernel
theorem dX5_shown_99 : decode cX5_shown 99 = .ok (.getfield 13, 3) := by decide +kernel
theorem dX5_shown_102 : decode cX5_shown 102 = .ok (.iload 6, 2) := by decide +kernel
theorem dX5_shown_104 : decode cX5_shown 104 = .ok (.iaload, 1) := by decide +kernel
theorem dX5_shown_105 : decode cX5_shown 105 = .ok (.iaload, 1) := by decide +kernel
theorem dX5_shown_106 : decode cX5_shown 106 = .ok (.ishl, 1) := by decide +kernel
theorem dX5_shown_107 : decode cX5_shown 107 = .ok (.goto 4, 3) := by decide +kernel
theorem dX5_shown_110 : decode cX5_shown 110 = .ok (.iconst 0, 1) := by decide +kernel
theorem dX5_shown_111 : decode cX5_shown 111 = .ok (.ior, 1) := by decide +kernel
theorem dX5_shown_112 : decode cX5_shown 112 = .ok (.istore 5, 2) := by decide +kernel
theorem dX5_shown_114 : decode cX5_shown 114 = .ok (.iinc 6 1, 3) := by decide +kernel
theorem dX5_shown_117 : decode cX5_shown 117 = .ok (.goto (-92), 3) := by decide +kernel
theorem dX5_shown_120 : decode cX5_shown 120 = .ok (.iload 5, 2) := by decide +kernel
theorem dX5_shown_122 : decode cX5_shown 122 = .ok (.ireturn, 1) := by decide +kernel
set_option maxRecDepth 20000 in
theorem ggX5_floor_X5_in : GoodIn wsX5_floor wsX5_in := goodIn_r _ [4] (by decide +kernel) (by decide +kernel)
set_option maxRecDepth 20000 in
theorem gX5_floor_X5_in : GoodIn wsX5_floor (va_wsS RX5 82 yX5_in wsX5_in) := goodIn_app (goodIn_of _ (by decide +kernel)) ggX5_floor_X5_in
set_option maxRecDepth 20000 in
theorem ggX5_floor_X5_goesWell : GoodIn wsX5_floor wsX5_goesWell := goodIn_r _ [8, 9, 19, 20, 21, 22, 23, 24, 25, 26, 27, 28, 29, 30, 31, 32, 33, 34, 35, 36, 37, 38, 39, 40, 41, 42] (by decide +kernel) (by decide +kernel)
set_option maxRecDepth 20000 in
theorem gX5_floor_X5_goesWell : GoodIn wsX5_floor (wsV RX5 119 RX5 yX5_goesWell wsX5_goesWell) := goodIn_app (goodIn_of _ (by decide +kernel)) ggX5_floor_X5_goesWell
set_option maxRecDepth 20000 in
theorem ggX5_floor_X5_shown : GoodIn wsX5_floor wsX5_shown := goodIn_r _ [13, 14, 15, 16, 17, 3, 18, 19, 20, 21, 22, 23, 24, 25, 26, 27, 28, 29, 30, 31, 32, 33, 34, 35, 36, 37, 38, 39, 40, 41, 42] (by decide +kernel) (by decide +kernel)
set_option maxRecDepth 20000 in
theorem gX5_floor_X5_shown : GoodIn wsX5_floor (wsV RX5 177 RX5 yX5_shown wsX5_shown) := goodIn_app (goodIn_of _ (by decide +kernel)) ggX5_floor_X5_shown
theorem dX5_floor_0 : decode cX5_floor 0 = .ok (.aload_n 0, 1) := by decide +kernel
theorem dX5_floor_1 : decode cX5_floor 1 = .ok (.iload_n 3, 1) := by decide +kernel
theorem dX5_floor_2 : decode cX5_floor 2 = .ok (.bipush 7, 2) := by decide +kernel
theorem dX5_floor_4 : decode cX5_floor 4 = .ok (.bipush 17, 2) := by decide +kernel
theorem dX5_floor_6 : decode cX5_floor 6 = .ok (.invokestatic 82, 3) := by decide +kernel
theorem dX5_floor_9 : decode cX5_floor 9 = .ok (.ifCond .eq 7, 3) := by decide +kernel
theorem dX5_floor_12 : decode cX5_floor 12 = .ok (.iconst 0, 1) := by decide +kernel
theorem dX5_floor_13 : decode cX5_floor 13 = .ok (.goto 4, 3) := by decide +kernel
theorem dX5_floor_16 : decode cX5_floor 16 = .ok (.iconst 1, 1) := by decide +kernel
theorem dX5_floor_17 : decode cX5_floor 17 = .ok (.invokevirtual 119, 3) := by decide +kernel
theorem dX5_floor_20 : decode cX5_floor 20 = .ok (.ifCond .eq 13, 3) := by decide +kernel
theorem dX5_floor_23 : decode cX5_floor 23 = .ok (.aload_n 0, 1) := by decide +kernel
theorem dX5_floor_24 : decode cX5_floor 24 = .ok (.iload_n 1, 1) := by decide +kernel
theorem dX5_floor_25 : decode cX5_floor 25 = .ok (.iload_n 2, 1) := by decide +kernel
theorem dX5_floor_26 : decode cX5_floor 26 = .ok (.iload_n 3, 1) := by decide +kernel
theorem dX5_floor_27 : decode cX5_floor 27 = .ok (.invokevirtual 177, 3) := by decide +kernel
theorem dX5_floor_30 : decode cX5_floor 30 = .ok (.goto 4, 3) := by decide +kernel
theorem dX5_floor_33 : decode cX5_floor 33 = .ok (.iconst 0, 1) := by decide +kernel
theorem dX5_floor_34 : decode cX5_floor 34 = .ok (.ireturn, 1) := by decide +kernel
set_option maxRecDepth 20000 in
theorem ggX5_floorAnew_X5_in : GoodIn wsX5_floorAnew wsX5_in := goodIn_r _ [4] (by decide +kernel) (by decide +kernel)
set_option maxRecDepth 20000 in
theorem gX5_floorAnew_X5_in : GoodIn wsX5_floorAnew (va_wsS RX5 82 yX5_in wsX5_in) := goodIn_app (goodIn_of _ (by decide +kernel)) ggX5_floorAnew_X5_in
set_option maxRecDepth 20000 in
theorem ggX5_floorAnew_X5_goesWell : GoodIn wsX5_floorAnew wsX5_goesWell := goodIn_r _ [8, 9, 19, 20, 21, 22, 23, 24, 25, 26, 27, 28, 29, 30, 31, 32, 33, 34, 35, 36, 37, 38, 39, 40, 41, 42] (by decide +kernel) (by decide +kernel)
set_option maxRecDepth 20000 in
theorem gX5_floorAnew_X5_goesWell : GoodIn wsX5_floorAnew (wsV RX5 119 RX5 yX5_goesWell wsX5_goesWell) := goodIn_app (goodIn_of _ (by decide +kernel)) ggX5_floorAnew_X5_goesWell
set_option maxRecDepth 20000 in
theorem ggX5_floorAnew_X5_shown : GoodIn wsX5_floorAnew wsX5_shown := goodIn_r _ [13, 14, 15, 16, 17, 3, 18, 19, 20, 21, 22, 23, 24, 25, 26, 27, 28, 29, 30, 31, 32, 33, 34, 35, 36, 37, 38, 39, 40, 41, 42] (by decide +kernel) (by decide +kernel)
set_option maxRecDepth 20000 in
theorem gX5_floorAnew_X5_shown : GoodIn wsX5_floorAnew (wsV RX5 177 RX5 yX5_shown wsX5_shown) := goodIn_app (goodIn_of _ (by decide +kernel)) ggX5_floorAnew_X5_shown
theorem dX5_floorAnew_0 : decode cX5_floorAnew 0 = .ok (.aload_n 0, 1) := by decide +kernel
theorem dX5_floorAnew_1 : decode cX5_floorAnew 1 = .ok (.iload_n 3, 1) := by decide +kernel
theorem dX5_floorAnew_2 : decode cX5_floorAnew 2 = .ok (.bipush 7, 2) := by decide +kernel
theorem dX5_floorAnew_4 : decode cX5_floorAnew 4 = .ok (.bipush 17, 2) := by decide +kernel
theorem dX5_floorAnew_6 : decode cX5_floorAnew 6 = .ok (.invokestatic 82, 3) := by decide +kernel
theorem dX5_floorAnew_9 : decode cX5_floorAnew 9 = .ok (.ifCond .eq 7, 3) := by decide +kernel
theorem dX5_floorAnew_12 : decode cX5_floorAnew 12 = .ok (.iconst 0, 1) := by decide +kernel
theorem dX5_floorAnew_13 : decode cX5_floorAnew 13 = .ok (.goto 4, 3) := by decide +kernel
theorem dX5_floorAnew_16 : decode cX5_floorAnew 16 = .ok (.iconst 1, 1) := by decide +kernel
theorem dX5_floorAnew_17 : decode cX5_floorAnew 17 = .ok (.invokevirtual 119, 3) := by decide +kernel
theorem dX5_floorAnew_20 : decode cX5_floorAnew 20 = .ok (.ifCond .eq 13, 3) := by decide +kernel
theorem dX5_floorAnew_23 : decode cX5_floorAnew 23 = .ok (.aload_n 0, 1) := by decide +kernel
theorem dX5_floorAnew_24 : decode cX5_floorAnew 24 = .ok (.iload_n 1, 1) := by decide +kernel
theorem dX5_floorAnew_25 : decode cX5_floorAnew 25 = .ok (.iload_n 2, 1) := by decide +kernel
theorem dX5_floorAnew_26 : decode cX5_floorAnew 26 = .ok (.iload_n 3, 1) := by decide +kernel
theorem dX5_floorAnew_27 : decode cX5_floorAnew 27 = .ok (.invokevirtual 177, 3) := by decide +kernel
theorem dX5_floorAnew_30 : decode cX5_floorAnew 30 = .ok (.goto 4, 3) := by decide +kernel
theorem dX5_floorAnew_33 : decode cX5_floorAnew 33 = .ok (.iconst 0, 1) := by decide +kernel
theorem dX5_floorAnew_34 : decode cX5_floorAnew 34 = .ok (.ireturn, 1) := by decide +kernel
set_option maxRecDepth 20000 in
theorem ggX5_crosses_X5_in : GoodIn wsX5_crosses wsX5_in := goodIn_r _ [6] (by decide +kernel) (by decide +kernel)
set_option maxRecDepth 20000 in
theorem gX5_crosses_X5_in : GoodIn wsX5_crosses (va_wsS RX5 82 yX5_in wsX5_in) := goodIn_app (goodIn_of _ (by decide +kernel)) ggX5_crosses_X5_in
set_option maxRecDepth 20000 in
theorem ggX5_crosses_X5_goesWell : GoodIn wsX5_crosses wsX5_goesWell := goodIn_r _ [10, 11, 17, 18, 19, 20, 21, 22, 23, 24, 25, 26, 27, 28, 29, 30, 31, 32, 33, 34, 35, 36, 37, 38, 39, 40] (by decide +kernel) (by decide +kernel)
set_option maxRecDepth 20000 in
theorem gX5_crosses_X5_goesWell : GoodIn wsX5_crosses (wsV RX5 119 RX5 yX5_goesWell wsX5_goesWell) := goodIn_app (goodIn_of _ (by decide +kernel)) ggX5_crosses_X5_goesWell
set_option maxRecDepth 20000 in
theorem ggX5_crosses_X5_at : GoodIn wsX5_crosses wsX5_at := goodIn_r _ [15, 16, 3, 4, 5, 6, 17, 18, 19, 20, 21, 22, 23, 24, 25, 26, 27, 28, 29, 30, 31, 32, 33, 34, 35, 36, 37, 38, 39, 40] (by decide +kernel) (by decide +kernel)
set_option maxRecDepth 20000 in
theorem gX5_crosses_X5_at : GoodIn wsX5_crosses (wsV RX5 151 RX5 yX5_at wsX5_at) := goodIn_app (goodIn_of _ (by decide +kernel)) ggX5_crosses_X5_at
theorem dX5_crosses_0 : decode cX5_crosses 0 = .ok (.aload_n 0, 1) := by decide +kernel
theorem dX5_crosses_1 : decode cX5_crosses 1 = .ok (.iload_n 1, 1) := by decide +kernel
theorem dX5_crosses_2 : decode cX5_crosses 2 = .ok (.iconst 0, 1) := by decide +kernel
theorem dX5_crosses_3 : decode cX5_crosses 3 = .ok (.bipush 14, 2) := by decide +kernel
theorem dX5_crosses_5 : decode cX5_crosses 5 = .ok (.invokestatic 82, 3) := by decide +kernel
theorem dX5_crosses_8 : decode cX5_crosses 8 = .ok (.ifCond .eq 7, 3) := by decide +kernel
theorem dX5_crosses_11 : decode cX5_crosses 11 = .ok (.iconst 0, 1) := by decide +kernel
theorem dX5_crosses_12 : decode cX5_crosses 12 = .ok (.goto 4, 3) := by decide +kernel
theorem dX5_crosses_15 : decode cX5_crosses 15 = .ok (.iconst 1, 1) := by decide +kernel
theorem dX5_crosses_16 : decode cX5_crosses 16 = .ok (.invokevirtual 119, 3) := by decide +kernel
theorem dX5_crosses_19 : decode cX5_crosses 19 = .ok (.ifCond .ne 5, 3) := by decide +kernel
theorem dX5_crosses_22 : decode cX5_crosses 22 = .ok (.iconst 0, 1) := by decide +kernel
theorem dX5_crosses_23 : decode cX5_crosses 23 = .ok (.ireturn, 1) := by decide +kernel
theorem dX5_crosses_24 : decode cX5_crosses 24 = .ok (.iconst 0, 1) := by decide +kernel
theorem dX5_crosses_25 : decode cX5_crosses 25 = .ok (.istore_n 2, 1) := by decide +kernel
theorem dX5_crosses_26 : decode cX5_crosses 26 = .ok (.iload_n 2, 1) := by decide +kernel
theorem dX5_crosses_27 : decode cX5_crosses 27 = .ok (.aload_n 0, 1) := by decide +kernel
theorem dX5_crosses_28 : decode cX5_crosses 28 = .ok (.getfield 7, 3) := by decide +kernel
theorem dX5_crosses_31 : decode cX5_crosses 31 = .ok (.if_icmp .ge 16, 3) := by decide +kernel
theorem dX5_crosses_34 : decode cX5_crosses 34 = .ok (.aload_n 0, 1) := by decide +kernel
theorem dX5_crosses_35 : decode cX5_crosses 35 = .ok (.getfield 63, 3) := by decide +kernel
theorem dX5_crosses_38 : decode cX5_crosses 38 = .ok (.iload_n 2, 1) := by decide +kernel
theorem dX5_crosses_39 : decode cX5_crosses 39 = .ok (.iconst 0, 1) := by decide +kernel
theorem dX5_crosses_40 : decode cX5_crosses 40 = .ok (.bastore, 1) := by decide +kernel
theorem dX5_crosses_41 : decode cX5_crosses 41 = .ok (.iinc 2 1, 3) := by decide +kernel
theorem dX5_crosses_44 : decode cX5_crosses 44 = .ok (.goto (-18), 3) := by decide +kernel
theorem dX5_crosses_47 : decode cX5_crosses 47 = .ok (.iconst 0, 1) := by decide +kernel
theorem dX5_crosses_48 : decode cX5_crosses 48 = .ok (.istore_n 2, 1) := by decide +kernel
theorem dX5_crosses_49 : decode cX5_crosses 49 = .ok (.iconst 0, 1) := by decide +kernel
theorem dX5_crosses_50 : decode cX5_crosses 50 = .ok (.istore_n 3, 1) := by decide +kernel
theorem dX5_crosses_51 : decode cX5_crosses 51 = .ok (.iload_n 3, 1) := by decide +kernel
theorem dX5_crosses_52 : decode cX5_crosses 52 = .ok (.bipush 16, 2) := by decide +kernel
theorem dX5_crosses_54 : decode cX5_crosses 54 = .ok (.if_icmp .ge 51, 3) := by decide +kernel
theorem dX5_crosses_57 : decode cX5_crosses 57 = .ok (.aload_n 0, 1) := by decide +kernel
theorem dX5_crosses_58 : decode cX5_crosses 58 = .ok (.iload_n 1, 1) := by decide +kernel
theorem dX5_crosses_59 : decode cX5_crosses 59 = .ok (.iload_n 3, 1) := by decide +kernel
theorem dX5_crosses_60 : decode cX5_crosses 60 = .ok (.invokevirtual 151, 3) := by decide +kernel
theorem dX5_crosses_63 : decode cX5_crosses 63 = .ok (.istore 4, 2) := by decide +kernel
theorem dX5_crosses_65 : decode cX5_crosses 65 = .ok (.iload 4, 2) := by decide +kernel
theorem dX5_crosses_67 : decode cX5_crosses 67 = .ok (.aload_n 0, 1) := by decide +kernel
theorem dX5_crosses_68 : decode cX5_crosses 68 = .ok (.iload_n 1, 1) := by decide +kernel
theorem dX5_crosses_69 : decode cX5_crosses 69 = .ok (.iconst 1, 1) := by decide +kernel
theorem dX5_crosses_70 : decode cX5_crosses 70 = .ok (.iadd, 1) := by decide +kernel
theorem dX5_crosses_71 : decode cX5_crosses 71 = .ok (.iload_n 3, 1) := by decide +kernel
theorem dX5_crosses_72 : decode cX5_crosses 72 = .ok (.invokevirtual 151, 3) := by decide +kernel
theorem dX5_crosses_75 : decode cX5_crosses 75 = .ok (.if_icmp .ne 24, 3) := by decide +kernel
theorem dX5_crosses_78 : decode cX5_crosses 78 = .ok (.aload_n 0, 1) := by decide +kernel
theorem dX5_crosses_79 : decode cX5_crosses 79 = .ok (.getfield 63, 3) := by decide +kernel
theorem dX5_crosses_82 : decode cX5_crosses 82 = .ok (.iload 4, 2) := by decide +kernel
theorem dX5_crosses_84 : decode cX5_crosses 84 = .ok (.baload, 1) := by decide +kernel
theorem dX5_crosses_85 : decode cX5_crosses 85 = .ok (.ifCond .ne 14, 3) := by decide +kernel
theorem dX5_crosses_88 : decode cX5_crosses 88 = .ok (.aload_n 0, 1) := by decide +kernel
theorem dX5_crosses_89 : decode cX5_crosses 89 = .ok (.getfield 63, 3) := by decide +kernel
theorem dX5_crosses_92 : decode cX5_crosses 92 = .ok (.iload 4, 2) := by decide +kernel
theorem dX5_crosses_94 : decode cX5_crosses 94 = .ok (.iconst 1, 1) := by decide +kernel
theorem dX5_crosses_95 : decode cX5_crosses 95 = .ok (.bastore, 1) := by decide +kernel
theorem dX5_crosses_96 : decode cX5_crosses 96 = .ok (.iinc 2 1, 3) := by decide +kernel
theorem dX5_crosses_99 : decode cX5_crosses 99 = .ok (.iinc 3 1, 3) := by decide +kernel
theorem dX5_crosses_102 : decode cX5_crosses 102 = .ok (.goto (-51), 3) := by decide +kernel
theorem dX5_crosses_105 : decode cX5_crosses 105 = .ok (.iload_n 2, 1) := by decide +kernel
theorem dX5_crosses_106 : decode cX5_crosses 106 = .ok (.ireturn, 1) := by decide +kernel
set_option maxRecDepth 20000 in
theorem ggX5_bends_X5_bars : GoodIn wsX5_bends wsX5_bars := goodIn_r _ [6, 1, 15, 16, 17, 18, 19, 20, 21, 22, 23, 24, 25, 26, 27, 28, 29, 30, 31, 32, 33, 34, 35, 36, 37, 38] (by decide +kernel) (by decide +kernel)
set_option maxRecDepth 20000 in
theorem gX5_bends_X5_bars : GoodIn wsX5_bends (wsV RX5 131 RX5 yX5_bars wsX5_bars) := goodIn_app (goodIn_of _ (by decide +kernel)) ggX5_bends_X5_bars
set_option maxRecDepth 20000 in
theorem ggX5_bends_X5_in : GoodIn wsX5_bends wsX5_in := goodIn_r _ [9] (by decide +kernel) (by decide +kernel)
set_option maxRecDepth 20000 in
theorem gX5_bends_X5_in : GoodIn wsX5_bends (va_wsS RX5 82 yX5_in wsX5_in) := goodIn_app (goodIn_of _ (by decide +kernel)) ggX5_bends_X5_in
set_option maxRecDepth 20000 in
theorem ggX5_bends_X5_goesWell : GoodIn wsX5_bends wsX5_goesWell := goodIn_r _ [13, 14, 15, 16, 17, 18, 19, 20, 21, 22, 23, 24, 25, 26, 27, 28, 29, 30, 31, 32, 33, 34, 35, 36, 37, 38] (by decide +kernel) (by decide +kernel)
set_option maxRecDepth 20000 in
theorem gX5_bends_X5_goesWell : GoodIn wsX5_bends (wsV RX5 119 RX5 yX5_goesWell wsX5_goesWell) := goodIn_app (goodIn_of _ (by decide +kernel)) ggX5_bends_X5_goesWell
theorem dX5_bends_0 : decode cX5_bends 0 = .ok (.iload_n 1, 1) := by decide +kernel
theorem dX5_bends_1 : decode cX5_bends 1 = .ok (.iconst 0, 1) := by decide +kernel
theorem dX5_bends_2 : decode cX5_bends 2 = .ok (.aload_n 0, 1) := by decide +kernel
theorem dX5_bends_3 : decode cX5_bends 3 = .ok (.invokevirtual 131, 3) := by decide +kernel
theorem dX5_bends_6 : decode cX5_bends 6 = .ok (.invokestatic 82, 3) := by decide +kernel
theorem dX5_bends_9 : decode cX5_bends 9 = .ok (.istore_n 3, 1) := by decide +kernel
theorem dX5_bends_10 : decode cX5_bends 10 = .ok (.aload_n 0, 1) := by decide +kernel
theorem dX5_bends_11 : decode cX5_bends 11 = .ok (.iload_n 3, 1) := by decide +kernel
theorem dX5_bends_12 : decode cX5_bends 12 = .ok (.ifCond .ne 7, 3) := by decide +kernel
theorem dX5_bends_15 : decode cX5_bends 15 = .ok (.iconst 1, 1) := by decide +kernel
theorem dX5_bends_16 : decode cX5_bends 16 = .ok (.goto 18, 3) := by decide +kernel
theorem dX5_bends_19 : decode cX5_bends 19 = .ok (.iload_n 2, 1) := by decide +kernel
theorem dX5_bends_20 : decode cX5_bends 20 = .ok (.iconst 0, 1) := by decide +kernel
theorem dX5_bends_21 : decode cX5_bends 21 = .ok (.bipush 9, 2) := by decide +kernel
theorem dX5_bends_23 : decode cX5_bends 23 = .ok (.invokestatic 82, 3) := by decide +kernel
theorem dX5_bends_26 : decode cX5_bends 26 = .ok (.ifCond .eq 7, 3) := by decide +kernel
theorem dX5_bends_29 : decode cX5_bends 29 = .ok (.iconst 0, 1) := by decide +kernel
theorem dX5_bends_30 : decode cX5_bends 30 = .ok (.goto 4, 3) := by decide +kernel
theorem dX5_bends_33 : decode cX5_bends 33 = .ok (.iconst 2, 1) := by decide +kernel
theorem dX5_bends_34 : decode cX5_bends 34 = .ok (.invokevirtual 119, 3) := by decide +kernel
theorem dX5_bends_37 : decode cX5_bends 37 = .ok (.ifCond .ne 5, 3) := by decide +kernel
theorem dX5_bends_40 : decode cX5_bends 40 = .ok (.iconst 0, 1) := by decide +kernel
theorem dX5_bends_41 : decode cX5_bends 41 = .ok (.ireturn, 1) := by decide +kernel
theorem dX5_bends_42 : decode cX5_bends 42 = .ok (.iconst 0, 1) := by decide +kernel
theorem dX5_bends_43 : decode cX5_bends 43 = .ok (.istore 4, 2) := by decide +kernel
theorem dX5_bends_45 : decode cX5_bends 45 = .ok (.iconst 0, 1) := by decide +kernel
theorem dX5_bends_46 : decode cX5_bends 46 = .ok (.istore 5, 2) := by decide +kernel
theorem dX5_bends_48 : decode cX5_bends 48 = .ok (.iconst 0, 1) := by decide +kernel
theorem dX5_bends_49 : decode cX5_bends 49 = .ok (.istore 6, 2) := by decide +kernel
theorem dX5_bends_51 : decode cX5_bends 51 = .ok (.iload 6, 2) := by decide +kernel
theorem dX5_bends_53 : decode cX5_bends 53 = .ok (.bipush 16, 2) := by decide +kernel
theorem dX5_bends_55 : decode cX5_bends 55 = .ok (.if_icmp .ge 52, 3) := by decide +kernel
theorem dX5_bends_58 : decode cX5_bends 58 = .ok (.iload 5, 2) := by decide +kernel
theorem dX5_bends_60 : decode cX5_bends 60 = .ok (.iload 4, 2) := by decide +kernel
theorem dX5_bends_62 : decode cX5_bends 62 = .ok (.iload_n 1, 1) := by decide +kernel
theorem dX5_bends_63 : decode cX5_bends 63 = .ok (.if_icmp .ne 7, 3) := by decide +kernel
theorem dX5_bends_66 : decode cX5_bends 66 = .ok (.iconst 1, 1) := by decide +kernel
theorem dX5_bends_67 : decode cX5_bends 67 = .ok (.goto 4, 3) := by decide +kernel
theorem dX5_bends_70 : decode cX5_bends 70 = .ok (.iconst 0, 1) := by decide +kernel
theorem dX5_bends_71 : decode cX5_bends 71 = .ok (.iadd, 1) := by decide +kernel
theorem dX5_bends_72 : decode cX5_bends 72 = .ok (.istore 5, 2) := by decide +kernel
theorem dX5_bends_74 : decode cX5_bends 74 = .ok (.iload 4, 2) := by decide +kernel
theorem dX5_bends_76 : decode cX5_bends 76 = .ok (.iload 6, 2) := by decide +kernel
theorem dX5_bends_78 : decode cX5_bends 78 = .ok (.bipush 15, 2) := by decide +kernel
theorem dX5_bends_80 : decode cX5_bends 80 = .ok (.if_icmp .ge 17, 3) := by decide +kernel
theorem dX5_bends_83 : decode cX5_bends 83 = .ok (.aload_n 0, 1) := by decide +kernel
theorem dX5_bends_84 : decode cX5_bends 84 = .ok (.getfield 51, 3) := by decide +kernel
theorem dX5_bends_87 : decode cX5_bends 87 = .ok (.iload 6, 2) := by decide +kernel
theorem dX5_bends_89 : decode cX5_bends 89 = .ok (.baload, 1) := by decide +kernel
theorem dX5_bends_90 : decode cX5_bends 90 = .ok (.ifCond .eq 7, 3) := by decide +kernel
theorem dX5_bends_93 : decode cX5_bends 93 = .ok (.iconst 1, 1) := by decide +kernel
theorem dX5_bends_94 : decode cX5_bends 94 = .ok (.goto 4, 3) := by decide +kernel
theorem dX5_bends_97 : decode cX5_bends 97 = .ok (.iconst 0, 1) := by decide +kernel
theorem dX5_bends_98 : decode cX5_bends 98 = .ok (.iadd, 1) := by decide +kernel
theorem dX5_bends_99 : decode cX5_bends 99 = .ok (.istore 4, 2) := by decide +kernel
theorem dX5_bends_101 : decode cX5_bends 101 = .ok (.iinc 6 1, 3) := by decide +kernel
theorem dX5_bends_104 : decode cX5_bends 104 = .ok (.goto (-53), 3) := by decide +kernel
theorem dX5_bends_107 : decode cX5_bends 107 = .ok (.iload_n 2, 1) := by decide +kernel
theorem dX5_bends_108 : decode cX5_bends 108 = .ok (.iload 5, 2) := by decide +kernel
theorem dX5_bends_110 : decode cX5_bends 110 = .ok (.imul, 1) := by decide +kernel
theorem dX5_bends_111 : decode cX5_bends 111 = .ok (.iload 5, 2) := by decide +kernel
theorem dX5_bends_113 : decode cX5_bends 113 = .ok (.imul, 1) := by decide +kernel
theorem dX5_bends_114 : decode cX5_bends 114 = .ok (.iload 5, 2) := by decide +kernel
theorem dX5_bends_116 : decode cX5_bends 116 = .ok (.imul, 1) := by decide +kernel
theorem dX5_bends_117 : decode cX5_bends 117 = .ok (.bipush 64, 2) := by decide +kernel
theorem dX5_bends_119 : decode cX5_bends 119 = .ok (.idiv, 1) := by decide +kernel
theorem dX5_bends_120 : decode cX5_bends 120 = .ok (.ireturn, 1) := by decide +kernel
set_option maxRecDepth 20000 in
theorem ggX5_isShut_X5_broken : GoodIn wsX5_isShut wsX5_broken := goodIn_r _ [6, 7, 8, 9, 10, 11, 12, 13, 14, 15, 16, 17, 18, 19, 20, 21, 22, 23, 24, 25, 26, 27, 28, 29, 30, 31, 32, 33] (by decide +kernel) (by decide +kernel)
set_option maxRecDepth 20000 in
theorem gX5_isShut_X5_broken : GoodIn wsX5_isShut (wsV RX5 135 RX5 yX5_broken wsX5_broken) := goodIn_app (goodIn_of _ (by decide +kernel)) ggX5_isShut_X5_broken
theorem dX5_isShut_0 : decode cX5_isShut 0 = .ok (.aload_n 0, 1) := by decide +kernel
theorem dX5_isShut_1 : decode cX5_isShut 1 = .ok (.iconst 0, 1) := by decide +kernel
theorem dX5_isShut_2 : decode cX5_isShut 2 = .ok (.putfield 79, 3) := by decide +kernel
theorem dX5_isShut_5 : decode cX5_isShut 5 = .ok (.aload_n 0, 1) := by decide +kernel
theorem dX5_isShut_6 : decode cX5_isShut 6 = .ok (.invokevirtual 135, 3) := by decide +kernel
theorem dX5_isShut_9 : decode cX5_isShut 9 = .ok (.ifCond .ne 7, 3) := by decide +kernel
theorem dX5_isShut_12 : decode cX5_isShut 12 = .ok (.iconst 1, 1) := by decide +kernel
theorem dX5_isShut_13 : decode cX5_isShut 13 = .ok (.goto 4, 3) := by decide +kernel
theorem dX5_isShut_16 : decode cX5_isShut 16 = .ok (.iconst 0, 1) := by decide +kernel
theorem dX5_isShut_17 : decode cX5_isShut 17 = .ok (.ireturn, 1) := by decide +kernel
set_option maxRecDepth 20000 in
theorem ggX5_history_X5_in : GoodIn wsX5_history wsX5_in := goodIn_r _ [7] (by decide +kernel) (by decide +kernel)
set_option maxRecDepth 20000 in
theorem gX5_history_X5_in : GoodIn wsX5_history (va_wsS RX5 82 yX5_in wsX5_in) := goodIn_app (goodIn_of _ (by decide +kernel)) ggX5_history_X5_in
set_option maxRecDepth 20000 in
theorem ggX5_history_X5_goesWell : GoodIn wsX5_history wsX5_goesWell := goodIn_r _ [11, 12, 13, 14, 15, 16, 17, 18, 19, 20, 21, 22, 23, 24, 25, 26, 27, 28, 29, 30, 31, 32, 33, 34, 35, 36] (by decide +kernel) (by decide +kernel)
set_option maxRecDepth 20000 in
theorem gX5_history_X5_goesWell : GoodIn wsX5_history (wsV RX5 119 RX5 yX5_goesWell wsX5_goesWell) := goodIn_app (goodIn_of _ (by decide +kernel)) ggX5_history_X5_goesWell
theorem dX5_history_0 : decode cX5_history 0 = .ok (.iload_n 1, 1) := by decide +kernel
theorem dX5_history_1 : decode cX5_history 1 = .ok (.iconst 0, 1) := by decide +kernel
theorem dX5_history_2 : decode cX5_history 2 = .ok (.aload_n 0, 1) := by decide +kernel
theorem dX5_history_3 : decode cX5_history 3 = .ok (.getfield 7, 3) := by decide +kernel
theorem dX5_history_6 : decode cX5_history 6 = .ok (.iconst 1, 1) := by decide +kernel
theorem dX5_history_7 : decode cX5_history 7 = .ok (.isub, 1) := by decide +kernel
theorem dX5_history_8 : decode cX5_history 8 = .ok (.invokestatic 82, 3) := by decide +kernel
theorem dX5_history_11 : decode cX5_history 11 = .ok (.ifCond .eq 11, 3) := by decide +kernel
theorem dX5_history_14 : decode cX5_history 14 = .ok (.iload_n 2, 1) := by decide +kernel
theorem dX5_history_15 : decode cX5_history 15 = .ok (.ifCond .lt 7, 3) := by decide +kernel
theorem dX5_history_18 : decode cX5_history 18 = .ok (.iconst 1, 1) := by decide +kernel
theorem dX5_history_19 : decode cX5_history 19 = .ok (.goto 4, 3) := by decide +kernel
theorem dX5_history_22 : decode cX5_history 22 = .ok (.iconst 0, 1) := by decide +kernel
theorem dX5_history_23 : decode cX5_history 23 = .ok (.istore_n 3, 1) := by decide +kernel
theorem dX5_history_24 : decode cX5_history 24 = .ok (.aload_n 0, 1) := by decide +kernel
theorem dX5_history_25 : decode cX5_history 25 = .ok (.iload_n 3, 1) := by decide +kernel
theorem dX5_history_26 : decode cX5_history 26 = .ok (.ifCond .eq 7, 3) := by decide +kernel
theorem dX5_history_29 : decode cX5_history 29 = .ok (.iconst 0, 1) := by decide +kernel
theorem dX5_history_30 : decode cX5_history 30 = .ok (.goto 4, 3) := by decide +kernel
theorem dX5_history_33 : decode cX5_history 33 = .ok (.iconst 1, 1) := by decide +kernel
theorem dX5_history_34 : decode cX5_history 34 = .ok (.invokevirtual 119, 3) := by decide +kernel
theorem dX5_history_37 : decode cX5_history 37 = .ok (.ifCond .ne 5, 3) := by decide +kernel
theorem dX5_history_40 : decode cX5_history 40 = .ok (.iconst 0, 1) := by decide +kernel
theorem dX5_history_41 : decode cX5_history 41 = .ok (.ireturn, 1) := by decide +kernel
theorem dX5_history_42 : decode cX5_history 42 = .ok (.iload_n 2, 1) := by decide +kernel
theorem dX5_history_43 : decode cX5_history 43 = .ok (.aload_n 0, 1) := by decide +kernel
theorem dX5_history_44 : decode cX5_history 44 = .ok (.getfield 39, 3) := by decide +kernel
theorem dX5_history_47 : decode cX5_history 47 = .ok (.iload_n 1, 1) := by decide +kernel
theorem dX5_history_48 : decode cX5_history 48 = .ok (.iaload, 1) := by decide +kernel
theorem dX5_history_49 : decode cX5_history 49 = .ok (.if_icmp .ge 17, 3) := by decide +kernel
theorem dX5_history_52 : decode cX5_history 52 = .ok (.aload_n 0, 1) := by decide +kernel
theorem dX5_history_53 : decode cX5_history 53 = .ok (.getfield 42, 3) := by decide +kernel
theorem dX5_history_56 : decode cX5_history 56 = .ok (.bipush 20, 2) := by decide +kernel
theorem dX5_history_58 : decode cX5_history 58 = .ok (.iload_n 1, 1) := by decide +kernel
theorem dX5_history_59 : decode cX5_history 59 = .ok (.imul, 1) := by decide +kernel
theorem dX5_history_60 : decode cX5_history 60 = .ok (.iload_n 2, 1) := by decide +kernel
theorem dX5_history_61 : decode cX5_history 61 = .ok (.iadd, 1) := by decide +kernel
theorem dX5_history_62 : decode cX5_history 62 = .ok (.iaload, 1) := by decide +kernel
theorem dX5_history_63 : decode cX5_history 63 = .ok (.goto 4, 3) := by decide +kernel
theorem dX5_history_66 : decode cX5_history 66 = .ok (.iconst (-1), 1) := by decide +kernel
theorem dX5_history_67 : decode cX5_history 67 = .ok (.ireturn, 1) := by decide +kernel
