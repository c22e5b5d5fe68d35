theorem dX5_label_35 : decode cX5_label 35 = .ok (.iconst (-1), 1) := by decide +kernel
theorem dX5_label_36 : decode cX5_label 36 = .ok (.goto 5, 3) := by decide +kernel
theorem dX5_label_39 : decode cX5_label 39 = .ok (.bipush (-2), 2) := by decide +kernel
theorem dX5_label_41 : decode cX5_label 41 = .ok (.ireturn, 1) := by decide +kernel
theorem dX5_label_42 : decode cX5_label 42 = .ok (.iload_n 1, 1) := by decide +kernel
theorem dX5_label_43 : decode cX5_label 43 = .ok (.ifCond .ne 7, 3) := by decide +kernel
theorem dX5_label_46 : decode cX5_label 46 = .ok (.iconst 1, 1) := by decide +kernel
theorem dX5_label_47 : decode cX5_label 47 = .ok (.goto 8, 3) := by decide +kernel
theorem dX5_label_50 : decode cX5_label 50 = .ok (.aload_n 0, 1) := by decide +kernel
theorem dX5_label_51 : decode cX5_label 51 = .ok (.iload_n 1, 1) := by decide +kernel
theorem dX5_label_52 : decode cX5_label 52 = .ok (.invokevirtual 156, 3) := by decide +kernel
theorem dX5_label_55 : decode cX5_label 55 = .ok (.istore_n 2, 1) := by decide +kernel
theorem dX5_label_56 : decode cX5_label 56 = .ok (.iconst 0, 1) := by decide +kernel
theorem dX5_label_57 : decode cX5_label 57 = .ok (.istore_n 3, 1) := by decide +kernel
theorem dX5_label_58 : decode cX5_label 58 = .ok (.iload_n 3, 1) := by decide +kernel
theorem dX5_label_59 : decode cX5_label 59 = .ok (.iload_n 1, 1) := by decide +kernel
theorem dX5_label_60 : decode cX5_label 60 = .ok (.if_icmp .ge 21, 3) := by decide +kernel
theorem dX5_label_63 : decode cX5_label 63 = .ok (.aload_n 0, 1) := by decide +kernel
theorem dX5_label_64 : decode cX5_label 64 = .ok (.getfield 75, 3) := by decide +kernel
theorem dX5_label_67 : decode cX5_label 67 = .ok (.aload_n 0, 1) := by decide +kernel
theorem dX5_label_68 : decode cX5_label 68 = .ok (.getfield 81, 3) := by decide +kernel
theorem dX5_label_71 : decode cX5_label 71 = .ok (.iload_n 3, 1) := by decide +kernel
theorem dX5_label_72 : decode cX5_label 72 = .ok (.iaload, 1) := by decide +kernel
theorem dX5_label_73 : decode cX5_label 73 = .ok (.iconst 0, 1) := by decide +kernel
theorem dX5_label_74 : decode cX5_label 74 = .ok (.bastore, 1) := by decide +kernel
theorem dX5_label_75 : decode cX5_label 75 = .ok (.iinc 3 1, 3) := by decide +kernel
theorem dX5_label_78 : decode cX5_label 78 = .ok (.goto (-20), 3) := by decide +kernel
theorem dX5_label_81 : decode cX5_label 81 = .ok (.iload_n 2, 1) := by decide +kernel
theorem dX5_label_82 : decode cX5_label 82 = .ok (.ifCond .ge 10, 3) := by decide +kernel
theorem dX5_label_85 : decode cX5_label 85 = .ok (.aload_n 0, 1) := by decide +kernel
theorem dX5_label_86 : decode cX5_label 86 = .ok (.iconst 0, 1) := by decide +kernel
theorem dX5_label_87 : decode cX5_label 87 = .ok (.putfield 143, 3) := by decide +kernel
theorem dX5_label_90 : decode cX5_label 90 = .ok (.iload_n 2, 1) := by decide +kernel
theorem dX5_label_91 : decode cX5_label 91 = .ok (.ireturn, 1) := by decide +kernel
theorem dX5_label_92 : decode cX5_label 92 = .ok (.aload_n 0, 1) := by decide +kernel
theorem dX5_label_93 : decode cX5_label 93 = .ok (.iload_n 2, 1) := by decide +kernel
theorem dX5_label_94 : decode cX5_label 94 = .ok (.putfield 143, 3) := by decide +kernel
theorem dX5_label_97 : decode cX5_label 97 = .ok (.aload_n 0, 1) := by decide +kernel
theorem dX5_label_98 : decode cX5_label 98 = .ok (.iload_n 1, 1) := by decide +kernel
theorem dX5_label_99 : decode cX5_label 99 = .ok (.putfield 146, 3) := by decide +kernel
theorem dX5_label_102 : decode cX5_label 102 = .ok (.aload_n 0, 1) := by decide +kernel
theorem dX5_label_103 : decode cX5_label 103 = .ok (.iconst 1, 1) := by decide +kernel
theorem dX5_label_104 : decode cX5_label 104 = .ok (.putfield 139, 3) := by decide +kernel
theorem dX5_label_107 : decode cX5_label 107 = .ok (.aload_n 0, 1) := by decide +kernel
theorem dX5_label_108 : decode cX5_label 108 = .ok (.getfield 143, 3) := by decide +kernel
theorem dX5_label_111 : decode cX5_label 111 = .ok (.ireturn, 1) := by decide +kernel
set_option maxRecDepth 20000 in
theorem ggX5_tries_X5_holds : GoodIn wsX5_tries wsX5_holds := goodIn_r _ [13, 14, 15, 16, 17, 18, 19, 20, 21, 12, 22, 23, 24, 5, 25, 26, 27, 28, 29, 1, 30, 31, 32, 33, 34, 35, 36, 37, 38, 39, 40, 41, 42, 43, 44, 45, 46, 47, 48, 49, 50, 51, 52, 53, 54, 55, 56, 57, 58, 59, 60, 61, 62, 63] (by decide +kernel) (by decide +kernel)
set_option maxRecDepth 20000 in
theorem gX5_tries_X5_holds : GoodIn wsX5_tries (wsV RX5 111 RX5 yX5_holds wsX5_holds) := goodIn_app (goodIn_of _ (by decide +kernel)) ggX5_tries_X5_holds
theorem dX5_tries_0 : decode cX5_tries 0 = .ok (.iconst 0, 1) := by decide +kernel
theorem dX5_tries_1 : decode cX5_tries 1 = .ok (.istore_n 2, 1) := by decide +kernel
theorem dX5_tries_2 : decode cX5_tries 2 = .ok (.iconst 0, 1) := by decide +kernel
theorem dX5_tries_3 : decode cX5_tries 3 = .ok (.istore_n 3, 1) := by decide +kernel
theorem dX5_tries_4 : decode cX5_tries 4 = .ok (.aload_n 0, 1) := by decide +kernel
theorem dX5_tries_5 : decode cX5_tries 5 = .ok (.getfield 78, 3) := by decide +kernel
theorem dX5_tries_8 : decode cX5_tries 8 = .ok (.aload_n 0, 1) := by decide +kernel
theorem dX5_tries_9 : decode cX5_tries 9 = .ok (.getfield 81, 3) := by decide +kernel
theorem dX5_tries_12 : decode cX5_tries 12 = .ok (.iconst 0, 1) := by decide +kernel
theorem dX5_tries_13 : decode cX5_tries 13 = .ok (.iaload, 1) := by decide +kernel
theorem dX5_tries_14 : decode cX5_tries 14 = .ok (.aload_n 0, 1) := by decide +kernel
theorem dX5_tries_15 : decode cX5_tries 15 = .ok (.getfield 69, 3) := by decide +kernel
theorem dX5_tries_18 : decode cX5_tries 18 = .ok (.aload_n 0, 1) := by decide +kernel
theorem dX5_tries_19 : decode cX5_tries 19 = .ok (.getfield 81, 3) := by decide +kernel
theorem dX5_tries_22 : decode cX5_tries 22 = .ok (.iconst 0, 1) := by decide +kernel
theorem dX5_tries_23 : decode cX5_tries 23 = .ok (.iaload, 1) := by decide +kernel
theorem dX5_tries_24 : decode cX5_tries 24 = .ok (.laload, 1) := by decide +kernel
theorem dX5_tries_25 : decode cX5_tries 25 = .ok (.lastore, 1) := by decide +kernel
theorem dX5_tries_26 : decode cX5_tries 26 = .ok (.iload_n 3, 1) := by decide +kernel
theorem dX5_tries_27 : decode cX5_tries 27 = .ok (.ifCond .lt 246, 3) := by decide +kernel
theorem dX5_tries_30 : decode cX5_tries 30 = .ok (.aload_n 0, 1) := by decide +kernel
theorem dX5_tries_31 : decode cX5_tries 31 = .ok (.getfield 149, 3) := by decide +kernel
theorem dX5_tries_34 : decode cX5_tries 34 = .ok (.sipush 5000, 3) := by decide +kernel
theorem dX5_tries_37 : decode cX5_tries 37 = .ok (.if_icmp .ne 6, 3) := by decide +kernel
theorem dX5_tries_40 : decode cX5_tries 40 = .ok (.bipush (-3), 2) := by decide +kernel
theorem dX5_tries_42 : decode cX5_tries 42 = .ok (.ireturn, 1) := by decide +kernel
theorem dX5_tries_43 : decode cX5_tries 43 = .ok (.aload_n 0, 1) := by decide +kernel
theorem dX5_tries_44 : decode cX5_tries 44 = .ok (.dup, 1) := by decide +kernel
theorem dX5_tries_45 : decode cX5_tries 45 = .ok (.getfield 149, 3) := by decide +kernel
theorem dX5_tries_48 : decode cX5_tries 48 = .ok (.iconst 1, 1) := by decide +kernel
theorem dX5_tries_49 : decode cX5_tries 49 = .ok (.iadd, 1) := by decide +kernel
theorem dX5_tries_50 : decode cX5_tries 50 = .ok (.putfield 149, 3) := by decide +kernel
theorem dX5_tries_53 : decode cX5_tries 53 = .ok (.aload_n 0, 1) := by decide +kernel
theorem dX5_tries_54 : decode cX5_tries 54 = .ok (.getfield 81, 3) := by decide +kernel
theorem dX5_tries_57 : decode cX5_tries 57 = .ok (.iload_n 3, 1) := by decide +kernel
theorem dX5_tries_58 : decode cX5_tries 58 = .ok (.iaload, 1) := by decide +kernel
theorem dX5_tries_59 : decode cX5_tries 59 = .ok (.istore 4, 2) := by decide +kernel
theorem dX5_tries_61 : decode cX5_tries 61 = .ok (.aload_n 0, 1) := by decide +kernel
theorem dX5_tries_62 : decode cX5_tries 62 = .ok (.getfield 75, 3) := by decide +kernel
theorem dX5_tries_65 : decode cX5_tries 65 = .ok (.iload 4, 2) := by decide +kernel
theorem dX5_tries_67 : decode cX5_tries 67 = .ok (.iconst 1, 1) := by decide +kernel
theorem dX5_tries_68 : decode cX5_tries 68 = .ok (.bastore, 1) := by decide +kernel
theorem dX5_tries_69 : decode cX5_tries 69 = .ok (.iconst 1, 1) := by decide +kernel
theorem dX5_tries_70 : decode cX5_tries 70 = .ok (.istore 5, 2) := by decide +kernel
theorem dX5_tries_72 : decode cX5_tries 72 = .ok (.iconst 0, 1) := by decide +kernel
theorem dX5_tries_73 : decode cX5_tries 73 = .ok (.istore 6, 2) := by decide +kernel
theorem dX5_tries_75 : decode cX5_tries 75 = .ok (.iload 6, 2) := by decide +kernel
theorem dX5_tries_77 : decode cX5_tries 77 = .ok (.aload_n 0, 1) := by decide +kernel
theorem dX5_tries_78 : decode cX5_tries 78 = .ok (.getfield 108, 3) := by decide +kernel
theorem dX5_tries_81 : decode cX5_tries 81 = .ok (.if_icmp .ge 22, 3) := by decide +kernel
theorem dX5_tries_84 : decode cX5_tries 84 = .ok (.iload 5, 2) := by decide +kernel
theorem dX5_tries_86 : decode cX5_tries 86 = .ok (.ifCond .eq 17, 3) := by decide +kernel
theorem dX5_tries_89 : decode cX5_tries 89 = .ok (.aload_n 0, 1) := by decide +kernel
theorem dX5_tries_90 : decode cX5_tries 90 = .ok (.iload 6, 2) := by decide +kernel
theorem dX5_tries_92 : decode cX5_tries 92 = .ok (.invokevirtual 111, 3) := by decide +kernel
theorem dX5_tries_95 : decode cX5_tries 95 = .ok (.istore 5, 2) := by decide +kernel
theorem dX5_tries_97 : decode cX5_tries 97 = .ok (.iinc 6 1, 3) := by decide +kernel
theorem dX5_tries_100 : decode cX5_tries 100 = .ok (.goto (-25), 3) := by decide +kernel
theorem dX5_tries_103 : decode cX5_tries 103 = .ok (.iload 5, 2) := by decide +kernel
theorem dX5_tries_105 : decode cX5_tries 105 = .ok (.ifCond .eq 65, 3) := by decide +kernel
theorem dX5_tries_108 : decode cX5_tries 108 = .ok (.iload_n 3, 1) := by decide +kernel
theorem dX5_tries_109 : decode cX5_tries 109 = .ok (.iload_n 1, 1) := by decide +kernel
theorem dX5_tries_110 : decode cX5_tries 110 = .ok (.iconst 1, 1) := by decide +kernel
theorem dX5_tries_111 : decode cX5_tries 111 = .ok (.isub, 1) := by decide +kernel
theorem dX5_tries_112 : decode cX5_tries 112 = .ok (.if_icmp .ne 58, 3) := by decide +kernel
theorem dX5_tries_115 : decode cX5_tries 115 = .ok (.iload_n 2, 1) := by decide +kernel
theorem dX5_tries_116 : decode cX5_tries 116 = .ok (.sipush 200, 3) := by decide +kernel
theorem dX5_tries_119 : decode cX5_tries 119 = .ok (.if_icmp .ne 6, 3) := by decide +kernel
theorem dX5_tries_122 : decode cX5_tries 122 = .ok (.bipush (-4), 2) := by decide +kernel
theorem dX5_tries_124 : decode cX5_tries 124 = .ok (.ireturn, 1) := by decide +kernel
theorem dX5_tries_125 : decode cX5_tries 125 = .ok (.iconst 0, 1) := by decide +kernel
theorem dX5_tries_126 : decode cX5_tries 126 = .ok (.istore 6, 2) := by decide +kernel
theorem dX5_tries_128 : decode cX5_tries 128 = .ok (.iload 6, 2) := by decide +kernel
theorem dX5_tries_130 : decode cX5_tries 130 = .ok (.iload_n 1, 1) := by decide +kernel
theorem dX5_tries_131 : decode cX5_tries 131 = .ok (.if_icmp .ge 33, 3) := by decide +kernel
theorem dX5_tries_134 : decode cX5_tries 134 = .ok (.aload_n 0, 1) := by decide +kernel
theorem dX5_tries_135 : decode cX5_tries 135 = .ok (.getfield 84, 3) := by decide +kernel
theorem dX5_tries_138 : decode cX5_tries 138 = .ok (.bipush 8, 2) := by decide +kernel
theorem dX5_tries_140 : decode cX5_tries 140 = .ok (.iload_n 2, 1) := by decide +kernel
theorem dX5_tries_141 : decode cX5_tries 141 = .ok (.imul, 1) := by decide +kernel
theorem dX5_tries_142 : decode cX5_tries 142 = .ok (.iload 6, 2) := by decide +kernel
theorem dX5_tries_144 : decode cX5_tries 144 = .ok (.iadd, 1) := by decide +kernel
theorem dX5_tries_145 : decode cX5_tries 145 = .ok (.aload_n 0, 1) := by decide +kernel
theorem dX5_tries_146 : decode cX5_tries 146 = .ok (.getfield 78, 3) := by decide +kernel
theorem dX5_tries_149 : decode cX5_tries 149 = .ok (.aload_n 0, 1) := by decide +kernel
theorem dX5_tries_150 : decode cX5_tries 150 = .ok (.getfield 81, 3) := by decide +kernel
theorem dX5_tries_153 : decode cX5_tries 153 = .ok (.iload 6, 2) := by decide +kernel
theorem dX5_tries_155 : decode cX5_tries 155 = .ok (.iaload, 1) := by decide +kernel
theorem dX5_tries_156 : decode cX5_tries 156 = .ok (.laload, 1) := by decide +kernel
theorem dX5_tries_157 : decode cX5_tries 157 = .ok (.lastore, 1) := by decide +kernel
theorem dX5_tries_158 : decode cX5_tries 158 = .ok (.iinc 6 1, 3) := by decide +kernel
theorem dX5_tries_161 : decode cX5_tries 161 = .ok (.goto (-33), 3) := by decide +kernel
theorem dX5_tries_164 : decode cX5_tries 164 = .ok (.iinc 2 1, 3) := by decide +kernel
theorem dX5_tries_167 : decode cX5_tries 167 = .ok (.iconst 0, 1) := by decide +kernel
theorem dX5_tries_168 : decode cX5_tries 168 = .ok (.istore 5, 2) := by decide +kernel
theorem dX5_tries_170 : decode cX5_tries 170 = .ok (.iload 5, 2) := by decide +kernel
theorem dX5_tries_172 : decode cX5_tries 172 = .ok (.ifCond .eq 31, 3) := by decide +kernel
theorem dX5_tries_175 : decode cX5_tries 175 = .ok (.iinc 3 1, 3) := by decide +kernel
theorem dX5_tries_178 : decode cX5_tries 178 = .ok (.aload_n 0, 1) := by decide +kernel
theorem dX5_tries_179 : decode cX5_tries 179 = .ok (.getfield 78, 3) := by decide +kernel
theorem dX5_tries_182 : decode cX5_tries 182 = .ok (.aload_n 0, 1) := by decide +kernel
theorem dX5_tries_183 : decode cX5_tries 183 = .ok (.getfield 81, 3) := by decide +kernel
theorem dX5_tries_186 : decode cX5_tries 186 = .ok (.iload_n 3, 1) := by decide +kernel
theorem dX5_tries_187 : decode cX5_tries 187 = .ok (.iaload, 1) := by decide +kernel
theorem dX5_tries_188 : decode cX5_tries 188 = .ok (.aload_n 0, 1) := by decide +kernel
theorem dX5_tries_189 : decode cX5_tries 189 = .ok (.getfield 69, 3) := by decide +kernel
theorem dX5_tries_192 : decode cX5_tries 192 = .ok (.aload_n 0, 1) := by decide +kernel
theorem dX5_tries_193 : decode cX5_tries 193 = .ok (.getfield 81, 3) := by decide +kernel
theorem dX5_tries_196 : decode cX5_tries 196 = .ok (.iload_n 3, 1) := by decide +kernel
theorem dX5_tries_197 : decode cX5_tries 197 = .ok (.iaload, 1) := by decide +kernel
theorem dX5_tries_198 : decode cX5_tries 198 = .ok (.laload, 1) := by decide +kernel
theorem dX5_tries_199 : decode cX5_tries 199 = .ok (.lastore, 1) := by decide +kernel
theorem dX5_tries_200 : decode cX5_tries 200 = .ok (.goto (-174), 3) := by decide +kernel
theorem dX5_tries_203 : decode cX5_tries 203 = .ok (.iload_n 3, 1) := by decide +kernel
theorem dX5_tries_204 : decode cX5_tries 204 = .ok (.ifCond .lt 47, 3) := by decide +kernel
theorem dX5_tries_207 : decode cX5_tries 207 = .ok (.aload_n 0, 1) := by decide +kernel
theorem dX5_tries_208 : decode cX5_tries 208 = .ok (.getfield 78, 3) := by decide +kernel
theorem dX5_tries_211 : decode cX5_tries 211 = .ok (.aload_n 0, 1) := by decide +kernel
theorem dX5_tries_212 : decode cX5_tries 212 = .ok (.getfield 81, 3) := by decide +kernel
theorem dX5_tries_215 : decode cX5_tries 215 = .ok (.iload_n 3, 1) := by decide +kernel
theorem dX5_tries_216 : decode cX5_tries 216 = .ok (.iaload, 1) := by decide +kernel
theorem dX5_tries_217 : decode cX5_tries 217 = .ok (.laload, 1) := by decide +kernel
theorem dX5_tries_218 : decode cX5_tries 218 = .ok (.aload_n 0, 1) := by decide +kernel
theorem dX5_tries_219 : decode cX5_tries 219 = .ok (.getfield 72, 3) := by decide +kernel
theorem dX5_tries_222 : decode cX5_tries 222 = .ok (.aload_n 0, 1) := by decide +kernel
theorem dX5_tries_223 : decode cX5_tries 223 = .ok (.getfield 81, 3) := by decide +kernel
theorem dX5_tries_226 : decode cX5_tries 226 = .ok (.iload_n 3, 1) := by decide +kernel
theorem dX5_tries_227 : decode cX5_tries 227 = .ok (.iaload, 1) := by decide +kernel
theorem dX5_tries_228 : decode cX5_tries 228 = .ok (.laload, 1) := by decide +kernel
theorem dX5_tries_229 : decode cX5_tries 229 = .ok (.lcmp, 1) := by decide +kernel
theorem dX5_tries_230 : decode cX5_tries 230 = .ok (.ifCond .ne 21, 3) := by decide +kernel
theorem dX5_tries_233 : decode cX5_tries 233 = .ok (.aload_n 0, 1) := by decide +kernel
theorem dX5_tries_234 : decode cX5_tries 234 = .ok (.getfield 75, 3) := by decide +kernel
theorem dX5_tries_237 : decode cX5_tries 237 = .ok (.aload_n 0, 1) := by decide +kernel
theorem dX5_tries_238 : decode cX5_tries 238 = .ok (.getfield 81, 3) := by decide +kernel
theorem dX5_tries_241 : decode cX5_tries 241 = .ok (.iload_n 3, 1) := by decide +kernel
theorem dX5_tries_242 : decode cX5_tries 242 = .ok (.iaload, 1) := by decide +kernel
theorem dX5_tries_243 : decode cX5_tries 243 = .ok (.iconst 0, 1) := by decide +kernel
theorem dX5_tries_244 : decode cX5_tries 244 = .ok (.bastore, 1) := by decide +kernel
theorem dX5_tries_245 : decode cX5_tries 245 = .ok (.iinc 3 (-1), 3) := by decide +kernel
theorem dX5_tries_248 : decode cX5_tries 248 = .ok (.goto (-45), 3) := by decide +kernel
theorem dX5_tries_251 : decode cX5_tries 251 = .ok (.iload_n 3, 1) := by decide +kernel
theorem dX5_tries_252 : decode cX5_tries 252 = .ok (.ifCond .lt 18, 3) := by decide +kernel
theorem dX5_tries_255 : decode cX5_tries 255 = .ok (.aload_n 0, 1) := by decide +kernel
theorem dX5_tries_256 : decode cX5_tries 256 = .ok (.getfield 78, 3) := by decide +kernel
theorem dX5_tries_259 : decode cX5_tries 259 = .ok (.aload_n 0, 1) := by decide +kernel
theorem dX5_tries_260 : decode cX5_tries 260 = .ok (.getfield 81, 3) := by decide +kernel
theorem dX5_tries_263 : decode cX5_tries 263 = .ok (.iload_n 3, 1) := by decide +kernel
theorem dX5_tries_264 : decode cX5_tries 264 = .ok (.iaload, 1) := by decide +kernel
theorem dX5_tries_265 : decode cX5_tries 265 = .ok (.dup2, 1) := by decide +kernel
theorem dX5_tries_266 : decode cX5_tries 266 = .ok (.laload, 1) := by decide +kernel
theorem dX5_tries_267 : decode cX5_tries 267 = .ok (.lconst 1, 1) := by decide +kernel
theorem dX5_tries_268 : decode cX5_tries 268 = .ok (.ladd, 1) := by decide +kernel
theorem dX5_tries_269 : decode cX5_tries 269 = .ok (.lastore, 1) := by decide +kernel
theorem dX5_tries_270 : decode cX5_tries 270 = .ok (.goto (-244), 3) := by decide +kernel
theorem dX5_tries_273 : decode cX5_tries 273 = .ok (.iload_n 2, 1) := by decide +kernel
theorem dX5_tries_274 : decode cX5_tries 274 = .ok (.ireturn, 1) := by decide +kernel
theorem dX5_isWay_0 : decode cX5_isWay 0 = .ok (.aload_n 0, 1) := by decide +kernel
theorem dX5_isWay_1 : decode cX5_isWay 1 = .ok (.getfield 139, 3) := by decide +kernel
theorem dX5_isWay_4 : decode cX5_isWay 4 = .ok (.ifCond .eq 19, 3) := by decide +kernel
theorem dX5_isWay_7 : decode cX5_isWay 7 = .ok (.iload_n 1, 1) := by decide +kernel
theorem dX5_isWay_8 : decode cX5_isWay 8 = .ok (.ifCond .lt 15, 3) := by decide +kernel
theorem dX5_isWay_11 : decode cX5_isWay 11 = .ok (.iload_n 1, 1) := by decide +kernel
theorem dX5_isWay_12 : decode cX5_isWay 12 = .ok (.aload_n 0, 1) := by decide +kernel
theorem dX5_isWay_13 : decode cX5_isWay 13 = .ok (.getfield 143, 3) := by decide +kernel
theorem dX5_isWay_16 : decode cX5_isWay 16 = .ok (.if_icmp .ge 7, 3) := by decide +kernel
theorem dX5_isWay_19 : decode cX5_isWay 19 = .ok (.iconst 1, 1) := by decide +kernel
theorem dX5_isWay_20 : decode cX5_isWay 20 = .ok (.goto 4, 3) := by decide +kernel
theorem dX5_isWay_23 : decode cX5_isWay 23 = .ok (.iconst 0, 1) := by decide +kernel
theorem dX5_isWay_24 : decode cX5_isWay 24 = .ok (.ireturn, 1) := by decide +kernel
set_option maxRecDepth 20000 in
theorem ggX5_way_X5_isWay : GoodIn wsX5_way wsX5_isWay := goodIn_r _ [7, 8, 9, 10, 11, 12, 13, 14, 15, 16, 17, 18, 19, 20, 21, 22, 23, 24, 25, 26, 27, 28, 29, 30, 31, 32, 33, 34, 35, 36, 37, 38, 39, 40, 41, 42, 43] (by decide +kernel) (by decide +kernel)
set_option maxRecDepth 20000 in
theorem gX5_way_X5_isWay : GoodIn wsX5_way (wsV RX5 159 RX5 yX5_isWay wsX5_isWay) := goodIn_app (goodIn_of _ (by decide +kernel)) ggX5_way_X5_isWay
theorem dX5_way_0 : decode cX5_way 0 = .ok (.aload_n 0, 1) := by decide +kernel
theorem dX5_way_1 : decode cX5_way 1 = .ok (.iload_n 1, 1) := by decide +kernel
theorem dX5_way_2 : decode cX5_way 2 = .ok (.invokevirtual 159, 3) := by decide +kernel
theorem dX5_way_5 : decode cX5_way 5 = .ok (.ifCond .eq 29, 3) := by decide +kernel
theorem dX5_way_8 : decode cX5_way 8 = .ok (.iload_n 2, 1) := by decide +kernel
theorem dX5_way_9 : decode cX5_way 9 = .ok (.ifCond .lt 25, 3) := by decide +kernel
theorem dX5_way_12 : decode cX5_way 12 = .ok (.iload_n 2, 1) := by decide +kernel
theorem dX5_way_13 : decode cX5_way 13 = .ok (.aload_n 0, 1) := by decide +kernel
theorem dX5_way_14 : decode cX5_way 14 = .ok (.getfield 146, 3) := by decide +kernel
theorem dX5_way_17 : decode cX5_way 17 = .ok (.if_icmp .ge 17, 3) := by decide +kernel
theorem dX5_way_20 : decode cX5_way 20 = .ok (.aload_n 0, 1) := by decide +kernel
theorem dX5_way_21 : decode cX5_way 21 = .ok (.getfield 84, 3) := by decide +kernel
theorem dX5_way_24 : decode cX5_way 24 = .ok (.bipush 8, 2) := by decide +kernel
theorem dX5_way_26 : decode cX5_way 26 = .ok (.iload_n 1, 1) := by decide +kernel
theorem dX5_way_27 : decode cX5_way 27 = .ok (.imul, 1) := by decide +kernel
theorem dX5_way_28 : decode cX5_way 28 = .ok (.iload_n 2, 1) := by decide +kernel
theorem dX5_way_29 : decode cX5_way 29 = .ok (.iadd, 1) := by decide +kernel
theorem dX5_way_30 : decode cX5_way 30 = .ok (.laload, 1) := by decide +kernel
theorem dX5_way_31 : decode cX5_way 31 = .ok (.goto 4, 3) := by decide +kernel
theorem dX5_way_34 : decode cX5_way 34 = .ok (.lconst 0, 1) := by decide +kernel
theorem dX5_way_35 : decode cX5_way 35 = .ok (.lreturn, 1) := by decide +kernel
set_option maxRecDepth 20000 in
theorem ggX5_take_X5_isWay : GoodIn wsX5_take wsX5_isWay := goodIn_r _ [13, 14, 15, 65, 66, 67, 68, 69, 70, 71, 72, 73, 74, 75, 76, 77, 78, 79, 80, 81, 82, 83, 84, 85, 86, 87, 88, 89, 90, 91, 92, 93, 94, 95, 96, 97, 98] (by decide +kernel) (by decide +kernel)
set_option maxRecDepth 20000 in
theorem gX5_take_X5_isWay : GoodIn wsX5_take (wsV RX5 159 RX5 yX5_isWay wsX5_isWay) := goodIn_app (goodIn_of _ (by decide +kernel)) ggX5_take_X5_isWay
set_option maxRecDepth 20000 in
theorem ggX5_take_X5_works : GoodIn wsX5_take wsX5_works := goodIn_r _ [19, 20, 21, 22, 23, 3, 2, 4, 6, 24, 25, 26, 27, 28, 29, 30, 31, 7, 32, 33, 34, 35, 36, 37, 38, 39, 40, 41, 42, 43, 44, 12, 45, 46, 47, 48, 49, 50, 51, 52, 53, 54, 55, 56, 57, 58, 59, 60, 65, 66, 67, 68, 69, 70, 71, 72, 73, 74, 75, 76, 77, 78, 79, 80, 81, 82, 83, 84, 85, 86, 87, 88, 89, 90, 91, 92, 93, 94, 95, 96, 97, 98] (by decide +kernel) (by decide +kernel)
set_option maxRecDepth 20000 in
theorem gX5_take_X5_works : GoodIn wsX5_take (wsV RX5 122 RX5 yX5_works wsX5_works) := goodIn_app (goodIn_of _ (by decide +kernel)) ggX5_take_X5_works
set_option maxRecDepth 20000 in
theorem ggX5_take_X5_forget : GoodIn wsX5_take wsX5_forget := goodIn_r _ [64, 14, 15, 1, 65, 66, 67, 68, 69, 70, 71, 72, 73, 74, 75, 76, 77, 78, 79, 80, 81, 82, 83, 84, 85, 86, 87, 88, 89, 90, 91, 92, 93, 94, 95, 96, 97, 98] (by decide +kernel) (by decide +kernel)
set_option maxRecDepth 20000 in
theorem gX5_take_X5_forget : GoodIn wsX5_take (wsV RX5 126 RX5 yX5_forget wsX5_forget) := goodIn_app (goodIn_of _ (by decide +kernel)) ggX5_take_X5_forget
theorem dX5_take_0 : decode cX5_take 0 = .ok (.aload_n 0, 1) := by decide +kernel
theorem dX5_take_1 : decode cX5_take 1 = .ok (.iload_n 1, 1) := by decide +kernel
theorem dX5_take_2 : decode cX5_take 2 = .ok (.invokevirtual 159, 3) := by decide +kernel
theorem dX5_take_5 : decode cX5_take 5 = .ok (.ifCond .ne 5, 3) := by decide +kernel
theorem dX5_take_8 : decode cX5_take 8 = .ok (.iconst 0, 1) := by decide +kernel
theorem dX5_take_9 : decode cX5_take 9 = .ok (.ireturn, 1) := by decide +kernel
theorem dX5_take_10 : decode cX5_take 10 = .ok (.aload_n 0, 1) := by decide +kernel
theorem dX5_take_11 : decode cX5_take 11 = .ok (.getfield 146, 3) := by decide +kernel
theorem dX5_take_14 : decode cX5_take 14 = .ok (.istore_n 2, 1) := by decide +kernel
theorem dX5_take_15 : decode cX5_take 15 = .ok (.iconst 0, 1) := by decide +kernel
theorem dX5_take_16 : decode cX5_take 16 = .ok (.istore_n 3, 1) := by decide +kernel
theorem dX5_take_17 : decode cX5_take 17 = .ok (.iload_n 3, 1) := by decide +kernel
theorem dX5_take_18 : decode cX5_take 18 = .ok (.iload_n 2, 1) := by decide +kernel
theorem dX5_take_19 : decode cX5_take 19 = .ok (.if_icmp .ge 79, 3) := by decide +kernel
theorem dX5_take_22 : decode cX5_take 22 = .ok (.aload_n 0, 1) := by decide +kernel
theorem dX5_take_23 : decode cX5_take 23 = .ok (.getfield 9, 3) := by decide +kernel
theorem dX5_take_26 : decode cX5_take 26 = .ok (.aload_n 0, 1) := by decide +kernel
theorem dX5_take_27 : decode cX5_take 27 = .ok (.getfield 91, 3) := by decide +kernel
theorem dX5_take_30 : decode cX5_take 30 = .ok (.iconst 1, 1) := by decide +kernel
theorem dX5_take_31 : decode cX5_take 31 = .ok (.iastore, 1) := by decide +kernel
theorem dX5_take_32 : decode cX5_take 32 = .ok (.aload_n 0, 1) := by decide +kernel
theorem dX5_take_33 : decode cX5_take 33 = .ok (.getfield 13, 3) := by decide +kernel
theorem dX5_take_36 : decode cX5_take 36 = .ok (.aload_n 0, 1) := by decide +kernel
theorem dX5_take_37 : decode cX5_take 37 = .ok (.getfield 91, 3) := by decide +kernel
theorem dX5_take_40 : decode cX5_take 40 = .ok (.aload_n 0, 1) := by decide +kernel
theorem dX5_take_41 : decode cX5_take 41 = .ok (.getfield 81, 3) := by decide +kernel
theorem dX5_take_44 : decode cX5_take 44 = .ok (.iload_n 3, 1) := by decide +kernel
theorem dX5_take_45 : decode cX5_take 45 = .ok (.iaload, 1) := by decide +kernel
theorem dX5_take_46 : decode cX5_take 46 = .ok (.iastore, 1) := by decide +kernel
theorem dX5_take_47 : decode cX5_take 47 = .ok (.aload_n 0, 1) := by decide +kernel
theorem dX5_take_48 : decode cX5_take 48 = .ok (.getfield 16, 3) := by decide +kernel
theorem dX5_take_51 : decode cX5_take 51 = .ok (.aload_n 0, 1) := by decide +kernel
theorem dX5_take_52 : decode cX5_take 52 = .ok (.getfield 91, 3) := by decide +kernel
theorem dX5_take_55 : decode cX5_take 55 = .ok (.aload_n 0, 1) := by decide +kernel
theorem dX5_take_56 : decode cX5_take 56 = .ok (.getfield 81, 3) := by decide +kernel
theorem dX5_take_59 : decode cX5_take 59 = .ok (.iload_n 3, 1) := by decide +kernel
theorem dX5_take_60 : decode cX5_take 60 = .ok (.iaload, 1) := by decide +kernel
theorem dX5_take_61 : decode cX5_take 61 = .ok (.iastore, 1) := by decide +kernel
theorem dX5_take_62 : decode cX5_take 62 = .ok (.aload_n 0, 1) := by decide +kernel
theorem dX5_take_63 : decode cX5_take 63 = .ok (.getfield 19, 3) := by decide +kernel
theorem dX5_take_66 : decode cX5_take 66 = .ok (.aload_n 0, 1) := by decide +kernel
theorem dX5_take_67 : decode cX5_take 67 = .ok (.getfield 91, 3) := by decide +kernel
theorem dX5_take_70 : decode cX5_take 70 = .ok (.aload_n 0, 1) := by decide +kernel
theorem dX5_take_71 : decode cX5_take 71 = .ok (.getfield 84, 3) := by decide +kernel
theorem dX5_take_74 : decode cX5_take 74 = .ok (.bipush 8, 2) := by decide +kernel
theorem dX5_take_76 : decode cX5_take 76 = .ok (.iload_n 1, 1) := by decide +kernel
theorem dX5_take_77 : decode cX5_take 77 = .ok (.imul, 1) := by decide +kernel
theorem dX5_take_78 : decode cX5_take 78 = .ok (.iload_n 3, 1) := by decide +kernel
theorem dX5_take_79 : decode cX5_take 79 = .ok (.iadd, 1) := by decide +kernel
theorem dX5_take_80 : decode cX5_take 80 = .ok (.laload, 1) := by decide +kernel
theorem dX5_take_81 : decode cX5_take 81 = .ok (.lastore, 1) := by decide +kernel
theorem dX5_take_82 : decode cX5_take 82 = .ok (.aload_n 0, 1) := by decide +kernel
theorem dX5_take_83 : decode cX5_take 83 = .ok (.dup, 1) := by decide +kernel
theorem dX5_take_84 : decode cX5_take 84 = .ok (.getfield 91, 3) := by decide +kernel
theorem dX5_take_87 : decode cX5_take 87 = .ok (.iconst 1, 1) := by decide +kernel
theorem dX5_take_88 : decode cX5_take 88 = .ok (.iadd, 1) := by decide +kernel
theorem dX5_take_89 : decode cX5_take 89 = .ok (.putfield 91, 3) := by decide +kernel
theorem dX5_take_92 : decode cX5_take 92 = .ok (.iinc 3 1, 3) := by decide +kernel
theorem dX5_take_95 : decode cX5_take 95 = .ok (.goto (-78), 3) := by decide +kernel
theorem dX5_take_98 : decode cX5_take 98 = .ok (.aload_n 0, 1) := by decide +kernel
theorem dX5_take_99 : decode cX5_take 99 = .ok (.invokevirtual 122, 3) := by decide +kernel
theorem dX5_take_102 : decode cX5_take 102 = .ok (.istore_n 3, 1) := by decide +kernel
theorem dX5_take_103 : decode cX5_take 103 = .ok (.aload_n 0, 1) := by decide +kernel
theorem dX5_take_104 : decode cX5_take 104 = .ok (.invokevirtual 126, 3) := by decide +kernel
theorem dX5_take_107 : decode cX5_take 107 = .ok (.iconst 1, 1) := by decide +kernel
theorem dX5_take_108 : decode cX5_take 108 = .ok (.ireturn, 1) := by decide +kernel
theorem dX5_mark_0 : decode cX5_mark 0 = .ok (.aload_n 0, 1) := by decide +kernel
theorem dX5_mark_1 : decode cX5_mark 1 = .ok (.getfield 162, 3) := by decide +kernel
theorem dX5_mark_4 : decode cX5_mark 4 = .ok (.bipush 40, 2) := by decide +kernel
theorem dX5_mark_6 : decode cX5_mark 6 = .ok (.if_icmp .ne 5, 3) := by decide +kernel
theorem dX5_mark_9 : decode cX5_mark 9 = .ok (.iconst (-1), 1) := by decide +kernel
theorem dX5_mark_10 : decode cX5_mark 10 = .ok (.ireturn, 1) := by decide +kernel
theorem dX5_mark_11 : decode cX5_mark 11 = .ok (.aload_n 0, 1) := by decide +kernel
theorem dX5_mark_12 : decode cX5_mark 12 = .ok (.getfield 47, 3) := by decide +kernel
theorem dX5_mark_15 : decode cX5_mark 15 = .ok (.aload_n 0, 1) := by decide +kernel
theorem dX5_mark_16 : decode cX5_mark 16 = .ok (.getfield 162, 3) := by decide +kernel
theorem dX5_mark_19 : decode cX5_mark 19 = .ok (.aload_n 0, 1) := by decide +kernel
theorem dX5_mark_20 : decode cX5_mark 20 = .ok (.getfield 87, 3) := by decide +kernel
theorem dX5_mark_23 : decode cX5_mark 23 = .ok (.iastore, 1) := by decide +kernel
theorem dX5_mark_24 : decode cX5_mark 24 = .ok (.aload_n 0, 1) := by decide +kernel
theorem dX5_mark_25 : decode cX5_mark 25 = .ok (.getfield 50, 3) := by decide +kernel
theorem dX5_mark_28 : decode cX5_mark 28 = .ok (.aload_n 0, 1) := by decide +kernel
theorem dX5_mark_29 : decode cX5_mark 29 = .ok (.getfield 162, 3) := by decide +kernel
theorem dX5_mark_32 : decode cX5_mark 32 = .ok (.aload_n 0, 1) := by decide +kernel
theorem dX5_mark_33 : decode cX5_mark 33 = .ok (.getfield 91, 3) := by decide +kernel
theorem dX5_mark_36 : decode cX5_mark 36 = .ok (.iastore, 1) := by decide +kernel
theorem dX5_mark_37 : decode cX5_mark 37 = .ok (.aload_n 0, 1) := by decide +kernel
theorem dX5_mark_38 : decode cX5_mark 38 = .ok (.getfield 53, 3) := by decide +kernel
theorem dX5_mark_41 : decode cX5_mark 41 = .ok (.aload_n 0, 1) := by decide +kernel
theorem dX5_mark_42 : decode cX5_mark 42 = .ok (.getfield 162, 3) := by decide +kernel
theorem dX5_mark_45 : decode cX5_mark 45 = .ok (.aload_n 0, 1) := by decide +kernel
theorem dX5_mark_46 : decode cX5_mark 46 = .ok (.getfield 108, 3) := by decide +kernel
theorem dX5_mark_49 : decode cX5_mark 49 = .ok (.iastore, 1) := by decide +kernel
theorem dX5_mark_50 : decode cX5_mark 50 = .ok (.aload_n 0, 1) := by decide +kernel
theorem dX5_mark_51 : decode cX5_mark 51 = .ok (.dup, 1) := by decide +kernel
theorem dX5_mark_52 : decode cX5_mark 52 = .ok (.getfield 162, 3) := by decide +kernel
theorem dX5_mark_55 : decode cX5_mark 55 = .ok (.iconst 1, 1) := by decide +kernel
theorem dX5_mark_56 : decode cX5_mark 56 = .ok (.iadd, 1) := by decide +kernel
theorem dX5_mark_57 : decode cX5_mark 57 = .ok (.putfield 162, 3) := by decide +kernel
theorem dX5_mark_60 : decode cX5_mark 60 = .ok (.aload_n 0, 1) := by decide +kernel
theorem dX5_mark_61 : decode cX5_mark 61 = .ok (.getfield 162, 3) := by decide +kernel
theorem dX5_mark_64 : decode cX5_mark 64 = .ok (.ireturn, 1) := by decide +kernel
set_option maxRecDepth 20000 in
theorem ggX5_back_X5_works : GoodIn wsX5_back wsX5_works := goodIn_r _ [14, 3, 15, 16, 17, 5, 18, 19, 20, 21, 22, 23, 24, 25, 26, 27, 28, 29, 30, 31, 32, 33, 34, 35, 36, 37, 38, 7, 39, 40, 41, 13, 42, 43, 44, 45, 46, 47, 48, 49, 50, 51, 52, 53, 54, 55, 56, 57, 65, 66, 67, 68, 69, 70, 71, 72, 73, 74, 75, 76, 77, 78, 79, 80, 81, 82, 83, 84, 85, 86, 87, 88, 89, 90, 91, 92, 93, 94, 95, 96, 97, 98] (by decide +kernel) (by decide +kernel)
set_option maxRecDepth 20000 in
theorem gX5_back_X5_works : GoodIn wsX5_back (wsV RX5 122 RX5 yX5_works wsX5_works) := goodIn_app (goodIn_of _ (by decide +kernel)) ggX5_back_X5_works
set_option maxRecDepth 20000 in
theorem ggX5_back_X5_forget : GoodIn wsX5_back wsX5_forget := goodIn_r _ [61, 62, 63, 64, 65, 66, 67, 68, 69, 70, 71, 72, 73, 74, 75, 76, 77, 78, 79, 80, 81, 82, 83, 84, 85, 86, 87, 88, 89, 90, 91, 92, 93, 94, 95, 96, 97, 98] (by decide +kernel) (by decide +kernel)
set_option maxRecDepth 20000 in
theorem gX5_back_X5_forget : GoodIn wsX5_back (wsV RX5 126 RX5 yX5_forget wsX5_forget) := goodIn_app (goodIn_of _ (by decide +kernel)) ggX5_back_X5_forget
theorem dX5_back_0 : decode cX5_back 0 = .ok (.aload_n 0, 1) := by decide +kernel
theorem dX5_back_1 : decode cX5_back 1 = .ok (.getfield 162, 3) := by decide +kernel
theorem dX5_back_4 : decode cX5_back 4 = .ok (.ifCond .ne 5, 3) := by decide +kernel
theorem dX5_back_7 : decode cX5_back 7 = .ok (.iconst (-1), 1) := by decide +kernel
theorem dX5_back_8 : decode cX5_back 8 = .ok (.ireturn, 1) := by decide +kernel
theorem dX5_back_9 : decode cX5_back 9 = .ok (.aload_n 0, 1) := by decide +kernel
theorem dX5_back_10 : decode cX5_back 10 = .ok (.dup, 1) := by decide +kernel
theorem dX5_back_11 : decode cX5_back 11 = .ok (.getfield 162, 3) := by decide +kernel
theorem dX5_back_14 : decode cX5_back 14 = .ok (.iconst 1, 1) := by decide +kernel
theorem dX5_back_15 : decode cX5_back 15 = .ok (.isub, 1) := by decide +kernel
theorem dX5_back_16 : decode cX5_back 16 = .ok (.putfield 162, 3) := by decide +kernel
theorem dX5_back_19 : decode cX5_back 19 = .ok (.aload_n 0, 1) := by decide +kernel
theorem dX5_back_20 : decode cX5_back 20 = .ok (.aload_n 0, 1) := by decide +kernel
theorem dX5_back_21 : decode cX5_back 21 = .ok (.getfield 47, 3) := by decide +kernel
theorem dX5_back_24 : decode cX5_back 24 = .ok (.aload_n 0, 1) := by decide +kernel
theorem dX5_back_25 : decode cX5_back 25 = .ok (.getfield 162, 3) := by decide +kernel
theorem dX5_back_28 : decode cX5_back 28 = .ok (.iaload, 1) := by decide +kernel
theorem dX5_back_29 : decode cX5_back 29 = .ok (.putfield 87, 3) := by decide +kernel
theorem dX5_back_32 : decode cX5_back 32 = .ok (.aload_n 0, 1) := by decide +kernel
theorem dX5_back_33 : decode cX5_back 33 = .ok (.aload_n 0, 1) := by decide +kernel
theorem dX5_back_34 : decode cX5_back 34 = .ok (.getfield 50, 3) := by decide +kernel
theorem dX5_back_37 : decode cX5_back 37 = .ok (.aload_n 0, 1) := by decide +kernel
theorem dX5_back_38 : decode cX5_back 38 = .ok (.getfield 162, 3) := by decide +kernel
theorem dX5_back_41 : decode cX5_back 41 = .ok (.iaload, 1) := by decide +kernel
theorem dX5_back_42 : decode cX5_back 42 = .ok (.putfield 91, 3) := by decide +kernel
theorem dX5_back_45 : decode cX5_back 45 = .ok (.aload_n 0, 1) := by decide +kernel
theorem dX5_back_46 : decode cX5_back 46 = .ok (.aload_n 0, 1) := by decide +kernel
theorem dX5_back_47 : decode cX5_back 47 = .ok (.getfield 53, 3) := by decide +kernel
theorem dX5_back_50 : decode cX5_back 50 = .ok (.aload_n 0, 1) := by decide +kernel
theorem dX5_back_51 : decode cX5_back 51 = .ok (.getfield 162, 3) := by decide +kernel
theorem dX5_back_54 : decode cX5_back 54 = .ok (.iaload, 1) := by decide +kernel
theorem dX5_back_55 : decode cX5_back 55 = .ok (.putfield 108, 3) := by decide +kernel
theorem dX5_back_58 : decode cX5_back 58 = .ok (.iconst 0, 1) := by decide +kernel
theorem dX5_back_59 : decode cX5_back 59 = .ok (.istore_n 1, 1) := by decide +kernel
theorem dX5_back_60 : decode cX5_back 60 = .ok (.iload_n 1, 1) := by decide +kernel
theorem dX5_back_61 : decode cX5_back 61 = .ok (.aload_n 0, 1) := by decide +kernel
theorem dX5_back_62 : decode cX5_back 62 = .ok (.getfield 136, 3) := by decide +kernel
theorem dX5_back_65 : decode cX5_back 65 = .ok (.if_icmp .ge 22, 3) := by decide +kernel
theorem dX5_back_68 : decode cX5_back 68 = .ok (.aload_n 0, 1) := by decide +kernel
theorem dX5_back_69 : decode cX5_back 69 = .ok (.getfield 26, 3) := by decide +kernel
theorem dX5_back_72 : decode cX5_back 72 = .ok (.iload_n 1, 1) := by decide +kernel
theorem dX5_back_73 : decode cX5_back 73 = .ok (.iaload, 1) := by decide +kernel
theorem dX5_back_74 : decode cX5_back 74 = .ok (.aload_n 0, 1) := by decide +kernel
theorem dX5_back_75 : decode cX5_back 75 = .ok (.getfield 87, 3) := by decide +kernel
theorem dX5_back_78 : decode cX5_back 78 = .ok (.if_icmp .ge 9, 3) := by decide +kernel
theorem dX5_back_81 : decode cX5_back 81 = .ok (.iinc 1 1, 3) := by decide +kernel
theorem dX5_back_84 : decode cX5_back 84 = .ok (.goto (-24), 3) := by decide +kernel
theorem dX5_back_87 : decode cX5_back 87 = .ok (.aload_n 0, 1) := by decide +kernel
theorem dX5_back_88 : decode cX5_back 88 = .ok (.iload_n 1, 1) := by decide +kernel
theorem dX5_back_89 : decode cX5_back 89 = .ok (.putfield 136, 3) := by decide +kernel
theorem dX5_back_92 : decode cX5_back 92 = .ok (.aload_n 0, 1) := by decide +kernel
theorem dX5_back_93 : decode cX5_back 93 = .ok (.invokevirtual 122, 3) := by decide +kernel
theorem dX5_back_96 : decode cX5_back 96 = .ok (.istore_n 2, 1) := by decide +kernel
theorem dX5_back_97 : decode cX5_back 97 = .ok (.aload_n 0, 1) := by decide +kernel
theorem dX5_back_98 : decode cX5_back 98 = .ok (.invokevirtual 126, 3) := by decide +kernel
theorem dX5_back_101 : decode cX5_back 101 = .ok (.aload_n 0, 1) := by decide +kernel
theorem dX5_back_102 : decode cX5_back 102 = .ok (.getfield 162, 3) := by decide +kernel
theorem dX5_back_105 : decode cX5_back 105 = .ok (.ireturn, 1) := by decide +kernel
set_option maxRecDepth 20000 in
theorem ggX5_about_X5_isName : GoodIn wsX5_about wsX5_isName := goodIn_r _ [15, 4, 16, 17, 18, 19, 20, 21, 22, 23, 24, 25, 26, 27, 28, 29, 30, 31, 32, 33, 34, 35, 36, 37, 38, 39, 40, 41, 42, 43, 44, 45, 46, 47, 48, 49] (by decide +kernel) (by decide +kernel)
set_option maxRecDepth 20000 in
theorem gX5_about_X5_isName : GoodIn wsX5_about (wsV RX5 129 RX5 yX5_isName wsX5_isName) := goodIn_app (goodIn_of _ (by decide +kernel)) ggX5_about_X5_isName
theorem dX5_about_0 : decode cX5_about 0 = .ok (.aload_n 0, 1) := by decide +kernel
theorem dX5_about_1 : decode cX5_about 1 = .ok (.iload_n 1, 1) := by decide +kernel
theorem dX5_about_2 : decode cX5_about 2 = .ok (.invokevirtual 129, 3) := by decide +kernel
theorem dX5_about_5 : decode cX5_about 5 = .ok (.ifCond .ne 5, 3) := by decide +kernel
theorem dX5_about_8 : decode cX5_about 8 = .ok (.iconst (-1), 1) := by decide +kernel
theorem dX5_about_9 : decode cX5_about 9 = .ok (.ireturn, 1) := by decide +kernel
theorem dX5_about_10 : decode cX5_about 10 = .ok (.iconst 0, 1) := by decide +kernel
theorem dX5_about_11 : decode cX5_about 11 = .ok (.istore_n 3, 1) := by decide +kernel
theorem dX5_about_12 : decode cX5_about 12 = .ok (.iload_n 2, 1) := by decide +kernel
theorem dX5_about_13 : decode cX5_about 13 = .ok (.tableswitch 269 0 4 #[35, 73, 80, 124, 220], 35) := by decide +kernel
theorem dX5_about_48 : decode cX5_about 48 = .ok (.aload_n 0, 1) := by decide +kernel
theorem dX5_about_49 : decode cX5_about 49 = .ok (.getfield 59, 3) := by decide +kernel
theorem dX5_about_52 : decode cX5_about 52 = .ok (.aload_n 0, 1) := by decide +kernel
theorem dX5_about_53 : decode cX5_about 53 = .ok (.getfield 56, 3) := by decide +kernel
theorem dX5_about_56 : decode cX5_about 56 = .ok (.iload_n 1, 1) := by decide +kernel
theorem dX5_about_57 : decode cX5_about 57 = .ok (.iaload, 1) := by decide +kernel
theorem dX5_about_58 : decode cX5_about 58 = .ok (.baload, 1) := by decide +kernel
theorem dX5_about_59 : decode cX5_about 59 = .ok (.ifCond .eq 7, 3) := by decide +kernel
theorem dX5_about_62 : decode cX5_about 62 = .ok (.iconst 2, 1) := by decide +kernel
theorem dX5_about_63 : decode cX5_about 63 = .ok (.goto 22, 3) := by decide +kernel
theorem dX5_about_66 : decode cX5_about 66 = .ok (.aload_n 0, 1) := by decide +kernel
theorem dX5_about_67 : decode cX5_about 67 = .ok (.getfield 63, 3) := by decide +kernel
theorem dX5_about_70 : decode cX5_about 70 = .ok (.aload_n 0, 1) := by decide +kernel
theorem dX5_about_71 : decode cX5_about 71 = .ok (.getfield 56, 3) := by decide +kernel
theorem dX5_about_74 : decode cX5_about 74 = .ok (.iload_n 1, 1) := by decide +kernel
theorem dX5_about_75 : decode cX5_about 75 = .ok (.iaload, 1) := by decide +kernel
theorem dX5_about_76 : decode cX5_about 76 = .ok (.baload, 1) := by decide +kernel
theorem dX5_about_77 : decode cX5_about 77 = .ok (.ifCond .eq 7, 3) := by decide +kernel
theorem dX5_about_80 : decode cX5_about 80 = .ok (.iconst 1, 1) := by decide +kernel
theorem dX5_about_81 : decode cX5_about 81 = .ok (.goto 4, 3) := by decide +kernel
theorem dX5_about_84 : decode cX5_about 84 = .ok (.iconst 0, 1) := by decide +kernel
theorem dX5_about_85 : decode cX5_about 85 = .ok (.ireturn, 1) := by decide +kernel
theorem dX5_about_86 : decode cX5_about 86 = .ok (.aload_n 0, 1) := by decide +kernel
theorem dX5_about_87 : decode cX5_about 87 = .ok (.getfield 56, 3) := by decide +kernel
theorem dX5_about_90 : decode cX5_about 90 = .ok (.iload_n 1, 1) := by decide +kernel
theorem dX5_about_91 : decode cX5_about 91 = .ok (.iaload, 1) := by decide +kernel
theorem dX5_about_92 : decode cX5_about 92 = .ok (.ireturn, 1) := by decide +kernel
theorem dX5_about_93 : decode cX5_about 93 = .ok (.iconst 0, 1) := by decide +kernel
theorem dX5_about_94 : decode cX5_about 94 = .ok (.istore 4, 2) := by decide +kernel
theorem dX5_about_96 : decode cX5_about 96 = .ok (.iload 4, 2) := by decide +kernel
theorem dX5_about_98 : decode cX5_about 98 = .ok (.aload_n 0, 1) := by decide +kernel
theorem dX5_about_99 : decode cX5_about 99 = .ok (.getfield 87, 3) := by decide +kernel
theorem dX5_about_102 : decode cX5_about 102 = .ok (.if_icmp .ge 33, 3) := by decide +kernel
theorem dX5_about_105 : decode cX5_about 105 = .ok (.iload_n 3, 1) := by decide +kernel
theorem dX5_about_106 : decode cX5_about 106 = .ok (.aload_n 0, 1) := by decide +kernel
theorem dX5_about_107 : decode cX5_about 107 = .ok (.getfield 56, 3) := by decide +kernel
theorem dX5_about_110 : decode cX5_about 110 = .ok (.iload 4, 2) := by decide +kernel
theorem dX5_about_112 : decode cX5_about 112 = .ok (.iaload, 1) := by decide +kernel
theorem dX5_about_113 : decode cX5_about 113 = .ok (.aload_n 0, 1) := by decide +kernel
theorem dX5_about_114 : decode cX5_about 114 = .ok (.getfield 56, 3) := by decide +kernel
theorem dX5_about_117 : decode cX5_about 117 = .ok (.iload_n 1, 1) := by decide +kernel
theorem dX5_about_118 : decode cX5_about 118 = .ok (.iaload, 1) := by decide +kernel
theorem dX5_about_119 : decode cX5_about 119 = .ok (.if_icmp .ne 7, 3) := by decide +kernel
theorem dX5_about_122 : decode cX5_about 122 = .ok (.iconst 1, 1) := by decide +kernel
theorem dX5_about_123 : decode cX5_about 123 = .ok (.goto 4, 3) := by decide +kernel
theorem dX5_about_126 : decode cX5_about 126 = .ok (.iconst 0, 1) := by decide +kernel
theorem dX5_about_127 : decode cX5_about 127 = .ok (.iadd, 1) := by decide +kernel
theorem dX5_about_128 : decode cX5_about 128 = .ok (.istore_n 3, 1) := by decide +kernel
theorem dX5_about_129 : decode cX5_about 129 = .ok (.iinc 4 1, 3) := by decide +kernel
theorem dX5_about_132 : decode cX5_about 132 = .ok (.goto (-36), 3) := by decide +kernel
theorem dX5_about_135 : decode cX5_about 135 = .ok (.iload_n 3, 1) := by decide +kernel
theorem dX5_about_136 : decode cX5_about 136 = .ok (.ireturn, 1) := by decide +kernel
theorem dX5_about_137 : decode cX5_about 137 = .ok (.iconst 0, 1) := by decide +kernel
theorem dX5_about_138 : decode cX5_about 138 = .ok (.istore 4, 2) := by decide +kernel
theorem dX5_about_140 : decode cX5_about 140 = .ok (.iload 4, 2) := by decide +kernel
theorem dX5_about_142 : decode cX5_about 142 = .ok (.aload_n 0, 1) := by decide +kernel
theorem dX5_about_143 : decode cX5_about 143 = .ok (.getfield 108, 3) := by decide +kernel
theorem dX5_about_146 : decode cX5_about 146 = .ok (.if_icmp .ge 85, 3) := by decide +kernel
theorem dX5_about_149 : decode cX5_about 149 = .ok (.iconst 0, 1) := by decide +kernel
theorem dX5_about_150 : decode cX5_about 150 = .ok (.istore 5, 2) := by decide +kernel
theorem dX5_about_152 : decode cX5_about 152 = .ok (.iconst 0, 1) := by decide +kernel
theorem dX5_about_153 : decode cX5_about 153 = .ok (.istore 6, 2) := by decide +kernel
theorem dX5_about_155 : decode cX5_about 155 = .ok (.iload 6, 2) := by decide +kernel
theorem dX5_about_157 : decode cX5_about 157 = .ok (.aload_n 0, 1) := by decide +kernel
theorem dX5_about_158 : decode cX5_about 158 = .ok (.getfield 35, 3) := by decide +kernel
theorem dX5_about_161 : decode cX5_about 161 = .ok (.iload 4, 2) := by decide +kernel
theorem dX5_about_163 : decode cX5_about 163 = .ok (.iaload, 1) := by decide +kernel
theorem dX5_about_164 : decode cX5_about 164 = .ok (.if_icmp .ge 48, 3) := by decide +kernel
theorem dX5_about_167 : decode cX5_about 167 = .ok (.iload 5, 2) := by decide +kernel
theorem dX5_about_169 : decode cX5_about 169 = .ok (.ifCond .ne 30, 3) := by decide +kernel
theorem dX5_about_172 : decode cX5_about 172 = .ok (.aload_n 0, 1) := by decide +kernel
theorem dX5_about_173 : decode cX5_about 173 = .ok (.getfield 56, 3) := by decide +kernel
theorem dX5_about_176 : decode cX5_about 176 = .ok (.aload_n 0, 1) := by decide +kernel
theorem dX5_about_177 : decode cX5_about 177 = .ok (.getfield 38, 3) := by decide +kernel
theorem dX5_about_180 : decode cX5_about 180 = .ok (.bipush 32, 2) := by decide +kernel
theorem dX5_about_182 : decode cX5_about 182 = .ok (.iload 4, 2) := by decide +kernel
theorem dX5_about_184 : decode cX5_about 184 = .ok (.imul, 1) := by decide +kernel
theorem dX5_about_185 : decode cX5_about 185 = .ok (.iload 6, 2) := by decide +kernel
theorem dX5_about_187 : decode cX5_about 187 = .ok (.iadd, 1) := by decide +kernel
theorem dX5_about_188 : decode cX5_about 188 = .ok (.iaload, 1) := by decide +kernel
theorem dX5_about_189 : decode cX5_about 189 = .ok (.iaload, 1) := by decide +kernel
theorem dX5_about_190 : decode cX5_about 190 = .ok (.aload_n 0, 1) := by decide +kernel
theorem dX5_about_191 : decode cX5_about 191 = .ok (.getfield 56, 3) := by decide +kernel
theorem dX5_about_194 : decode cX5_about 194 = .ok (.iload_n 1, 1) := by decide +kernel
theorem dX5_about_195 : decode cX5_about 195 = .ok (.iaload, 1) := by decide +kernel
theorem dX5_about_196 : decode cX5_about 196 = .ok (.if_icmp .ne 7, 3) := by decide +kernel
theorem dX5_about_199 : decode cX5_about 199 = .ok (.iconst 1, 1) := by decide +kernel
theorem dX5_about_200 : decode cX5_about 200 = .ok (.goto 4, 3) := by decide +kernel
theorem dX5_about_203 : decode cX5_about 203 = .ok (.iconst 0, 1) := by decide +kernel
theorem dX5_about_204 : decode cX5_about 204 = .ok (.istore 5, 2) := by decide +kernel
theorem dX5_about_206 : decode cX5_about 206 = .ok (.iinc 6 1, 3) := by decide +kernel
theorem dX5_about_209 : decode cX5_about 209 = .ok (.goto (-54), 3) := by decide +kernel
theorem dX5_about_212 : decode cX5_about 212 = .ok (.iload_n 3, 1) := by decide +kernel
theorem dX5_about_213 : decode cX5_about 213 = .ok (.iload 5, 2) := by decide +kernel
theorem dX5_about_215 : decode cX5_about 215 = .ok (.ifCond .eq 7, 3) := by decide +kernel
theorem dX5_about_218 : decode cX5_about 218 = .ok (.iconst 1, 1) := by decide +kernel
theorem dX5_about_219 : decode cX5_about 219 = .ok (.goto 4, 3) := by decide +kernel
theorem dX5_about_222 : decode cX5_about 222 = .ok (.iconst 0, 1) := by decide +kernel
theorem dX5_about_223 : decode cX5_about 223 = .ok (.iadd, 1) := by decide +kernel
theorem dX5_about_224 : decode cX5_about 224 = .ok (.istore_n 3, 1) := by decide +kernel
theorem dX5_about_225 : decode cX5_about 225 = .ok (.iinc 4 1, 3) := by decide +kernel
theorem dX5_about_228 : decode cX5_about 228 = .ok (.goto (-88), 3) := by decide +kernel
theorem dX5_about_231 : decode cX5_about 231 = .ok (.iload_n 3, 1) := by decide +kernel
theorem dX5_about_232 : decode cX5_about 232 = .ok (.ireturn, 1) := by decide +kernel
theorem dX5_about_233 : decode cX5_about 233 = .ok (.iconst 0, 1) := by decide +kernel
theorem dX5_about_234 : decode cX5_about 234 = .ok (.istore 4, 2) := by decide +kernel
theorem dX5_about_236 : decode cX5_about 236 = .ok (.iload 4, 2) := by decide +kernel
theorem dX5_about_238 : decode cX5_about 238 = .ok (.aload_n 0, 1) := by decide +kernel
theorem dX5_about_239 : decode cX5_about 239 = .ok (.getfield 146, 3) := by decide +kernel
theorem dX5_about_242 : decode cX5_about 242 = .ok (.if_icmp .ge 38, 3) := by decide +kernel
theorem dX5_about_245 : decode cX5_about 245 = .ok (.aload_n 0, 1) := by decide +kernel
theorem dX5_about_246 : decode cX5_about 246 = .ok (.getfield 139, 3) := by decide +kernel
theorem dX5_about_249 : decode cX5_about 249 = .ok (.ifCond .eq 31, 3) := by decide +kernel
theorem dX5_about_252 : decode cX5_about 252 = .ok (.aload_n 0, 1) := by decide +kernel
theorem dX5_about_253 : decode cX5_about 253 = .ok (.getfield 81, 3) := by decide +kernel
theorem dX5_about_256 : decode cX5_about 256 = .ok (.iload 4, 2) := by decide +kernel
theorem dX5_about_258 : decode cX5_about 258 = .ok (.iaload, 1) := by decide +kernel
theorem dX5_about_259 : decode cX5_about 259 = .ok (.aload_n 0, 1) := by decide +kernel
theorem dX5_about_260 : decode cX5_about 260 = .ok (.getfield 56, 3) := by decide +kernel
theorem dX5_about_263 : decode cX5_about 263 = .ok (.iload_n 1, 1) := by decide +kernel
theorem dX5_about_264 : decode cX5_about 264 = .ok (.iaload, 1) := by decide +kernel
theorem dX5_about_265 : decode cX5_about 265 = .ok (.if_icmp .ne 7, 3) := by decide +kernel
theorem dX5_about_268 : decode cX5_about 268 = .ok (.iconst 1, 1) := by decide +kernel
theorem dX5_about_269 : decode cX5_about 269 = .ok (.goto 4, 3) := by decide +kernel
theorem dX5_about_272 : decode cX5_about 272 = .ok (.iload_n 3, 1) := by decide +kernel
theorem dX5_about_273 : decode cX5_about 273 = .ok (.istore_n 3, 1) := by decide +kernel
theorem dX5_about_274 : decode cX5_about 274 = .ok (.iinc 4 1, 3) := by decide +kernel
theorem dX5_about_277 : decode cX5_about 277 = .ok (.goto (-41), 3) := by decide +kernel
theorem dX5_about_280 : decode cX5_about 280 = .ok (.iload_n 3, 1) := by decide +kernel
theorem dX5_about_281 : decode cX5_about 281 = .ok (.ireturn, 1) := by decide +kernel
theorem dX5_about_282 : decode cX5_about 282 = .ok (.iconst (-1), 1) := by decide +kernel
theorem dX5_about_283 : decode cX5_about 283 = .ok (.ireturn, 1) := by decide +kernel
set_option maxRecDepth 20000 in
theorem ggX5_bound_X5_isName : GoodIn wsX5_bound wsX5_isName := goodIn_r _ [13, 14, 15, 16, 17, 18, 19, 20, 21, 22, 23, 24, 25, 26, 27, 28, 29, 30, 31, 32, 33, 34, 35, 36, 37, 38, 39, 40, 41, 42, 43, 44, 45, 46, 47, 48] (by decide +kernel) (by decide +kernel)
set_option maxRecDepth 20000 in
theorem gX5_bound_X5_isName : GoodIn wsX5_bound (wsV RX5 129 RX5 yX5_isName wsX5_isName) := goodIn_app (goodIn_of _ (by decide +kernel)) ggX5_bound_X5_isName
theorem dX5_bound_0 : decode cX5_bound 0 = .ok (.aload_n 0, 1) := by decide +kernel
theorem dX5_bound_1 : decode cX5_bound 1 = .ok (.iload_n 1, 1) := by decide +kernel
theorem dX5_bound_2 : decode cX5_bound 2 = .ok (.invokevirtual 129, 3) := by decide +kernel
theorem dX5_bound_5 : decode cX5_bound 5 = .ok (.ifCond .ne 5, 3) := by decide +kernel
theorem dX5_bound_8 : decode cX5_bound 8 = .ok (.lconst 0, 1) := by decide +kernel
theorem dX5_bound_9 : decode cX5_bound 9 = .ok (.lreturn, 1) := by decide +kernel
theorem dX5_bound_10 : decode cX5_bound 10 = .ok (.aload_n 0, 1) := by decide +kernel
theorem dX5_bound_11 : decode cX5_bound 11 = .ok (.getfield 56, 3) := by decide +kernel
theorem dX5_bound_14 : decode cX5_bound 14 = .ok (.iload_n 1, 1) := by decide +kernel
theorem dX5_bound_15 : decode cX5_bound 15 = .ok (.iaload, 1) := by decide +kernel
theorem dX5_bound_16 : decode cX5_bound 16 = .ok (.istore_n 3, 1) := by decide +kernel
theorem dX5_bound_17 : decode cX5_bound 17 = .ok (.aload_n 0, 1) := by decide +kernel
theorem dX5_bound_18 : decode cX5_bound 18 = .ok (.getfield 59, 3) := by decide +kernel
theorem dX5_bound_21 : decode cX5_bound 21 = .ok (.iload_n 3, 1) := by decide +kernel
theorem dX5_bound_22 : decode cX5_bound 22 = .ok (.baload, 1) := by decide +kernel
theorem dX5_bound_23 : decode cX5_bound 23 = .ok (.ifCond .eq 10, 3) := by decide +kernel
theorem dX5_bound_26 : decode cX5_bound 26 = .ok (.aload_n 0, 1) := by decide +kernel
theorem dX5_bound_27 : decode cX5_bound 27 = .ok (.getfield 66, 3) := by decide +kernel
theorem dX5_bound_30 : decode cX5_bound 30 = .ok (.iload_n 3, 1) := by decide +kernel
theorem dX5_bound_31 : decode cX5_bound 31 = .ok (.laload, 1) := by decide +kernel
theorem dX5_bound_32 : decode cX5_bound 32 = .ok (.lreturn, 1) := by decide +kernel
theorem dX5_bound_33 : decode cX5_bound 33 = .ok (.aload_n 0, 1) := by decide +kernel
theorem dX5_bound_34 : decode cX5_bound 34 = .ok (.getfield 63, 3) := by decide +kernel
theorem dX5_bound_37 : decode cX5_bound 37 = .ok (.iload_n 3, 1) := by decide +kernel
theorem dX5_bound_38 : decode cX5_bound 38 = .ok (.baload, 1) := by decide +kernel
theorem dX5_bound_39 : decode cX5_bound 39 = .ok (.ifCond .eq 23, 3) := by decide +kernel
theorem dX5_bound_42 : decode cX5_bound 42 = .ok (.iload_n 2, 1) := by decide +kernel
theorem dX5_bound_43 : decode cX5_bound 43 = .ok (.ifCond .eq 12, 3) := by decide +kernel
theorem dX5_bound_46 : decode cX5_bound 46 = .ok (.aload_n 0, 1) := by decide +kernel
theorem dX5_bound_47 : decode cX5_bound 47 = .ok (.getfield 72, 3) := by decide +kernel
theorem dX5_bound_50 : decode cX5_bound 50 = .ok (.iload_n 3, 1) := by decide +kernel
theorem dX5_bound_51 : decode cX5_bound 51 = .ok (.laload, 1) := by decide +kernel
theorem dX5_bound_52 : decode cX5_bound 52 = .ok (.goto 9, 3) := by decide +kernel
theorem dX5_bound_55 : decode cX5_bound 55 = .ok (.aload_n 0, 1) := by decide +kernel
theorem dX5_bound_56 : decode cX5_bound 56 = .ok (.getfield 69, 3) := by decide +kernel
theorem dX5_bound_59 : decode cX5_bound 59 = .ok (.iload_n 3, 1) := by decide +kernel
theorem dX5_bound_60 : decode cX5_bound 60 = .ok (.laload, 1) := by decide +kernel
theorem dX5_bound_61 : decode cX5_bound 61 = .ok (.lreturn, 1) := by decide +kernel
theorem dX5_bound_62 : decode cX5_bound 62 = .ok (.iload_n 2, 1) := by decide +kernel
theorem dX5_bound_63 : decode cX5_bound 63 = .ok (.ifCond .eq 9, 3) := by decide +kernel
theorem dX5_bound_66 : decode cX5_bound 66 = .ok (.ldc2_w 167, 3) := by decide +kernel
theorem dX5_bound_69 : decode cX5_bound 69 = .ok (.goto 6, 3) := by decide +kernel
theorem dX5_bound_72 : decode cX5_bound 72 = .ok (.ldc2_w 169, 3) := by decide +kernel
theorem dX5_bound_75 : decode cX5_bound 75 = .ok (.lreturn, 1) := by decide +kernel
theorem dX5_kept_0 : decode cX5_kept 0 = .ok (.iload_n 1, 1) := by decide +kernel
