theorem goodIn_split {big ws : List Cond} (k : Nat) (h1 : GoodIn big (ws.take k)) (h2 : GoodIn big (ws.drop k)) : GoodIn big ws := fun w h => by
  rw [← List.take_append_drop k ws] at h
  exact (List.mem_append.mp h).elim (h1 w) (h2 w)
set_option maxRecDepth 20000 in
theorem lhs_0 : GoodIn wsL_law (List.take 40 wsL_holds) := goodIn_r _ [341, 195, 196, 197, 2, 198, 12, 148, 11, 149, 150, 99, 41, 38, 96, 98, 151, 152, 153, 154, 155, 156, 157, 45, 46, 158, 116, 117, 118, 140, 141, 142, 143, 32, 18, 144, 145, 146, 147, 159] (by decide +kernel) (by decide +kernel)
set_option maxRecDepth 20000 in
theorem lhs_1 : GoodIn wsL_law (List.take 40 (List.drop 40 wsL_holds)) := goodIn_r _ [160, 161, 162, 187, 188, 189, 190, 191, 192, 193, 39, 194, 163, 164, 165, 166, 28, 167, 168, 169, 95, 170, 27, 171, 172, 73, 173, 174, 175, 176, 177, 178, 179, 180, 181, 182, 183, 184, 185, 186] (by decide +kernel) (by decide +kernel)
set_option maxRecDepth 20000 in
theorem lhs_2 : GoodIn wsL_law (List.take 40 (List.drop 40 (List.drop 40 wsL_holds))) := goodIn_r _ [342, 343, 344, 345, 346, 347, 348, 349, 24, 350, 23, 351, 352, 272, 273, 274, 275, 276, 277, 278, 279, 69, 64, 68, 65, 280, 281, 282, 283, 284, 285, 286, 287, 288, 289, 290, 67, 291, 292, 309] (by decide +kernel) (by decide +kernel)
set_option maxRecDepth 20000 in
theorem lhs_3 : GoodIn wsL_law (List.take 40 (List.drop 40 (List.drop 40 (List.drop 40 wsL_holds)))) := goodIn_r _ [310, 311, 312, 313, 314, 315, 316, 317, 318, 319, 293, 294, 295, 296, 297, 298, 299, 300, 301, 302, 303, 304, 305, 306, 307, 308, 66, 353, 354, 355, 356, 357, 358, 359, 360, 361, 362, 363, 364, 365] (by decide +kernel) (by decide +kernel)
set_option maxRecDepth 20000 in
theorem lhs_4 : GoodIn wsL_law (List.take 40 (List.drop 40 (List.drop 40 (List.drop 40 (List.drop 40 wsL_holds))))) := goodIn_r _ [366, 367, 368, 369, 370, 371, 372, 373, 374, 375, 376, 377, 378, 269, 270, 271, 261, 262, 263, 264, 13, 92, 93, 94, 97, 100, 48, 101, 102, 103, 104, 105, 106, 107, 44, 108, 109, 110, 111, 265] (by decide +kernel) (by decide +kernel)
set_option maxRecDepth 20000 in
theorem lhs_5 : GoodIn wsL_law (List.take 40 (List.drop 40 (List.drop 40 (List.drop 40 (List.drop 40 (List.drop 40 wsL_holds)))))) := goodIn_r _ [266, 267, 268, 320, 321, 322, 323, 251, 252, 253, 324, 254, 255, 256, 257, 258, 259, 260, 325, 326, 327, 328, 329, 119, 120, 121, 122, 123, 17, 124, 125, 91, 59, 126, 127, 128, 129, 84, 85, 86] (by decide +kernel) (by decide +kernel)
set_option maxRecDepth 20000 in
theorem lhs_6 : GoodIn wsL_law (List.take 40 (List.drop 40 (List.drop 40 (List.drop 40 (List.drop 40 (List.drop 40 (List.drop 40 wsL_holds))))))) := goodIn_r _ [87, 88, 89, 90, 379, 380, 381, 382, 383, 384, 385, 386, 387, 388, 389, 390, 391, 392, 393, 394, 395, 396, 415, 416, 417, 418, 413, 414, 409, 410, 397, 398, 407, 408, 399, 400, 401, 402, 403, 404] (by decide +kernel) (by decide +kernel)
set_option maxRecDepth 20000 in
theorem lhs_7 : GoodIn wsL_law (List.drop 40 (List.drop 40 (List.drop 40 (List.drop 40 (List.drop 40 (List.drop 40 (List.drop 40 wsL_holds))))))) := goodIn_r _ [405, 406] (by decide +kernel) (by decide +kernel)
theorem ggL_law_L_holds : GoodIn wsL_law wsL_holds := goodIn_split 40 lhs_0 (goodIn_split 40 lhs_1 (goodIn_split 40 lhs_2 (goodIn_split 40 lhs_3 (goodIn_split 40 lhs_4 (goodIn_split 40 lhs_5 (goodIn_split 40 lhs_6 lhs_7))))))
set_option maxRecDepth 20000 in
theorem gL_law_L_holds : GoodIn wsL_law (va_wsS RL 93 yL_holds wsL_holds) := goodIn_app (goodIn_of _ (by decide +kernel)) ggL_law_L_holds
theorem dL_law_0 : decode cL_law 0 = .ok (.new 13, 3) := by decide +kernel
theorem dL_law_3 : decode cL_law 3 = .ok (.dup, 1) := by decide +kernel
theorem dL_law_4 : decode cL_law 4 = .ok (.invokespecial 77, 3) := by decide +kernel
theorem dL_law_7 : decode cL_law 7 = .ok (.astore_n 1, 1) := by decide +kernel
theorem dL_law_8 : decode cL_law 8 = .ok (.aload_n 1, 1) := by decide +kernel
theorem dL_law_9 : decode cL_law 9 = .ok (.invokevirtual 74, 3) := by decide +kernel
theorem dL_law_12 : decode cL_law 12 = .ok (.bipush (-5), 2) := by decide +kernel
theorem dL_law_14 : decode cL_law 14 = .ok (.if_icmp .ne 21, 3) := by decide +kernel
theorem dL_law_17 : decode cL_law 17 = .ok (.aload_n 1, 1) := by decide +kernel
theorem dL_law_18 : decode cL_law 18 = .ok (.iconst 1, 1) := by decide +kernel
theorem dL_law_19 : decode cL_law 19 = .ok (.invokevirtual 53, 3) := by decide +kernel
theorem dL_law_22 : decode cL_law 22 = .ok (.bipush (-5), 2) := by decide +kernel
theorem dL_law_24 : decode cL_law 24 = .ok (.if_icmp .ne 11, 3) := by decide +kernel
theorem dL_law_27 : decode cL_law 27 = .ok (.aload_n 1, 1) := by decide +kernel
theorem dL_law_28 : decode cL_law 28 = .ok (.iconst 0, 1) := by decide +kernel
theorem dL_law_29 : decode cL_law 29 = .ok (.invokevirtual 78, 3) := by decide +kernel
theorem dL_law_32 : decode cL_law 32 = .ok (.ifCond .eq 5, 3) := by decide +kernel
theorem dL_law_35 : decode cL_law 35 = .ok (.iconst 0, 1) := by decide +kernel
theorem dL_law_36 : decode cL_law 36 = .ok (.ireturn, 1) := by decide +kernel
theorem dL_law_37 : decode cL_law 37 = .ok (.aload_n 1, 1) := by decide +kernel
theorem dL_law_38 : decode cL_law 38 = .ok (.invokestatic 81, 3) := by decide +kernel
theorem dL_law_41 : decode cL_law 41 = .ok (.lstore_n 2, 1) := by decide +kernel
theorem dL_law_42 : decode cL_law 42 = .ok (.iconst 0, 1) := by decide +kernel
theorem dL_law_43 : decode cL_law 43 = .ok (.istore 4, 2) := by decide +kernel
theorem dL_law_45 : decode cL_law 45 = .ok (.iload 4, 2) := by decide +kernel
theorem dL_law_47 : decode cL_law 47 = .ok (.bipush 36, 2) := by decide +kernel
theorem dL_law_49 : decode cL_law 49 = .ok (.if_icmp .ge 266, 3) := by decide +kernel
theorem dL_law_52 : decode cL_law 52 = .ok (.iload 4, 2) := by decide +kernel
theorem dL_law_54 : decode cL_law 54 = .ok (.iconst 3, 1) := by decide +kernel
theorem dL_law_55 : decode cL_law 55 = .ok (.if_icmp .ge 7, 3) := by decide +kernel
theorem dL_law_58 : decode cL_law 58 = .ok (.iconst 0, 1) := by decide +kernel
theorem dL_law_59 : decode cL_law 59 = .ok (.goto 11, 3) := by decide +kernel
theorem dL_law_62 : decode cL_law 62 = .ok (.aload_n 0, 1) := by decide +kernel
theorem dL_law_63 : decode cL_law 63 = .ok (.iconst 2, 1) := by decide +kernel
theorem dL_law_64 : decode cL_law 64 = .ok (.iload 4, 2) := by decide +kernel
theorem dL_law_66 : decode cL_law 66 = .ok (.imul, 1) := by decide +kernel
theorem dL_law_67 : decode cL_law 67 = .ok (.invokestatic 85, 3) := by decide +kernel
theorem dL_law_70 : decode cL_law 70 = .ok (.istore 5, 2) := by decide +kernel
theorem dL_law_72 : decode cL_law 72 = .ok (.aload_n 0, 1) := by decide +kernel
theorem dL_law_73 : decode cL_law 73 = .ok (.iconst 2, 1) := by decide +kernel
theorem dL_law_74 : decode cL_law 74 = .ok (.iload 4, 2) := by decide +kernel
theorem dL_law_76 : decode cL_law 76 = .ok (.imul, 1) := by decide +kernel
theorem dL_law_77 : decode cL_law 77 = .ok (.iconst 1, 1) := by decide +kernel
theorem dL_law_78 : decode cL_law 78 = .ok (.iadd, 1) := by decide +kernel
theorem dL_law_79 : decode cL_law 79 = .ok (.invokestatic 85, 3) := by decide +kernel
theorem dL_law_82 : decode cL_law 82 = .ok (.istore 6, 2) := by decide +kernel
theorem dL_law_84 : decode cL_law 84 = .ok (.aload_n 1, 1) := by decide +kernel
theorem dL_law_85 : decode cL_law 85 = .ok (.invokestatic 81, 3) := by decide +kernel
theorem dL_law_88 : decode cL_law 88 = .ok (.lstore 7, 2) := by decide +kernel
theorem dL_law_90 : decode cL_law 90 = .ok (.aload_n 1, 1) := by decide +kernel
theorem dL_law_91 : decode cL_law 91 = .ok (.bipush 10, 2) := by decide +kernel
theorem dL_law_93 : decode cL_law 93 = .ok (.invokevirtual 12, 3) := by decide +kernel
theorem dL_law_96 : decode cL_law 96 = .ok (.istore 9, 2) := by decide +kernel
theorem dL_law_98 : decode cL_law 98 = .ok (.aload_n 1, 1) := by decide +kernel
theorem dL_law_99 : decode cL_law 99 = .ok (.iload 5, 2) := by decide +kernel
theorem dL_law_101 : decode cL_law 101 = .ok (.iload 6, 2) := by decide +kernel
theorem dL_law_103 : decode cL_law 103 = .ok (.invokestatic 89, 3) := by decide +kernel
theorem dL_law_106 : decode cL_law 106 = .ok (.istore 10, 2) := by decide +kernel
theorem dL_law_108 : decode cL_law 108 = .ok (.aload_n 1, 1) := by decide +kernel
theorem dL_law_109 : decode cL_law 109 = .ok (.invokestatic 81, 3) := by decide +kernel
theorem dL_law_112 : decode cL_law 112 = .ok (.lstore 11, 2) := by decide +kernel
theorem dL_law_114 : decode cL_law 114 = .ok (.iload 10, 2) := by decide +kernel
theorem dL_law_116 : decode cL_law 116 = .ok (.ifCond .ge 25, 3) := by decide +kernel
theorem dL_law_119 : decode cL_law 119 = .ok (.lload 11, 2) := by decide +kernel
theorem dL_law_121 : decode cL_law 121 = .ok (.lload 7, 2) := by decide +kernel
theorem dL_law_123 : decode cL_law 123 = .ok (.lcmp, 1) := by decide +kernel
theorem dL_law_124 : decode cL_law 124 = .ok (.ifCond .ne 42, 3) := by decide +kernel
theorem dL_law_127 : decode cL_law 127 = .ok (.aload_n 1, 1) := by decide +kernel
theorem dL_law_128 : decode cL_law 128 = .ok (.bipush 10, 2) := by decide +kernel
theorem dL_law_130 : decode cL_law 130 = .ok (.invokevirtual 12, 3) := by decide +kernel
theorem dL_law_133 : decode cL_law 133 = .ok (.iload 9, 2) := by decide +kernel
theorem dL_law_135 : decode cL_law 135 = .ok (.if_icmp .eq 33, 3) := by decide +kernel
theorem dL_law_138 : decode cL_law 138 = .ok (.goto 28, 3) := by decide +kernel
theorem dL_law_141 : decode cL_law 141 = .ok (.aload_n 1, 1) := by decide +kernel
theorem dL_law_142 : decode cL_law 142 = .ok (.bipush 10, 2) := by decide +kernel
theorem dL_law_144 : decode cL_law 144 = .ok (.invokevirtual 12, 3) := by decide +kernel
theorem dL_law_147 : decode cL_law 147 = .ok (.iload 9, 2) := by decide +kernel
theorem dL_law_149 : decode cL_law 149 = .ok (.bipush 6, 2) := by decide +kernel
theorem dL_law_151 : decode cL_law 151 = .ok (.if_icmp .ge 10, 3) := by decide +kernel
theorem dL_law_154 : decode cL_law 154 = .ok (.iload 9, 2) := by decide +kernel
theorem dL_law_156 : decode cL_law 156 = .ok (.iconst 1, 1) := by decide +kernel
theorem dL_law_157 : decode cL_law 157 = .ok (.iadd, 1) := by decide +kernel
theorem dL_law_158 : decode cL_law 158 = .ok (.goto 5, 3) := by decide +kernel
theorem dL_law_161 : decode cL_law 161 = .ok (.bipush 6, 2) := by decide +kernel
theorem dL_law_163 : decode cL_law 163 = .ok (.if_icmp .eq 5, 3) := by decide +kernel
theorem dL_law_166 : decode cL_law 166 = .ok (.iconst 0, 1) := by decide +kernel
theorem dL_law_167 : decode cL_law 167 = .ok (.ireturn, 1) := by decide +kernel
theorem dL_law_168 : decode cL_law 168 = .ok (.iload 10, 2) := by decide +kernel
theorem dL_law_170 : decode cL_law 170 = .ok (.ifCond .lt 22, 3) := by decide +kernel
theorem dL_law_173 : decode cL_law 173 = .ok (.iload 5, 2) := by decide +kernel
theorem dL_law_175 : decode cL_law 175 = .ok (.bipush 15, 2) := by decide +kernel
theorem dL_law_177 : decode cL_law 177 = .ok (.iand, 1) := by decide +kernel
theorem dL_law_178 : decode cL_law 178 = .ok (.bipush 8, 2) := by decide +kernel
theorem dL_law_180 : decode cL_law 180 = .ok (.if_icmp .ne 12, 3) := by decide +kernel
theorem dL_law_183 : decode cL_law 183 = .ok (.lload 11, 2) := by decide +kernel
theorem dL_law_185 : decode cL_law 185 = .ok (.lload_n 2, 1) := by decide +kernel
theorem dL_law_186 : decode cL_law 186 = .ok (.lcmp, 1) := by decide +kernel
theorem dL_law_187 : decode cL_law 187 = .ok (.ifCond .eq 5, 3) := by decide +kernel
theorem dL_law_190 : decode cL_law 190 = .ok (.iconst 0, 1) := by decide +kernel
theorem dL_law_191 : decode cL_law 191 = .ok (.ireturn, 1) := by decide +kernel
theorem dL_law_192 : decode cL_law 192 = .ok (.iload 10, 2) := by decide +kernel
theorem dL_law_194 : decode cL_law 194 = .ok (.ifCond .lt 67, 3) := by decide +kernel
theorem dL_law_197 : decode cL_law 197 = .ok (.iload 5, 2) := by decide +kernel
theorem dL_law_199 : decode cL_law 199 = .ok (.bipush 9, 2) := by decide +kernel
theorem dL_law_201 : decode cL_law 201 = .ok (.ishr, 1) := by decide +kernel
theorem dL_law_202 : decode cL_law 202 = .ok (.iconst 1, 1) := by decide +kernel
theorem dL_law_203 : decode cL_law 203 = .ok (.iand, 1) := by decide +kernel
theorem dL_law_204 : decode cL_law 204 = .ok (.ifCond .ne 57, 3) := by decide +kernel
theorem dL_law_207 : decode cL_law 207 = .ok (.aload_n 1, 1) := by decide +kernel
theorem dL_law_208 : decode cL_law 208 = .ok (.bipush 10, 2) := by decide +kernel
theorem dL_law_210 : decode cL_law 210 = .ok (.invokevirtual 12, 3) := by decide +kernel
theorem dL_law_213 : decode cL_law 213 = .ok (.iconst 1, 1) := by decide +kernel
theorem dL_law_214 : decode cL_law 214 = .ok (.isub, 1) := by decide +kernel
theorem dL_law_215 : decode cL_law 215 = .ok (.istore 13, 2) := by decide +kernel
theorem dL_law_217 : decode cL_law 217 = .ok (.aload_n 1, 1) := by decide +kernel
theorem dL_law_218 : decode cL_law 218 = .ok (.invokevirtual 74, 3) := by decide +kernel
theorem dL_law_221 : decode cL_law 221 = .ok (.iload 13, 2) := by decide +kernel
theorem dL_law_223 : decode cL_law 223 = .ok (.if_icmp .ne 36, 3) := by decide +kernel
theorem dL_law_226 : decode cL_law 226 = .ok (.aload_n 1, 1) := by decide +kernel
theorem dL_law_227 : decode cL_law 227 = .ok (.invokestatic 81, 3) := by decide +kernel
theorem dL_law_230 : decode cL_law 230 = .ok (.lload 7, 2) := by decide +kernel
theorem dL_law_232 : decode cL_law 232 = .ok (.lcmp, 1) := by decide +kernel
theorem dL_law_233 : decode cL_law 233 = .ok (.ifCond .ne 26, 3) := by decide +kernel
theorem dL_law_236 : decode cL_law 236 = .ok (.aload_n 1, 1) := by decide +kernel
theorem dL_law_237 : decode cL_law 237 = .ok (.iload 5, 2) := by decide +kernel
theorem dL_law_239 : decode cL_law 239 = .ok (.iload 6, 2) := by decide +kernel
theorem dL_law_241 : decode cL_law 241 = .ok (.invokestatic 89, 3) := by decide +kernel
theorem dL_law_244 : decode cL_law 244 = .ok (.iload 10, 2) := by decide +kernel
theorem dL_law_246 : decode cL_law 246 = .ok (.if_icmp .ne 13, 3) := by decide +kernel
theorem dL_law_249 : decode cL_law 249 = .ok (.aload_n 1, 1) := by decide +kernel
theorem dL_law_250 : decode cL_law 250 = .ok (.invokestatic 81, 3) := by decide +kernel
theorem dL_law_253 : decode cL_law 253 = .ok (.lload 11, 2) := by decide +kernel
theorem dL_law_255 : decode cL_law 255 = .ok (.lcmp, 1) := by decide +kernel
theorem dL_law_256 : decode cL_law 256 = .ok (.ifCond .eq 5, 3) := by decide +kernel
theorem dL_law_259 : decode cL_law 259 = .ok (.iconst 0, 1) := by decide +kernel
theorem dL_law_260 : decode cL_law 260 = .ok (.ireturn, 1) := by decide +kernel
theorem dL_law_261 : decode cL_law 261 = .ok (.iload 4, 2) := by decide +kernel
theorem dL_law_263 : decode cL_law 263 = .ok (.iconst 4, 1) := by decide +kernel
theorem dL_law_264 : decode cL_law 264 = .ok (.irem, 1) := by decide +kernel
theorem dL_law_265 : decode cL_law 265 = .ok (.iconst 3, 1) := by decide +kernel
theorem dL_law_266 : decode cL_law 266 = .ok (.if_icmp .ne 22, 3) := by decide +kernel
theorem dL_law_269 : decode cL_law 269 = .ok (.aload_n 1, 1) := by decide +kernel
theorem dL_law_270 : decode cL_law 270 = .ok (.invokestatic 93, 3) := by decide +kernel
theorem dL_law_273 : decode cL_law 273 = .ok (.ifCond .eq 13, 3) := by decide +kernel
theorem dL_law_276 : decode cL_law 276 = .ok (.aload_n 1, 1) := by decide +kernel
theorem dL_law_277 : decode cL_law 277 = .ok (.invokestatic 81, 3) := by decide +kernel
theorem dL_law_280 : decode cL_law 280 = .ok (.lload 11, 2) := by decide +kernel
theorem dL_law_282 : decode cL_law 282 = .ok (.lcmp, 1) := by decide +kernel
theorem dL_law_283 : decode cL_law 283 = .ok (.ifCond .eq 5, 3) := by decide +kernel
theorem dL_law_286 : decode cL_law 286 = .ok (.iconst 0, 1) := by decide +kernel
theorem dL_law_287 : decode cL_law 287 = .ok (.ireturn, 1) := by decide +kernel
theorem dL_law_288 : decode cL_law 288 = .ok (.iload 5, 2) := by decide +kernel
theorem dL_law_290 : decode cL_law 290 = .ok (.bipush 10, 2) := by decide +kernel
theorem dL_law_292 : decode cL_law 292 = .ok (.ishr, 1) := by decide +kernel
theorem dL_law_293 : decode cL_law 293 = .ok (.bipush 7, 2) := by decide +kernel
theorem dL_law_295 : decode cL_law 295 = .ok (.iand, 1) := by decide +kernel
theorem dL_law_296 : decode cL_law 296 = .ok (.iconst 1, 1) := by decide +kernel
theorem dL_law_297 : decode cL_law 297 = .ok (.if_icmp .ne 12, 3) := by decide +kernel
theorem dL_law_300 : decode cL_law 300 = .ok (.aload_n 1, 1) := by decide +kernel
theorem dL_law_301 : decode cL_law 301 = .ok (.iconst 0, 1) := by decide +kernel
theorem dL_law_302 : decode cL_law 302 = .ok (.invokevirtual 78, 3) := by decide +kernel
theorem dL_law_305 : decode cL_law 305 = .ok (.pop, 1) := by decide +kernel
theorem dL_law_306 : decode cL_law 306 = .ok (.lload 11, 2) := by decide +kernel
theorem dL_law_308 : decode cL_law 308 = .ok (.lstore_n 2, 1) := by decide +kernel
theorem dL_law_309 : decode cL_law 309 = .ok (.iinc 4 1, 3) := by decide +kernel
theorem dL_law_312 : decode cL_law 312 = .ok (.goto (-267), 3) := by decide +kernel
theorem dL_law_315 : decode cL_law 315 = .ok (.aload_n 1, 1) := by decide +kernel
theorem dL_law_316 : decode cL_law 316 = .ok (.iconst 0, 1) := by decide +kernel
theorem dL_law_317 : decode cL_law 317 = .ok (.invokevirtual 53, 3) := by decide +kernel
theorem dL_law_320 : decode cL_law 320 = .ok (.aload_n 1, 1) := by decide +kernel
theorem dL_law_321 : decode cL_law 321 = .ok (.iconst 1, 1) := by decide +kernel
theorem dL_law_322 : decode cL_law 322 = .ok (.invokevirtual 12, 3) := by decide +kernel
theorem dL_law_325 : decode cL_law 325 = .ok (.if_icmp .ne 16, 3) := by decide +kernel
theorem dL_law_328 : decode cL_law 328 = .ok (.aload_n 1, 1) := by decide +kernel
theorem dL_law_329 : decode cL_law 329 = .ok (.invokestatic 81, 3) := by decide +kernel
theorem dL_law_332 : decode cL_law 332 = .ok (.lload_n 2, 1) := by decide +kernel
theorem dL_law_333 : decode cL_law 333 = .ok (.lcmp, 1) := by decide +kernel
theorem dL_law_334 : decode cL_law 334 = .ok (.ifCond .ne 7, 3) := by decide +kernel
theorem dL_law_337 : decode cL_law 337 = .ok (.iconst 1, 1) := by decide +kernel
theorem dL_law_338 : decode cL_law 338 = .ok (.goto 4, 3) := by decide +kernel
theorem dL_law_341 : decode cL_law 341 = .ok (.iconst 0, 1) := by decide +kernel
theorem dL_law_342 : decode cL_law 342 = .ok (.ireturn, 1) := by decide +kernel
